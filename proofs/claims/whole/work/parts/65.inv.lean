/-! THE INVARIANT BETWEEN TWO CALLS -/
def TI (E : eg_E) (C : Nat) (Y : Nat → Int32) : Prop := yI E C Y ∧ (oI E Y ∧ lI E Y) ∧ kz E Y
theorem TI.sec {E : eg_E} {C : Nat} {Y : Nat → Int32} (hE : wE E) (hC : C < 1000000) (hC2 : 119 ≤ C) (h : TI E C Y) (n : Nat) (hn : (Y 0).toInt + n ≤ 3600) : TI E C (secN E n Y) := ⟨(secN_I hE hC hC2 h.1 n hn).1, ⟨secN_O hE hC hC2 h.1 h.2.1.1 n hn, secN_L hE hC hC2 h.1 h.2.1.2 n hn⟩, (secN_K hE hC hC2 h.1 h.2.2 0 (by omega) 0 n hn).1⟩
theorem TI.mono {E : eg_E} {C D : Nat} {Y : Nat → Int32} (h : TI E C Y) (hD : C ≤ D) : TI E D Y := by
  obtain ⟨⟨q, r, g, p, s⟩, o, k⟩ := h
  refine ⟨⟨q, r, g, fun s hs => ?_, s⟩, o, k⟩
  obtain ⟨p1, p2⟩ := p s hs
  refine ⟨by omega, ?_⟩
  rcases p2 with p2 | p2
  · exact Or.inl p2
  · exact Or.inr ⟨⟨p2.1.1, p2.1.2.1, by omega⟩, p2.2⟩
theorem TI_EQ {E F : eg_E} (h : EQ E F) {C : Nat} {Y : Nat → Int32} (r : TI E C Y) : TI F C Y := by
  obtain ⟨L, rfl, _⟩ := h.of
  exact r
theorem bg_T {E : eg_E} {R Y : Nat → Int32} {C : Nat} (hE : wE E) (hE2 : wE2 E) (hR : oR E R) (hC : 60 ≤ C) (hY : bgY E R Y) : TI E C Y := ⟨bg_I hE hE2 hR hC hY, ⟨bg_O hY, bg_L hY⟩, bg_K hY⟩
/-! the cells of table t -/
def tOf (r : eg_R) (t : Nat) : Prop := ((r.1 = 7 ∨ r.1 = 43 ∨ r.1 = 40) ∧ r.2 = t) ∨ (r.1 = 4 ∧ r.2 / 5 = t) ∨ ((r.1 = 2 ∨ r.1 = 22) ∧ r.2 / 15 = t)
theorem cX_no {t : Nat} {r : eg_R} (h : ¬ tOf r t) (k : Nat) : cX t r k = 0 := by
  obtain ⟨a, b⟩ := r
  unfold tOf at h
  unfold cX
  dsimp only at h ⊢
  by_cases h7 : a = 7
  · rw [if_pos h7, if_neg (by omega)]
  · rw [if_neg h7]
    by_cases h43 : a = 43
    · rw [if_pos h43, if_neg (by omega)]
    · rw [if_neg h43]
      by_cases h40 : a = 40
      · rw [if_pos h40, if_neg (by omega)]
      · rw [if_neg h40]
        by_cases h4 : a = 4
        · rw [if_pos h4, if_neg (by omega)]
        · rw [if_neg h4]
          by_cases h2 : a = 2
          · rw [if_pos h2, if_neg (by omega)]
          · rw [if_neg h2]
            by_cases h22 : a = 22
            · rw [if_pos h22, if_neg (by omega)]
            · rw [if_neg h22]
theorem TX_fr (M : eg_H) (t p : Nat) (nm st : Nat → Int64) (Z : Nat → Int32) {r : eg_R} (h : ¬ tOf r t) : (TX M t p nm st Z).1 r = M.1 r := funext (fun k => TX_o (cX_no h k))
theorem nT_k {k j t : Nat} (h : k ≠ 7 ∧ k ≠ 43 ∧ k ≠ 40 ∧ k ≠ 4 ∧ k ≠ 2 ∧ k ≠ 22) : ¬ tOf (k, j) t := by
  unfold tOf
  dsimp only
  omega
theorem nT_p {r : eg_R} {p t : Nat} (h : pOf r p) : ¬ tOf r t := by
  unfold tOf
  unfold pOf at h
  omega
theorem nP_t {r : eg_R} {p t : Nat} (h : tOf r t) : ¬ pOf r p := fun q => nT_p q h
theorem nT_t {r : eg_R} {s t : Nat} (h : tOf r t) (hst : s ≠ t) : ¬ tOf r s := by
  unfold tOf at *
  omega
theorem aT_cong {M M1 : eg_H} {t : Nat} (h : ∀ r, tOf r t → M1.1 r = M.1 r) : aT M1 t = aT M t := by
  have k7 : M1.1 (7, t) = M.1 (7, t) := h _ (Or.inl ⟨Or.inl rfl, rfl⟩)
  have k43 : M1.1 (43, t) = M.1 (43, t) := h _ (Or.inl ⟨Or.inr (Or.inl rfl), rfl⟩)
  have k40 : M1.1 (40, t) = M.1 (40, t) := h _ (Or.inl ⟨Or.inr (Or.inr rfl), rfl⟩)
  have k4 : ∀ s, s < 5 → M1.1 (4, 5 * t + s) = M.1 (4, 5 * t + s) := fun s hs => h _ (Or.inr (Or.inl ⟨rfl, by show (5 * t + s) / 5 = t; omega⟩))
  have k2 : ∀ g, g < 15 → M1.1 (2, 15 * t + g) = M.1 (2, 15 * t + g) := fun s hs => h _ (Or.inr (Or.inr ⟨Or.inl rfl, by show (15 * t + s) / 15 = t; omega⟩))
  have k22 : ∀ g, g < 15 → M1.1 (22, 15 * t + g) = M.1 (22, 15 * t + g) := fun s hs => h _ (Or.inr (Or.inr ⟨Or.inr rfl, by show (15 * t + s) / 15 = t; omega⟩))
  funext i
  unfold aT
  rw [k7, k43, k40]
  split
  · rfl
  · split
    · rfl
    · split
      · rfl
      · split
        · rfl
        · split
          · rfl
          · split
            · rw [k4 _ (by omega)]
            · rw [k2 _ (by omega), k22 _ (by omega)]
theorem cE_cong {M M1 : eg_H} {p : Nat} (hW : cW M p) (h : ∀ r, pOf r p → M1.1 r = M.1 r) : cE M1 p = cE M p := by
  have hn := (cN_e hW).2
  have hP := (cP_e hW).2
  refine PEq.E ?_ hW
  have a5 := h (5, p) (pOf_k (by omega))
  refine ⟨by rw [a5]; exact ⟨rfl, rfl, rfl, rfl, rfl⟩, fun s k hs hk => by rw [h _ (pOf_1 (by omega))], fun g hg => ⟨fun k hk => by rw [h _ (pOf_0 (by omega))], fun k hk => by rw [h _ (pOf_20 (by omega))]⟩, fun k hk => by rw [h _ (pOf_k (by omega))], by rw [h _ (pOf_k (by omega))], fun k hk => by rw [h _ (pOf_k (by omega))], fun k hk => by rw [h _ (pOf_k (by omega))], fun k hk => by rw [h _ (pOf_k (by omega))]⟩
/-! what is done by hand -/
def putF (x : Int32) (s : Nat) (Y : Nat → Int32) : Nat → Int32 := upd (upd (upd Y (320 + 8 * s) (Y (320 + 8 * s) + x)) (320 + 8 * s + 1) 0) (320 + 8 * s + 6) (Y (320 + 8 * s + 6) + 1)
def chgF (a b : Nat) (Y : Nat → Int32) : Nat → Int32 := upd (upd Y (360 + a) (Y (360 + b))) (360 + b) (Y (360 + a))
def ixQ (Y : Nat → Int32) (g : Nat) : Nat := (fst1 (fun k => decide (Y (2 + k) = nI g)) 0 (Y 1).toNatClampNeg).toNatClampNeg
def sndF (z : Int32) (g : Nat) (Y : Nat → Int32) : Nat → Int32 :=
  upd (upd (upd (upd (if Y (20 + 20 * g) = 1 then ool (upd Y (20 + 20 * g + 7) (Y (20 + 20 * g + 7) + (z - Y (20 + 20 * g + 2)))) (ixQ Y g) else Y) (20 + 20 * g) 3) (20 + 20 * g + 1) (-1)) (20 + 20 * g + 2) z) (20 + 20 * g + 3) 0
def dF (E : eg_E) (k a b : Int32) (Y : Nat → Int32) : Nat → Int32 := if k = 0 then putF (eD E a.toNatClampNeg 2) a.toNatClampNeg Y else if k = 1 then chgF a.toNatClampNeg b.toNatClampNeg Y else sndF (eC E a.toNatClampNeg 1) a.toNatClampNeg Y
def dOK (E : eg_E) (k a b : Int32) (Y : Nat → Int32) : Prop := (k = 0 ∧ vp_in a (eN E) ∧ ¬ eD E a.toNatClampNeg 2 = 0) ∨ (k = 1 ∧ vp_in a (eN E) ∧ vp_in b (eN E) ∧ ¬ a = b ∧ Y 1 = 0) ∨ (k = 2 ∧ vp_in a (eP E) ∧ ¬ Y (20 + 20 * a.toNatClampNeg) = 3)
def bR (b m : Int32) : Prop := (0 ≤ b.toInt ∧ b.toInt < 128 ∧ m = b) ∨ (b.toInt < 0 ∧ 128 ≤ m.toInt ∧ m.toInt < 256)
/-- plan, row, seconds -/
def J1 (M : eg_H) (p : Nat) (N : eg_H) (C : Nat) : Prop := (M.2.2 (10, 0) 3 = (5, p) ∧ M.2.2 (10, 0) 4 = (5, 1 - p) ∧ M.2.2 (7, 0) 0 = (5, p)) ∧ PL M p N ∧ (RY (cE M p) (aT M 0) (N.1 (111, 0)) ∧ TI (cE M p) C (N.1 (111, 0))) ∧ ∀ k, k < 5 → N.1 (112, 0) k = N.1 (111, 0) (360 + k)
/-- the image -/
def J2 (M : eg_H) (p : Nat) (N : eg_H) (C : Nat) : Prop := (N.1 (60, 0) 80 = 0 ∨ N.1 (60, 0) 80 = 1) ∧ M.1 (10, 0) 8 = N.1 (60, 0) 80 ∧ (¬ N.1 (60, 0) 80 = 0 → M.2.2 (7, 2) 0 = (5, p) ∧ RY (cE M p) (aT M 2) (N.1 (142, 0)) ∧ TI (cE M p) C (N.1 (142, 0)))
/-- what can be undone -/
def J3 (M : eg_H) (p : Nat) (N : eg_H) (C : Nat) : Prop := ∃ u, u ≤ 20 ∧ M.1 (10, 0) 11 = nI u ∧ N.1 (60, 0) 69 = nI u ∧ (0 < u → M.2.2 (7, 3) 0 = (5, p) ∧ ∃ Ys : Nat → Nat → Int32, RY (cE M p) (aT M 3) (Ys 0) ∧ (∀ j, j < 366 → Ys u j = N.1 (111, 0) j) ∧ ∀ k, k < u → (∀ j, j < 366 → Ys k j = N.1 (131, 0) (366 * k + j)) ∧ TI (cE M p) C (Ys k) ∧ dOK (cE M p) (M.1 (51, 0) (3 * k)) (M.1 (51, 0) (3 * k + 1)) (M.1 (51, 0) (3 * k + 2)) (Ys k) ∧ ∀ j, j < 366 → Ys (k + 1) j = dF (cE M p) (M.1 (51, 0) (3 * k)) (M.1 (51, 0) (3 * k + 1)) (M.1 (51, 0) (3 * k + 2)) (Ys k) j)
/-- what is counted -/
def J4 (M : eg_H) (p : Nat) (N : eg_H) : Prop := ∃ c, c ≤ 40 ∧ M.1 (8, 0) 0 = nI c ∧ N.1 (60, 0) 73 = nI c ∧ M.1 (8, 0) 1 = N.1 (60, 0) 74 ∧ (-1 ≤ (N.1 (60, 0) 74).toInt ∧ (N.1 (60, 0) 74).toInt ≤ c) ∧ ∀ i, i < c → M.1 (44, 0) i = N.1 (136, 0) i ∧ M.1 (45, 0) i = N.1 (137, 0) i ∧ ((N.1 (136, 0) i = -1 ∧ vp_in (N.1 (137, 0) i) i) ∨ (vp_in (N.1 (136, 0) i) (cN M p) ∧ vp_in (N.1 (137, 0) i) 3600 ∧ M.1 (46, 0) i = N.1 (138, 0) i ∧ M.1 (47, 0) i = N.1 (139, 0) i))
/-- the words of the language in the model -/
def wdM (i : Nat) : Int32 := ([115, 116, 97, 116, 105, 111, 110, 32, 103, 117, 101, 115, 116, 32, 112, 97, 115, 115, 32, 97, 103, 97, 105, 110, 32, 99, 108, 111, 115, 101, 32, 108, 97, 119, 32, 109, 97, 121, 32, 112, 97, 110, 32, 99, 111, 108, 100, 32, 119, 97, 110, 116, 115, 32, 104, 101, 97, 112, 32, 108, 101, 97, 118, 101, 32, 101, 97, 116, 115, 32, 97, 110, 100, 32, 111, 114, 32, 110, 111, 116, 32, 119, 97, 110, 116, 32, 114, 111, 111, 109, 32, 104, 101, 114, 101, 32, 97, 103, 101, 32, 108, 105, 110, 101, 32, 108, 97, 116, 101, 32, 115, 105, 122, 101, 32, 116, 97, 107, 101, 110, 32] : List Int32).getD i 0
/-- the tape, the fault -/
def J5 (M N : eg_H) : Prop := (∀ j, 366 ≤ j → N.1 (110, 0) j = 0) ∧ (∃ t, t ≤ 800 ∧ M.1 (10, 0) 1 = nI t ∧ N.1 (60, 0) 1 = nI t ∧ ∀ i, i < t → bR (M.1 (50, 0) i) (N.1 (61, 0) i)) ∧ M.1 (6, 0) 2 = N.1 (60, 0) 4 ∧ M.1 (6, 0) 3 = N.1 (60, 0) 5 ∧ ∀ i, i < 121 → N.1 (64, 0) i = wdM i
def JJ (M N : eg_H) (C p : Nat) : Prop := J1 M p N C ∧ J2 M p N C ∧ J3 M p N C ∧ J4 M p N ∧ J5 M N
/-! what a question changes -/
def FrQ (p : Nat) (M M1 : eg_H) : Prop := (∀ r, ¬ pOf r (1 - p) → ¬ tOf r 1 → r.1 ≠ 52 → r.1 ≠ 53 → r.1 ≠ 48 → M1.1 r = M.1 r) ∧ ∀ r k, r ≠ (7, 1) → M1.2.2 r k = M.2.2 r k
def FrN (N N1 : eg_H) : Prop := (∀ k, k ≠ 2 → (k < 52 ∨ 63 < k) → k ≠ 68 → N1.1 (60, 0) k = N.1 (60, 0) k) ∧ (∀ r, r.1 ≠ 60 → r.1 ≠ 110 → r.1 ≠ 125 → r.1 ≠ 126 → r.1 ≠ 132 → r.1 ≠ 133 → r.1 ≠ 140 → r.1 ≠ 91 → r.1 ≠ 92 → r.1 ≠ 93 → N1.1 r = N.1 r) ∧ (∀ g, g < (N.1 (60, 0) 13).toNatClampNeg → N1.1 (91, 0) g = N.1 (91, 0) g ∧ N1.1 (92, 0) g = N.1 (92, 0) g ∧ ∀ k, k < 5 → N1.1 (93, 0) (5 * g + k) = N.1 (93, 0) (5 * g + k)) ∧ ∀ j, 366 ≤ j → N1.1 (110, 0) j = N.1 (110, 0) j
theorem FrQ.rf (p : Nat) (M : eg_H) : FrQ p M M := ⟨fun _ _ _ _ _ _ => rfl, fun _ _ _ => rfl⟩
theorem FrQ.tr {p : Nat} {M M1 M2 : eg_H} (h : FrQ p M M1) (k : FrQ p M1 M2) : FrQ p M M2 := ⟨fun r a b c d e => (k.1 r a b c d e).trans (h.1 r a b c d e), fun r j hr => (k.2 r j hr).trans (h.2 r j hr)⟩
theorem FrN.rf (N : eg_H) : FrN N N := ⟨fun _ _ _ _ => rfl, fun _ _ _ _ _ _ _ _ _ _ _ => rfl, fun _ _ => ⟨rfl, rfl, fun _ _ => rfl⟩, fun _ _ => rfl⟩
theorem FrN.tr {N N1 N2 : eg_H} (h : FrN N N1) (k : FrN N1 N2) : FrN N N2 := by
  refine ⟨fun j a b c => (k.1 j a b c).trans (h.1 j a b c), fun r a b c d e f g i j l => (k.2.1 r a b c d e f g i j l).trans (h.2.1 r a b c d e f g i j l), fun g hg => ?_, fun j hj => (k.2.2.2 j hj).trans (h.2.2.2 j hj)⟩
  have a := k.2.2.1 g (by rw [h.1 13 (by omega) (by omega) (by omega)]; exact hg)
  have b := h.2.2.1 g hg
  exact ⟨a.1.trans b.1, a.2.1.trans b.2.1, fun j hj => (a.2.2 j hj).trans (b.2.2 j hj)⟩
theorem FrN.T {N N1 : eg_H} (h : FrN N N1) : sT N N1 := ⟨fun k a b => h.1 k (by omega) (by omega) (by omega), fun k a b c d e => h.2.1 (k, 0) (by show k ≠ 60; omega) (by show k ≠ 110; omega) (by show k ≠ 125; omega) (by show k ≠ 126; omega) (by show k ≠ 132; omega) (by show k ≠ 133; omega) (by show k ≠ 140; omega) c d e, h.2.2.1⟩
theorem FrQ.P {p : Nat} {M M1 : eg_H} (h : FrQ p M M1) (hp : p < 2) {r : eg_R} (hr : pOf r p) : M1.1 r = M.1 r := by
  refine h.1 r ?_ (nT_p hr) ?_ ?_ ?_
  · unfold pOf at *
    omega
  · unfold pOf at hr; omega
  · unfold pOf at hr; omega
  · unfold pOf at hr; omega
theorem FrQ.T {p : Nat} {M M1 : eg_H} (h : FrQ p M M1) {r : eg_R} {t : Nat} (ht : t ≠ 1) (hr : tOf r t) : M1.1 r = M.1 r := by
  refine h.1 r (nP_t hr) (nT_t hr (fun e => ht e.symm)) ?_ ?_ ?_
  · unfold tOf at hr; omega
  · unfold tOf at hr; omega
  · unfold tOf at hr; omega
theorem FrQ.o {p : Nat} {M M1 : eg_H} (h : FrQ p M M1) {k j : Nat} (hk : k = 10 ∨ k = 51 ∨ k = 8 ∨ k = 44 ∨ k = 45 ∨ k = 46 ∨ k = 47 ∨ k = 50 ∨ k = 6) : M1.1 (k, j) = M.1 (k, j) := by
  refine h.1 (k, j) (nOf_o (by omega)) (nT_k (by omega)) ?_ ?_ ?_
  · show k ≠ 52; omega
  · show k ≠ 53; omega
  · show k ≠ 48; omega
theorem FrN.o {N N1 : eg_H} (h : FrN N N1) {k : Nat} (hk : k ≠ 60 ∧ k ≠ 110 ∧ k ≠ 125 ∧ k ≠ 126 ∧ k ≠ 132 ∧ k ≠ 133 ∧ k ≠ 140 ∧ k ≠ 91 ∧ k ≠ 92 ∧ k ≠ 93) : N1.1 (k, 0) = N.1 (k, 0) := h.2.1 (k, 0) hk.1 hk.2.1 hk.2.2.1 hk.2.2.2.1 hk.2.2.2.2.1 hk.2.2.2.2.2.1 hk.2.2.2.2.2.2.1 hk.2.2.2.2.2.2.2.1 hk.2.2.2.2.2.2.2.2.1 hk.2.2.2.2.2.2.2.2.2
theorem JJ.cong {M M1 N N1 : eg_H} {C p : Nat} (h : JJ M N C p) (hQ : FrQ p M M1) (hN : FrN N N1) : JJ M1 N1 C p := by
  obtain ⟨⟨⟨r1, r2, r3⟩, pl, ⟨ry, ti⟩, row⟩, ⟨i0, i1, i2⟩, ⟨u, hu, u1, u2, u3⟩, ⟨c, hc, c1, c2, c3, c4, c5⟩, ⟨jk, ⟨t, ht, t1, t2, t3⟩, f1, f2, f3⟩⟩ := h
  have hp := pl.p2
  have eP := fun r (hr : pOf r p) => hQ.P hp hr
  have eE : cE M1 p = cE M p := cE_cong pl.cW eP
  have a0 : aT M1 0 = aT M 0 := aT_cong (fun r hr => hQ.T (by omega) hr)
  have a2 : aT M1 2 = aT M 2 := aT_cong (fun r hr => hQ.T (by omega) hr)
  have a3 : aT M1 3 = aT M 3 := aT_cong (fun r hr => hQ.T (by omega) hr)
  have n111 := hN.o (k := 111) (by omega)
  have n112 := hN.o (k := 112) (by omega)
  have n142 := hN.o (k := 142) (by omega)
  have n131 := hN.o (k := 131) (by omega)
  have n136 := hN.o (k := 136) (by omega)
  have n137 := hN.o (k := 137) (by omega)
  have n138 := hN.o (k := 138) (by omega)
  have n139 := hN.o (k := 139) (by omega)
  have n61 := hN.o (k := 61) (by omega)
  have n64 := hN.o (k := 64) (by omega)
  have ecN : cN M1 p = cN M p := by unfold cN; rw [eP (5, p) (pOf_k (by omega))]
  refine ⟨⟨⟨?_, ?_, ?_⟩, pl.cong eP hN.T, ⟨?_, ?_⟩, ?_⟩, ⟨?_, ?_, ?_⟩, ⟨u, hu, ?_, ?_, ?_⟩, ⟨c, hc, ?_, ?_, ?_, ?_, ?_⟩, ⟨fun j hj => by rw [hN.2.2.2 j hj]; exact jk j hj, ⟨t, ht, ?_, ?_, ?_⟩, ?_, ?_, ?_⟩⟩
  · rw [hQ.2 _ _ (by decide)]; exact r1
  · rw [hQ.2 _ _ (by decide)]; exact r2
  · rw [hQ.2 _ _ (by decide)]; exact r3
  · rw [eE, a0, n111]; exact ry
  · rw [eE, n111]; exact ti
  · rw [n111, n112]; exact row
  · rw [hN.1 80 (by omega) (by omega) (by omega)]; exact i0
  · rw [hN.1 80 (by omega) (by omega) (by omega), hQ.o (by omega)]; exact i1
  · rw [hN.1 80 (by omega) (by omega) (by omega), eE, a2, n142, hQ.2 _ _ (by decide)]; exact i2
  · rw [hQ.o (by omega)]; exact u1
  · rw [hN.1 69 (by omega) (by omega) (by omega)]; exact u2
  · rw [eE, a3, n111, n131, hQ.2 _ _ (by decide), hQ.o (by omega)]; exact u3
  · rw [hQ.o (by omega)]; exact c1
  · rw [hN.1 73 (by omega) (by omega) (by omega)]; exact c2
  · rw [hQ.o (by omega), hN.1 74 (by omega) (by omega) (by omega)]; exact c3
  · rw [hN.1 74 (by omega) (by omega) (by omega)]; exact c4
  · rw [n136, n137, n138, n139, ecN, hQ.o (by omega), hQ.o (by omega), hQ.o (by omega), hQ.o (by omega)]; exact c5
  · rw [hQ.o (by omega)]; exact t1
  · rw [hN.1 1 (by omega) (by omega) (by omega)]; exact t2
  · rw [hQ.o (by omega), n61]; exact t3
  · rw [hQ.o (by omega), hN.1 4 (by omega) (by omega) (by omega)]; exact f1
  · rw [hQ.o (by omega), hN.1 5 (by omega) (by omega) (by omega)]; exact f2
  · rw [n64]; exact f3
