/-! FITS: both sides -/
theorem sI_same {M : eg_H} {r : eg_R} {k : Nat} {x : Int32} (h : M.1 r k = x) : sI M r k x = M := by
  refine eg_ext (fun z j => ?_) (fun _ _ => rfl) (fun _ _ => rfl)
  rw [sI_i]
  by_cases c : z = r ∧ j = k
  · rw [if_pos c, c.1, c.2, h]
  · rw [if_neg c]
abbrev exL (p : Nat) : eg_R → Nat → Prop := fun r _ => r = (35, 1 - p)
theorem qs_fit {M N M' : eg_H} {C p : Nat} (h : JJ M N C p) (x z : Int32) (sx : spX M p M' (exL p)) (hl : (∀ l, l < 3 → gvC M' (1 - p) (M'.1 (35, 1 - p) l)) ∧ ∀ l, l < 3 → lwW (sI (sI (fX11_clears (t0 N)) (60, 0) 62 x) (60, 0) 63 z) l ∧ ∀ nm, iN nm → lC M' (1 - p) l nm = lwM (sI (sI (fX11_clears (t0 N)) (60, 0) 62 x) (60, 0) 63 z) l nm) : QS M' (1 - p) (sI (sI (fX11_clears (t0 N)) (60, 0) 62 x) (60, 0) 63 z) (M'.1 (40, 0)) := by
  have F := FrN_Q (N := N) (k1 := 62) (k2 := 63) (by omega) (by omega) x z
  have pl : PL M p (sI (sI (fX11_clears (t0 N)) (60, 0) 62 x) (60, 0) 63 z) := h.1.2.1.cong (fun _ _ => rfl) F.T
  obtain ⟨ck1, ck2⟩ := h.ck (FrN_f N (k := 2) (by omega) 0)
  have g : ∀ k, k ≠ 62 → k ≠ 63 → (sI (sI (fX11_clears (t0 N)) (60, 0) 62 x) (60, 0) 63 z).1 (60, 0) k = (fX11_clears (t0 N)).1 (60, 0) k := fun k h1 h2 => by rw [sI_60, if_neg h2, sI_60, if_neg h1]
  have r125 : ∀ c, c < 15 → (sI (sI (fX11_clears (t0 N)) (60, 0) 62 x) (60, 0) 63 z).1 (125, 0) c = 0 := fun c hc => by rw [sI_ne (by decide), sI_ne (by decide)]; exact clr_125 _ hc
  have r126 : ∀ k, k < cN M p → M.1 (40, 0) k = (sI (sI (fX11_clears (t0 N)) (60, 0) 62 x) (60, 0) 63 z).1 (126, 0) k := fun k hk => by rw [sI_ne (by decide), sI_ne (by decide)]; exact ck1 k hk
  have r110 : ∀ j, 366 ≤ j → (sI (sI (fX11_clears (t0 N)) (60, 0) 62 x) (60, 0) 63 z).1 (110, 0) j = 0 := fun j hj => by rw [sI_ne (by decide), sI_ne (by decide)]; exact ck2 j hj
  have cl := clr_n (t0 N)
  have h16 := (clr_Fr (t0 N)).1 16 (by omega) (by omega) (by omega)
  have n6 := (cN_e pl.cW).2
  generalize sI (sI (fX11_clears (t0 N)) (60, 0) 62 x) (60, 0) 63 z = Q at *
  obtain ⟨g1, g2, g3, g4, g5⟩ := gsp pl sx (kd_ne (by decide)) (fun r k q => by rw [q]; show (35 : Nat) ≠ 0; decide) (fun c hc => by rw [g 52 (by omega) (by omega), cl.1]; exact m1n (by omega)) (by rw [g 59 (by omega) (by omega)]; exact cl.2.2.2.2.1) (by rw [g 61 (by omega) (by omega)]; exact cl.2.2.2.2.2.2.1) r125
  refine QS_sp h pl sx (fun r k q => Or.inr (Or.inr (Or.inr (by rw [q])))) ⟨kd_ne (by decide), kd_ne (by decide), kd_ne (by decide)⟩ g1 (fun s hs => sx.d n6 (fun r k q => by rw [q]; show (35 : Nat) ≠ 1; decide) (by rw [g 53 (by omega) (by omega)]; exact cl.2.1) (by rw [g 57 (by omega) (by omega)]; exact cl.2.2.2.1) (by rw [g 55 (by omega) (by omega)]; exact cl.2.2.1) hs) g2 g3 ?_ hl g4 (fun s hs c => ?_) (fun s hs c => ?_) g5 r126 r110
  · rw [sx.2.1 4 (by omega) (kd_ne (by decide)), pl.ep, g 60 (by omega) (by omega), g 16 (by omega) (by omega), cl.2.2.2.2.2.1]
    exact h16
  · rw [g 57 (by omega) (by omega), cl.2.2.2.1] at c; exact absurd c (m1n (by omega))
  · rw [g 55 (by omega) (by omega), cl.2.2.1] at c; exact absurd c (m1n (by omega))
/-- laws as told -/
theorem qs_fit0 {M N M' : eg_H} {C p : Nat} (h : JJ M N C p) (z : Int32) (sx : spX M p M' exN) : QS M' (1 - p) (sI (sI (fX11_clears (t0 N)) (60, 0) 62 (-1)) (60, 0) 63 z) (M'.1 (40, 0)) := by
  have F := FrN_Q (N := N) (k1 := 62) (k2 := 63) (by omega) (by omega) (-1) z
  have pl : PL M p (sI (sI (fX11_clears (t0 N)) (60, 0) 62 (-1)) (60, 0) 63 z) := h.1.2.1.cong (fun _ _ => rfl) F.T
  exact qs_fit h (-1) z (sx.w (fun _ _ q => q.elim)) (sx.l pl (fun _ q => q) (fun l hl => by rw [sI_60, if_neg (by decide), sI_60, if_pos rfl]; exact m1n (by omega)))
/-- one that it may be -/
theorem qs_fit1 {M N M' : eg_H} {C p y : Nat} (h : JJ M N C p) (hy : y < (N.1 (60, 0) 14).toNatClampNeg) (sx : spX M p M' (fun r k => r = (35, 1 - p) ∧ k = (N.1 (95, 0) y).toNatClampNeg)) (hv : M'.1 (35, 1 - p) (N.1 (95, 0) y).toNatClampNeg = M.1 (34, p) y) : QS M' (1 - p) (sI (sI (fX11_clears (t0 N)) (60, 0) 62 (N.1 (95, 0) y)) (60, 0) 63 (nI (3 + y))) (M'.1 (40, 0)) := by
  have F := FrN_Q (N := N) (k1 := 62) (k2 := 63) (by omega) (by omega) (N.1 (95, 0) y) (nI (3 + y))
  have pl : PL M p (sI (sI (fX11_clears (t0 N)) (60, 0) 62 (N.1 (95, 0) y)) (60, 0) 63 (nI (3 + y))) := h.1.2.1.cong (fun _ _ => rfl) F.T
  refine qs_fit h _ _ (sx.w (fun _ _ q => q.1)) ?_
  have e62 : (sI (sI (fX11_clears (t0 N)) (60, 0) 62 (N.1 (95, 0) y)) (60, 0) 63 (nI (3 + y))).1 (60, 0) 62 = N.1 (95, 0) y := by rw [sI_60, if_neg (by decide), sI_60, if_pos rfl]
  have e63 : (sI (sI (fX11_clears (t0 N)) (60, 0) 62 (N.1 (95, 0) y)) (60, 0) 63 (nI (3 + y))).1 (60, 0) 63 = nI (3 + y) := by rw [sI_60, if_pos rfl]
  have hy' : y < ((sI (sI (fX11_clears (t0 N)) (60, 0) 62 (N.1 (95, 0) y)) (60, 0) 63 (nI (3 + y))).1 (60, 0) 14).toNatClampNeg := by rw [F.1 14 (by omega) (by omega) (by omega)]; exact hy
  generalize sI (sI (fX11_clears (t0 N)) (60, 0) 62 (N.1 (95, 0) y)) (60, 0) 63 (nI (3 + y)) = Q at *
  have y4 : y < 5 := by have := vp_lt pl.hm; omega
  obtain ⟨_, k1, k2, lr⟩ := pl.m hy'
  have e95 : Q.1 (95, 0) = N.1 (95, 0) := F.o (by omega)
  rw [e95] at k1
  obtain ⟨ek, lk⟩ := nI_of' k1 (by omega)
  generalize N.1 (95, 0) y = kd at *
  obtain ⟨a1, a2, a3, a4, a5, a6, a7, a8, a9⟩ := sx
  have gv := pl.cW.2.2.2.1
  have gvl := lr.gv
  refine ⟨fun l hl => ?_, fun l hl => ?_⟩
  · by_cases e : l = kd.toNatClampNeg
    · subst e
      rw [hv]
      exact (valC_eq a6 a7 a8 a9 gvl).1
    · rw [a5 l hl (fun q => e q.2)]
      exact (valC_eq a6 a7 a8 a9 (gv l hl)).1
  · by_cases e : l = kd.toNatClampNeg
    · have ha : nI l = Q.1 (60, 0) 62 := by rw [e62, e, ← ek]
      obtain ⟨w1, w2⟩ := lr.lw (by omega) hl ha e63
      refine ⟨w1, fun nm hn => ?_⟩
      rw [← w2 nm hn]
      unfold lC
      rw [e, hv, (valC_eq a6 a7 a8 a9 gvl).2 nm]
    · obtain ⟨w1, w2⟩ := pl.lw hl (by rw [e62, ek]; exact fun q => e ((nI_eq' (by omega) (by omega)).mp q))
      refine ⟨w1, fun nm hn => ?_⟩
      rw [← w2 nm hn]
      unfold lC
      rw [a5 l hl (fun q => e q.2), (valC_eq a6 a7 a8 a9 (gv l hl)).2 nm]
/-- the bits -/
def ftB (V : Nat → Int32) : Nat → Nat → Int32 → Int32
  | 0, _, a => a
  | m + 1, y, a => ftB V m (y + 1) (a ||| (if V y = 0 then (0 : Int32) else (1 : Int32) <<< (nI y &&& 31)))
def zF (N : eg_H) : Nat → Int32
  | 0 => N.1 (60, 0) 63
  | y + 1 => nI (3 + y)
def fQ (N : eg_H) (m y : Nat) : eg_H := sI (sI (fX11_clears (t0 N)) (60, 0) 62 (if y < m then N.1 (95, 0) y else -1)) (60, 0) 63 (if y < m then nI (3 + y) else zF N y)
theorem fQ_o (N : eg_H) (m y : Nat) {k : Nat} (h : k ≠ 60 ∧ k ≠ 125 ∧ k ≠ 126) : (fQ N m y).1 (k, 0) = N.1 (k, 0) := by
  unfold fQ
  rw [sI_ne (kd_ne h.1), sI_ne (kd_ne h.1), clr_o _ (kd_ne h.1) (kd_ne h.2.1) (kd_ne h.2.2), t0_o _ (kd_ne h.1)]
theorem fQ_f (N : eg_H) (m y : Nat) {k : Nat} (h : k ≠ 2 ∧ (k < 52 ∨ 63 < k)) : (fQ N m y).1 (60, 0) k = N.1 (60, 0) k := by
  unfold fQ
  rw [sI_60, if_neg (by omega), sI_60, if_neg (by omega), clr_f, if_neg (by omega), if_neg (by omega), if_neg (by omega), if_neg (by omega), if_neg (by omega), if_neg (by omega), if_neg (by omega), if_neg (by omega), t0_k _ h.1]
theorem fQ_63 (N : eg_H) (m y : Nat) : (fQ N m y).1 (60, 0) 63 = if y < m then nI (3 + y) else zF N y := by
  unfold fQ
  rw [sI_60, if_pos rfl]
