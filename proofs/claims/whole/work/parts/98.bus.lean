/-! BUS -/
theorem spX.c {M M1 M2 : eg_H} {p : Nat} {ex : eg_R → Nat → Prop} (h : spX M p M1 ex) (hF : FrQ p M1 M2) (h1 : ∀ k, ¬ ex (5, 1 - p) k → M2.1 (5, 1 - p) k = M1.1 (5, 1 - p) k) (h2 : ∀ s, s < 5 → M2.1 (1, 5 * (1 - p) + s) = M1.1 (1, 5 * (1 - p) + s)) (h3 : ∀ g, g < cP M p → M2.1 (0, 15 * (1 - p) + g) = M1.1 (0, 15 * (1 - p) + g) ∧ M2.1 (20, 15 * (1 - p) + g) = M1.1 (20, 15 * (1 - p) + g)) (h4 : ∀ k, (k = 35 ∨ k = 3 ∨ k = 23 ∨ k = 24 ∨ k = 25) → M2.1 (k, 1 - p) = M1.1 (k, 1 - p)) (n6 : cN M p < 6) : spX M p M2 ex := by
  obtain ⟨a1, a2, a3, a4, a5, a6, a7, a8, a9⟩ := h
  exact ⟨a1.tr hF, fun j b1 b2 => by rw [h1 j b2]; exact a2 j b1 b2, fun s j b1 b2 b3 => by rw [h2 s (by omega)]; exact a3 s j b1 b2 b3, fun g hg => ⟨fun j b1 b2 => by rw [(h3 g hg).1]; exact (a4 g hg).1 j b1 b2, fun j b1 => by rw [(h3 g hg).2]; exact (a4 g hg).2 j b1⟩, fun j b1 b2 => by rw [h4 35 (by omega)]; exact a5 j b1 b2, by rw [h4 3 (by omega)]; exact a6, fun j b1 => by rw [h4 23 (by omega)]; exact a7 j b1, fun j b1 => by rw [h4 24 (by omega)]; exact a8 j b1, fun j b1 => by rw [h4 25 (by omega)]; exact a9 j b1⟩
abbrev exB (p : Nat) : eg_R → Nat → Prop := fun r k => r = (5, 1 - p) ∧ k = 2
/-- the spare plan with i more -/
def bsI (M : eg_H) (p g : Nat) (t : Int32) (i : Nat) (M' : eg_H) : Prop := spX M p M' (exB p) ∧ M'.1 (5, 1 - p) 2 = nI (cP M p + i) ∧ ∀ k, k < i → M'.1 (0, 15 * (1 - p) + (cP M p + k)) 1 = t ∧ M'.1 (0, 15 * (1 - p) + (cP M p + k)) 2 = M.1 (0, 15 * p + g) 2 ∧ ∀ w, w < 5 → M'.1 (20, 15 * (1 - p) + (cP M p + k)) w = M.1 (20, 15 * p + g) w
theorem bsI.s {M M' : eg_H} {p g : Nat} {t : Int32} {i : Nat} (h : bsI M p g t i M') (hp : p < 2) (n6 : cN M p < 6) (hg : g < cP M p) (hi : cP M p + i < 15) : bsI M p g t (i + 1) (sI (sI (fX0_copyFrom M' (15 * (1 - p) + (cP M p + i)) (15 * p + g)) (0, 15 * (1 - p) + (cP M p + i)) 1 t) (5, 1 - p) 2 (nI (cP M p + i) + 1)) := by
  obtain ⟨sx, h2, h3⟩ := h
  obtain ⟨c1, c2, c3, c4⟩ := cp0_a M' (a := 15 * (1 - p) + (cP M p + i)) (b := 15 * p + g) (by omega)
  have s0 : M'.1 (0, 15 * p + g) = M.1 (0, 15 * p + g) := sx.1.P hp (pOf_0 (by omega))
  have s20 : M'.1 (20, 15 * p + g) = M.1 (20, 15 * p + g) := sx.1.P hp (pOf_20 (by omega))
  have o : ∀ r : eg_R, r ≠ (0, 15 * (1 - p) + (cP M p + i)) → r ≠ (20, 15 * (1 - p) + (cP M p + i)) → r ≠ (5, 1 - p) → (sI (sI (fX0_copyFrom M' (15 * (1 - p) + (cP M p + i)) (15 * p + g)) (0, 15 * (1 - p) + (cP M p + i)) 1 t) (5, 1 - p) 2 (nI (cP M p + i) + 1)).1 r = M'.1 r := fun r a b c => by rw [sI_ne c, sI_ne a, c3 r a b]
  refine ⟨sx.c ⟨fun r a _ _ _ _ => ?_, fun r k _ => ?_⟩ (fun k hk => ?_) (fun s hs => o _ (kd_ne (by decide)) (kd_ne (by decide)) (kd_ne (by decide))) (fun c hc => ⟨o _ (pr_ne (by omega)) (kd_ne (by decide)) (kd_ne (by decide)), o _ (kd_ne (by decide)) (pr_ne (by omega)) (kd_ne (by decide))⟩) (fun k hk => o _ (kd_ne (by omega)) (kd_ne (by omega)) (kd_ne (by omega))) n6, ?_, fun k hk => ?_⟩
  · refine o r (fun q => a ?_) (fun q => a ?_) (fun q => a ?_)
    · rw [q]; exact pOf_0 (by omega)
    · rw [q]; exact pOf_20 (by omega)
    · rw [q]; exact pOf_k (by omega)
  · show (fX0_copyFrom M' (15 * (1 - p) + (cP M p + i)) (15 * p + g)).2.2 r k = M'.2.2 r k
    rw [c4]
  · rw [sI_i, if_neg (fun q => hk ⟨rfl, q.2⟩), sI_ne (kd_ne (by decide)), c3 _ (kd_ne (by decide)) (kd_ne (by decide))]
  · rw [sI_i, if_pos ⟨rfl, rfl⟩, nI_1, Nat.add_assoc]
  · by_cases e : k = i
    · subst e
      refine ⟨?_, ?_, fun w hw => ?_⟩
      · rw [sI_ne (kd_ne (by decide)), sI_i, if_pos ⟨rfl, rfl⟩]
      · rw [sI_ne (kd_ne (by decide)), sI_i, if_neg (fun q => absurd q.2 (by decide)), c1 2 (by omega), s0]
      · rw [sI_ne (kd_ne (by decide)), sI_ne (kd_ne (by decide)), c2 w hw, s20]
    · obtain ⟨b1, b2, b3⟩ := h3 k (by omega)
      rw [o _ (pr_ne (by omega)) (kd_ne (by decide)) (kd_ne (by decide)), o _ (kd_ne (by decide)) (pr_ne (by omega)) (kd_ne (by decide))]
      exact ⟨b1, b2, b3⟩
/-- the model with i more -/
def bsR (A : eg_H) (G g : Nat) (t : Int32) (i j : Nat) : eg_H := sW (sW (sW A (91, 0) (putR (A.1 (91, 0)) (fun _ => t) G i)) (92, 0) (putR (A.1 (92, 0)) (fun _ => A.1 (92, 0) g) G i)) (93, 0) (putR (A.1 (93, 0)) (fun k => A.1 (93, 0) (5 * g + k % 5)) (5 * G) j)
def bsQ (A : eg_H) (G g : Nat) (t : Int32) (b : Nat) : eg_H := sI (bsR A G g t b (5 * b)) (60, 0) 61 (nI b)
section
variable (A : eg_H) (G g : Nat) (t : Int32) (i j : Nat)
theorem bsR_91 : (bsR A G g t i j).1 (91, 0) = putR (A.1 (91, 0)) (fun _ => t) G i := by unfold bsR; rw [sW_ne _ _ (by decide), sW_ne _ _ (by decide), sW_at]
theorem bsR_92 : (bsR A G g t i j).1 (92, 0) = putR (A.1 (92, 0)) (fun _ => A.1 (92, 0) g) G i := by unfold bsR; rw [sW_ne _ _ (by decide), sW_at]
theorem bsR_93 : (bsR A G g t i j).1 (93, 0) = putR (A.1 (93, 0)) (fun k => A.1 (93, 0) (5 * g + k % 5)) (5 * G) j := by unfold bsR; rw [sW_at]
theorem bsR_o {r : eg_R} (h1 : r ≠ (91, 0)) (h2 : r ≠ (92, 0)) (h3 : r ≠ (93, 0)) : (bsR A G g t i j).1 r = A.1 r := by unfold bsR; rw [sW_ne _ _ h3, sW_ne _ _ h2, sW_ne _ _ h1]
theorem bsR_0 : bsR A G g t 0 0 = A := by
  unfold bsR
  rw [putR_0, putR_0, putR_0, sW_self]
  have e92 : A.1 (92, 0) = A.1 (92, 0) := rfl
  rw [sW_self A (92, 0), sW_self]
theorem bsR_Fr (hG : G = (A.1 (60, 0) 13).toNatClampNeg) : FrN A (bsR A G g t i j) := by
  refine ⟨fun k _ _ _ => by rw [bsR_o _ _ _ _ _ _ (by decide) (by decide) (by decide)], fun r _ _ _ _ _ _ _ a b c => bsR_o _ _ _ _ _ _ (fun q => a (by rw [q])) (fun q => b (by rw [q])) (fun q => c (by rw [q])), fun c hc => ?_, fun k _ => by rw [bsR_o _ _ _ _ _ _ (by decide) (by decide) (by decide)]⟩
  rw [← hG] at hc
  rw [bsR_91, bsR_92, bsR_93]
  exact ⟨putR_out (by omega), putR_out (by omega), fun k hk => putR_out (by omega)⟩
end
theorem qs_bus {M N M' : eg_H} {C p g b : Nat} {t : Int32} (h : JJ M N C p) (hg : g < cP M p) (ht : 0 ≤ t.toInt ∧ t.toInt ≤ 3599) (hb : b ≤ 6) (hI : bsI M p g t b M') : QS M' (1 - p) (bsQ (fX11_clears (t0 N)) (cP M p) g t b) (M'.1 (40, 0)) := by
  have FA : FrN N (fX11_clears (t0 N)) := (FrN_f N (k := 2) (by omega) 0).tr (clr_Fr _)
  have pA := h.plc (FrN_f N (k := 2) (by omega) 0)
  have F1 : FrN N (bsR (fX11_clears (t0 N)) (cP M p) g t b (5 * b)) := FA.tr (bsR_Fr _ _ _ _ _ _ pA.g1)
  have F : FrN N (bsQ (fX11_clears (t0 N)) (cP M p) g t b) := F1.tr (FrN_f _ (by omega) _)
  have pl : PL M p (bsQ (fX11_clears (t0 N)) (cP M p) g t b) := h.1.2.1.cong (fun _ _ => rfl) F.T
  obtain ⟨ck1, ck2⟩ := h.ck (FrN_f N (k := 2) (by omega) 0)
  have o : ∀ r : eg_R, r ≠ (60, 0) → r ≠ (91, 0) → r ≠ (92, 0) → r ≠ (93, 0) → (bsQ (fX11_clears (t0 N)) (cP M p) g t b).1 r = (fX11_clears (t0 N)).1 r := fun r a1 a2 a3 a4 => by unfold bsQ; rw [sI_ne a1, bsR_o _ _ _ _ _ _ a2 a3 a4]
  have f : ∀ k, k ≠ 61 → (bsQ (fX11_clears (t0 N)) (cP M p) g t b).1 (60, 0) k = (fX11_clears (t0 N)).1 (60, 0) k := fun k hk => by unfold bsQ; rw [sI_60, if_neg hk, bsR_o _ _ _ _ _ _ (by decide) (by decide) (by decide)]
  have f61 : (bsQ (fX11_clears (t0 N)) (cP M p) g t b).1 (60, 0) 61 = nI b := by unfold bsQ; rw [sI_60, if_pos rfl]
  have q91 : (bsQ (fX11_clears (t0 N)) (cP M p) g t b).1 (91, 0) = putR ((fX11_clears (t0 N)).1 (91, 0)) (fun _ => t) (cP M p) b := by unfold bsQ; rw [sI_ne (by decide), bsR_91]
  have q92 : (bsQ (fX11_clears (t0 N)) (cP M p) g t b).1 (92, 0) = putR ((fX11_clears (t0 N)).1 (92, 0)) (fun _ => (fX11_clears (t0 N)).1 (92, 0) g) (cP M p) b := by unfold bsQ; rw [sI_ne (by decide), bsR_92]
  have q93 : (bsQ (fX11_clears (t0 N)) (cP M p) g t b).1 (93, 0) = putR ((fX11_clears (t0 N)).1 (93, 0)) (fun k => (fX11_clears (t0 N)).1 (93, 0) (5 * g + k % 5)) (5 * cP M p) (5 * b) := by unfold bsQ; rw [sI_ne (by decide), bsR_93]
  have r125 : ∀ c, c < 15 → (bsQ (fX11_clears (t0 N)) (cP M p) g t b).1 (125, 0) c = 0 := fun c hc => by rw [o _ (by decide) (by decide) (by decide) (by decide)]; exact clr_125 _ hc
  have r126 : ∀ k, k < cN M p → M.1 (40, 0) k = (bsQ (fX11_clears (t0 N)) (cP M p) g t b).1 (126, 0) k := fun k hk => by rw [o _ (by decide) (by decide) (by decide) (by decide)]; exact ck1 k hk
  have r110 : ∀ j, 366 ≤ j → (bsQ (fX11_clears (t0 N)) (cP M p) g t b).1 (110, 0) j = 0 := fun j hj => by rw [o _ (by decide) (by decide) (by decide) (by decide)]; exact ck2 j hj
  have cl := clr_n (t0 N)
  have h16 := (clr_Fr (t0 N)).1 16 (by omega) (by omega) (by omega)
  have n6 := (cN_e pl.cW).2
  have hG : cP M p < 10 := by rw [pA.g1]; exact pA.gg.2
  have hgA : g < ((fX11_clears (t0 N)).1 (60, 0) 13).toNatClampNeg := by rw [← pA.g1]; exact hg
  obtain ⟨_, w1, w2, w3⟩ := pA.g hgA
  generalize fX11_clears (t0 N) = A at *
  generalize bsQ A (cP M p) g t b = Q at *
  have e13 : Q.1 (60, 0) 13 = nI (cP M p) := by rw [← pl.eg]; exact (cP_e pl.cW).1
  have gQ : (Q.1 (60, 0) 13).toNatClampNeg = cP M p := pl.g1.symm
  have ev : fX11_everybody Q = nI (cP M p + b) := by unfold fX11_everybody; rw [e13, f61, nI_add]
  have eN2 : NM Q = cP M p + b := by unfold NM; rw [ev, nI_t (by omega)]
  obtain ⟨sx, h2, h3⟩ := hI
  -- one who came by bus
  have nw : ∀ k, k < b → Q.1 (91, 0) (cP M p + k) = t ∧ Q.1 (92, 0) (cP M p + k) = A.1 (92, 0) g ∧ ∀ w, w < 5 → Q.1 (93, 0) (5 * (cP M p + k) + w) = A.1 (93, 0) (5 * g + w) := fun k hk => by
    refine ⟨by rw [q91, putR_in hk], by rw [q92, putR_in hk], fun w hw => ?_⟩
    rw [q93, show 5 * (cP M p + k) + w = 5 * cP M p + (5 * k + w) by omega, putR_in (by omega), show (5 * k + w) % 5 = w by omega]
  have i3 : (3599 : Int32).toInt = 3599 := by decide
  have cow : ∀ k, k < b → coM Q (cP M p + k) = t := fun k hk => by
    unfold coM
    rw [(nw k hk).1, r125 _ (by omega), Int32.add_zero, if_neg]
    rw [t_lt, i3]; omega
  have sz : ∀ c, pM Q c 1 = Q.1 (92, 0) (nI c).toNatClampNeg := fun c => by
    show fX11_sizeOf Q (nI c) = _
    unfold fX11_sizeOf
    rw [f 59 (by omega), cl.2.2.2.2.1, if_pos (by decide)]
  refine QS_sp h pl sx (fun r k q => Or.inl (by rw [q.1])) ⟨fun q => absurd q.2 (by decide), fun q => absurd q.2 (by decide), fun q => absurd q.2 (by decide)⟩ ⟨by rw [h2]; exact nI_in' (by omega) (by omega), by unfold cP; rw [h2, nI_t (by omega), eN2]⟩ (fun s hs => sx.d n6 (fun r k q => by rw [q.1]; show (5 : Nat) ≠ 1; decide) (by rw [f 53 (by omega)]; exact cl.2.1) (by rw [f 57 (by omega)]; exact cl.2.2.2.1) (by rw [f 55 (by omega)]; exact cl.2.2.1) hs) (fun c hc => ?_) (fun c hc => ?_) ?_ (sx.l pl (fun k q => kd_ne (by decide) q.1) (fun l hl => by rw [f 62 (by omega), cl.2.2.2.2.2.2.2]; exact m1n (by omega))) (by rw [ev]; exact nI_in' (by omega) (by omega)) (fun s hs c => ?_) (fun s hs c => ?_) (fun c hc => ?_) r126 r110
  · rw [eN2] at hc
    have e0 : pM Q c 0 = coM Q c := by
      show (if nI c = Q.1 (60, 0) 52 then -1 else coM Q c) = _
      rw [f 52 (by omega), cl.1, if_neg (m1n (by omega))]
    rw [e0]
    by_cases hlt : c < cP M p
    · have hc' : c < (Q.1 (60, 0) 13).toNatClampNeg := by rw [gQ]; exact hlt
      obtain ⟨c1, c2⟩ := sx.2.2.2.1 c hlt
      refine ⟨?_, ?_, fun k hk => ?_⟩
      · rw [(pl.co hc' (r125 c (by omega))).1]
        exact c1 1 (by omega) (fun q => kd_ne (by decide) q.1)
      · rw [pl.c1 hc', f 59 (by omega), cl.2.2.2.2.1, if_pos (by decide)]
        exact c1 2 (by omega) (fun q => kd_ne (by decide) q.1)
      · rw [pl.c2 hc' k]
        show (if k < 5 then M'.1 (20, 15 * (1 - p) + c) k else 0) = (if k < 5 then M.1 (20, 15 * p + c) k else 0)
        rw [if_pos hk, if_pos hk, c2 k hk]
    · obtain ⟨k, rfl⟩ : ∃ k, c = cP M p + k := ⟨c - cP M p, by omega⟩
      obtain ⟨b1, b2, b3⟩ := h3 k (by omega)
      obtain ⟨v1, v2, v3⟩ := nw k (by omega)
      refine ⟨?_, ?_, fun w hw => ?_⟩
      · rw [cow k (by omega)]; exact b1
      · rw [sz, nI_t (by omega), v2, ← w2.2]; exact b2
      · show (if w < 5 then M'.1 (20, 15 * (1 - p) + (cP M p + k)) w else 0) = (if w < 5 then Q.1 (93, 0) (5 * (cP M p + k) + w) else 0)
        rw [if_pos hw, if_pos hw, v3 w hw, b3 w hw, (w3 w hw).2]
  · rw [eN2] at hc
    by_cases hlt : c < cP M p
    · have hc' : c < (Q.1 (60, 0) 13).toNatClampNeg := by rw [gQ]; exact hlt
      rw [pl.c1 hc', f 59 (by omega), cl.2.2.2.2.1, if_pos (by decide)]
      exact pl.sz hc'
    · obtain ⟨k, rfl⟩ : ∃ k, c = cP M p + k := ⟨c - cP M p, by omega⟩
      obtain ⟨v1, v2, v3⟩ := nw k (by omega)
      refine ⟨?_, fun w hw => ?_⟩
      · rw [sz, nI_t (by omega), v2]; exact w2.1
      · show 0 ≤ (if w < 5 then Q.1 (93, 0) (5 * (cP M p + k) + w) else 0).toInt ∧ (if w < 5 then Q.1 (93, 0) (5 * (cP M p + k) + w) else 0).toInt ≤ 9
        rw [if_pos hw, v3 w hw]; exact (w3 w hw).1
  · rw [sx.2.1 4 (by omega) (fun q => absurd q.2 (by decide)), pl.ep, f 60 (by omega), f 16 (by omega), cl.2.2.2.2.2.1]
    exact h16
  · rw [f 57 (by omega), cl.2.2.2.1] at c; exact absurd c (m1n (by omega))
  · rw [f 55 (by omega), cl.2.2.1] at c; exact absurd c (m1n (by omega))
  · rw [eN2] at hc
    by_cases hlt : c < cP M p
    · exact (pl.co (by rw [gQ]; exact hlt) (r125 c (by omega))).2
    · obtain ⟨k, rfl⟩ : ∃ k, c = cP M p + k := ⟨c - cP M p, by omega⟩
      rw [cow k (by omega)]
      intro z
      rw [z, t_m1] at ht
      omega
theorem st_bus {M N : eg_H} {C p : Nat} (h : JJ M N C p) (y b t x : Int32) : StI mtX10_bus mtX11_bus [vI y, vI b, vI t, vI x] M N C := by
  have F0 : FrN N (t0 N) := FrN_f N (by omega) 0
  have hp := h.hp
  have pl0 : PL M p (t0 N) := h.1.2.1.cong (fun _ _ => rfl) F0.T
  have i6 : (6 : Int32).toInt = 6 := by decide
  have i3 : (3599 : Int32).toInt = 3599 := by decide
  have i36 : (3600 : Int32).toInt = 3600 := by decide
  by_cases hx : vp_in y (cP M p) ∧ (1 ≤ b.toInt ∧ b.toInt ≤ 6) ∧ (0 ≤ t.toInt ∧ t.toInt ≤ 3599) ∧ vp_in x 3601
  · obtain ⟨hy, hb, ht, hx⟩ := hx
    have hP := cP_e h.1.2.1.cW
    have n6 := (cN_e h.1.2.1.cW).2
    have hG : cP M p < 10 := by rw [pl0.g1]; exact pl0.gg.2
    obtain ⟨ex, hn⟩ := nI_of' hx (by omega)
    obtain ⟨ey, hg⟩ := nI_of' hy (by omega)
    have hbi : vp_in b 7 := by rw [t_in]; omega
    obtain ⟨eb, hb7⟩ := nI_of' hbi (by omega)
    generalize x.toNatClampNeg = n at ex hn
    generalize y.toNatClampNeg = g at ey hg
    generalize b.toNatClampNeg = bb at eb hb7
    subst ex ey eb
    rw [t_nI (by omega)] at hb
    have hq := h.qs0 F0
    have FA : FrN N (fX11_clears (t0 N)) := F0.tr (clr_Fr _)
    have A13 : (fX11_clears (t0 N)).1 (60, 0) 13 = nI (cP M p) := by rw [FA.1 13 (by omega) (by omega) (by omega), ← h.1.2.1.eg]; exact hP.1
    have gA : cP M p = ((fX11_clears (t0 N)).1 (60, 0) 13).toNatClampNeg := by rw [A13, nI_t (by omega)]
    have hw := fun M' hI => qs_bus (M' := M') (b := bb) h hg ht (by omega) hI
    obtain ⟨Ms, ss⟩ := h.spE
    have lay : ∀ m, m ≤ bb → ∃ M', bsI M p g t m M' := by
      intro m
      induction m with
      | zero => exact fun _ => ⟨Ms, ss.w (fun _ _ q => q.elim), by rw [ss.2.1 2 (by omega) (fun q => q), Nat.add_zero]; exact hP.1, fun k hk => absurd hk (Nat.not_lt_zero _)⟩
      | succ m ih =>
        intro hm
        obtain ⟨M', i'⟩ := ih (by omega)
        exact ⟨_, i'.s hp.2.1 n6 hg (by omega)⟩
    obtain ⟨Mq, iq⟩ := lay bb (Nat.le_refl _)
    have q1 := hw Mq iq
    have eNA : NM (fX11_clears (t0 N)) = cP M p := (wEv hq).symm
    have FQ : FrN N (bsQ (fX11_clears (t0 N)) (cP M p) g t bb) := (FA.tr (bsR_Fr _ _ _ _ _ _ gA)).tr (FrN_f _ (by omega) _)
    refine StI.q h (sm (fun c => rF (bsQ (fX11_clears (t0 N)) (cP M p) g t bb) n (20 + 20 * c + 4)) (NM (bsQ (fX11_clears (t0 N)) (cP M p) g t bb)) - sm (fun c => rF (fX11_clears (t0 N)) n (20 + 20 * c + 4)) (cP M p)) (fun κ => ?_) (fun κ => ?_)
    · have key : ∀ k i M', i + k = bb → bsI M p g t i M' → eg_W κ gC mtX10_bus 12 (eQI κ gC (fun r' M1 => r' = sm (fun c => rF (bsQ (fX11_clears (t0 N)) (cP M p) g t bb) n (20 + 20 * c + 4)) (NM (bsQ (fX11_clears (t0 N)) (cP M p) g t bb)) - sm (fun c => rF (fX11_clears (t0 N)) n (20 + 20 * c + 4)) (cP M p) ∧ FrQ p M M1)) 83 [(0, vR (10, 0)), (1, vI (nI g)), (2, vI (nI bb)), (3, vI t), (4, vI (nI n)), (6, vI (sm (fun c => rF (fX11_clears (t0 N)) n (20 + 20 * c + 4)) (cP M p))), (7, vI (nI i))] [] M' := by
        intro k
        induction k with
        | zero =>
          intro i M' hi hI
          have ei : i = bb := by omega
          subst ei
          have q2 := hw M' hI
          refine vX10_bus_83 (by omega) M' _ _ _ _ _ _ ⟨fun _ => ⟨1 - p, hp.2.2.1, (hI.1.r hp.1).2, _, q2.waitedBy (by omega) (by omega), fun x3 M4 ⟨a3, t4⟩ => ⟨?_, (hI.1.t t4).1⟩⟩, fun c => absurd (nI_le (Nat.le_refl _) (by omega)) c⟩
          rw [a3, wEv q2]
        | succ k ih =>
          intro i M' hi hI
          refine vX10_bus_83 (by omega) M' _ _ _ _ _ _ ⟨fun c => absurd c (nI_ge (by omega) (by omega)), fun _ => ⟨1 - p, hp.2.2.1, (hI.1.r hp.1).2, fun c => ?_, fun _ => ?_⟩⟩
          · rw [hI.2.1] at c
            exact absurd ((nI_le' (a := 15) (by omega) (by omega)).mp c) (by omega)
          · rw [hI.2.1, nI_t (by omega), nI_t (by omega)]
            refine ⟨nI_in' (by omega) (by omega), p, hp.2.1, (hI.1.r hp.1).1, nI_in' (by omega) (by omega), fun M14 e14 M16 e16 => ⟨1 - p, hp.2.2.1, ?_, fun M18 e18 x19 e19 => ?_⟩⟩
            · rw [e16, e14]
              show (fX0_copyFrom M' (15 * (1 - p) + (cP M p + i)) (15 * p + g)).2.2 (10, 0) 4 = (5, 1 - p)
              rw [(cp0_a M' (a := 15 * (1 - p) + (cP M p + i)) (b := 15 * p + g) (by omega)).2.2.2]
              exact (hI.1.r hp.1).2
            · have e5 : M16.1 (5, 1 - p) 2 = nI (cP M p + i) := by
                rw [e16, sI_ne (kd_ne (by decide)), e14, (cp0_a M' (a := 15 * (1 - p) + (cP M p + i)) (b := 15 * p + g) (by omega)).2.2.1 _ (kd_ne (by decide)) (kd_ne (by decide))]
                exact hI.2.1
              rw [e5, e16, e14] at e18
              rw [e19, nI_1, e18]
              exact ih (i + 1) _ (by omega) (hI.s hp.2.1 n6 hg (by omega))
      refine eg_S.of rfl (Nat.le_of_ble_eq_true rfl) (vX10_bus_0 (by omega) M _ _ _ _ (fun x1 e1 => ⟨p, hp.2.1, hp.1.1, fun x4 e4 => ⟨fun c => ?_, fun _ => ⟨fun c => ?_, fun _ x8 e8 => ⟨fun _ => ⟨_, hq.waitedBy (by omega) (by omega), fun x10 M11 ⟨a10, t11⟩ => ?_⟩, fun c => ?_⟩⟩⟩⟩))
      · rw [e4, hasGuest_n pl0] at c
        rcases isGuest_n (t0 N) (nI g) pl0.hg with q | q
        · rw [← pl0.g1] at q; exact absurd hy q.2
        · rw [q.1] at c; exact absurd c (by decide)
      · rw [if_neg (by rw [t_lt, t_nI (by omega), t_1]; omega), if_neg (by rw [t_lt, t_nI (by omega), i6]; omega), if_neg (by rw [t_lt, t_0]; omega), if_neg (by rw [t_le, i36]; omega)] at e1
        exact absurd (c.symm.trans e1) (by decide)
      · have F1 := t11.Fr p
        refine ⟨1 - p, hp.2.2.1, by rw [F1.2 _ _ (by decide)]; exact hp.1.2, p, hp.2.1, by rw [F1.2 _ _ (by decide)]; exact hp.1.1, _, h.copy F1 (by omega), fun M15 c15 => ?_⟩
        have sp := h.sp F1 c15
        rw [a10]
        exact key bb 0 M15 (by omega) ⟨sp.w (fun _ _ q => q.elim), by rw [sp.2.1 2 (by omega) (fun q => q), Nat.add_zero]; exact hP.1, fun k hk => absurd hk (Nat.not_lt_zero _)⟩
      · rcases isLength_n M (nI n) with q | q
        · exact absurd hx q.2
        · exact absurd (c.symm.trans (e8.trans q.1)) (by decide)
    · have key : ∀ (nm : Nat → Int64) (s : (Nat → Int64) × Int32) (k i : Nat), i + k = bb → eg_W κ gM mtX11_bus 12 (eQI κ gM (fun r' N1 => r' = sm (fun c => rF (bsQ (fX11_clears (t0 N)) (cP M p) g t bb) n (20 + 20 * c + 4)) (NM (bsQ (fX11_clears (t0 N)) (cP M p) g t bb)) - sm (fun c => rF (fX11_clears (t0 N)) n (20 + 20 * c + 4)) (cP M p) ∧ FrN N N1)) 66 [(0, vR (60, 0)), (1, vI (nI g)), (2, vI (nI bb)), (3, vI t), (4, vI (nI n)), (5, vI (sm (fun c => rF (fX11_clears (t0 N)) n (20 + 20 * c + 4)) (cP M p))), (6, vI (nI i))] [] (SX (bsR (fX11_clears (t0 N)) (cP M p) g t i (5 * i)) nm s (rF (fX11_clears (t0 N)) n)) := by
        intro nm s k
        have hi0 : ∀ j, 366 ≤ j → rF (fX11_clears (t0 N)) n j = 0 := fun j hj => hq.hi (by omega) hj
        generalize rF (fX11_clears (t0 N)) n = Y at *
        induction k with
        | zero =>
          intro i hi
          have ei : i = bb := by omega
          subst ei
          refine vX11_bus_66 (by omega) _ _ _ _ _ _ _ ⟨fun _ M2 e2 => ?_, fun c => absurd (nI_le (Nat.le_refl _) (by omega)) c⟩
          rw [SX_sI _ _ _ _ (by decide)] at e2
          have e2' : M2 = SX (bsQ (fX11_clears (t0 N)) (cP M p) g t i) nm s Y := e2
          rw [e2']
          refine ⟨_, q1.run (by omega) (by omega) nm s Y hi0, fun M3 ⟨nm3, s3, e3⟩ => ?_⟩
          rw [e3]
          obtain ⟨v1, v2⟩ := waitedOf_n q1.2.2.2.2.1 nm3 s3 (rF (bsQ (fX11_clears (t0 N)) (cP M p) g t i) n)
          refine ⟨v1, fun x7 e7 M8 e8 => ⟨by rw [e7, v2], ?_⟩⟩
          rw [e8]
          exact (FQ.tr (q1.FrX (by omega) nm3 s3)).tr (FrN_f _ (by omega) _)
        | succ k ih =>
          intro i hi
          refine vX11_bus_66 (by omega) _ _ _ _ _ _ _ ⟨fun c => absurd c (nI_ge (by omega) (by omega)), fun _ => ?_⟩
          rw [SX_f _ _ _ _ (by decide), bsR_o _ _ _ _ _ _ (by decide) (by decide) (by decide), A13, nI_add, nI_t (by omega), nI_t (by omega)]
          refine ⟨nI_in' (by omega) (by omega), fun M10 e10 => ⟨nI_in' (by omega) (by omega), ?_⟩⟩
          rw [sI_eq, SX_o _ _ _ _ (by decide) (by decide), SX_sW _ _ _ _ _ (by decide) (by decide), bsR_91, putR_s _ (fun _ => t)] at e10
          have e13 : M10.1 (60, 0) 13 = nI (cP M p) := by rw [e10, SX_f _ _ _ _ (by decide), sW_ne _ _ (by decide), bsR_o _ _ _ _ _ _ (by decide) (by decide) (by decide), A13]
          rw [e13, nI_add, nI_t (by omega)]
          refine ⟨nI_in' (by omega) (by omega), fun M13 e13' => ?_⟩
          have e92 : M10.1 (92, 0) = putR ((fX11_clears (t0 N)).1 (92, 0)) (fun _ => (fX11_clears (t0 N)).1 (92, 0) g) (cP M p) i := by rw [e10, SX_o _ _ _ _ (by decide) (by decide), sW_ne _ _ (by decide), bsR_92]
          rw [sI_eq, e92, putR_out (show g < cP M p ∨ _ from Or.inl hg), putR_s _ (fun _ => (fX11_clears (t0 N)).1 (92, 0) g), e10, SX_sW _ _ _ _ _ (by decide) (by decide)] at e13'
          have eR : sW (sW (bsR (fX11_clears (t0 N)) (cP M p) g t i (5 * i)) (91, 0) (putR ((fX11_clears (t0 N)).1 (91, 0)) (fun _ => t) (cP M p) (i + 1))) (92, 0) (putR ((fX11_clears (t0 N)).1 (92, 0)) (fun _ => (fX11_clears (t0 N)).1 (92, 0) g) (cP M p) (i + 1)) = bsR (fX11_clears (t0 N)) (cP M p) g t (i + 1) (5 * i) := by
            unfold bsR
            rw [sW_comm _ _ _ (show ((93, 0) : eg_R) ≠ (91, 0) by decide), sW_comm _ _ _ (show ((92, 0) : eg_R) ≠ (91, 0) by decide), sW_sW, sW_comm _ _ _ (show ((93, 0) : eg_R) ≠ (92, 0) by decide), sW_sW]
          rw [eR] at e13'
          rw [e13']
          refine eg_down (P := fun w => eg_W κ gM mtX11_bus 12 (eQI κ gM (fun r' N1 => r' = sm (fun c => rF (bsQ (fX11_clears (t0 N)) (cP M p) g t bb) n (20 + 20 * c + 4)) (NM (bsQ (fX11_clears (t0 N)) (cP M p) g t bb)) - sm (fun c => Y (20 + 20 * c + 4)) (cP M p) ∧ FrN N N1)) 106 [(0, vR (60, 0)), (1, vI (nI g)), (2, vI (nI bb)), (3, vI t), (4, vI (nI n)), (5, vI (sm (fun c => Y (20 + 20 * c + 4)) (cP M p))), (6, vI (nI i)), (7, vI (nI w))] [] (SX (bsR (fX11_clears (t0 N)) (cP M p) g t (i + 1) (5 * i + w)) nm s Y)) 5 (fun w hw k2 => ?_) ?_
          · refine vX11_bus_106 _ _ _ _ _ _ _ _ ⟨fun c => absurd (show nI 5 ≤ nI w from c) (nI_ge hw (by decide)), fun _ => ?_⟩
            rw [SX_f _ _ _ _ (by decide), bsR_o _ _ _ _ _ _ (by decide) (by decide) (by decide), A13]
            simp (disch := omega) only [forall_eq, nAl, nMl, nI_add, nI_t, vpi]
            refine ⟨by omega, by omega, ?_⟩
            rw [sI_eq, SX_o _ _ _ _ (by decide) (by decide), SX_sW _ _ _ _ _ (by decide) (by decide), bsR_93, putR_out (show 5 * g + w < 5 * cP M p ∨ _ from Or.inl (by omega))]
            have ew : (fX11_clears (t0 N)).1 (93, 0) (5 * g + w) = (fun k => (fX11_clears (t0 N)).1 (93, 0) (5 * g + k % 5)) (5 * i + w) := by
              show _ = (fX11_clears (t0 N)).1 (93, 0) (5 * g + (5 * i + w) % 5)
              rw [show (5 * i + w) % 5 = w by omega]
            rw [ew, show 5 * (cP M p + i) + w = 5 * cP M p + (5 * i + w) by omega, putR_s]
            unfold bsR
            rw [sW_sW]
            exact k2
          · refine vX11_bus_106 _ _ _ _ _ _ _ _ ⟨fun _ x2 e2 => ?_, fun c => absurd (by decide) c⟩
            rw [e2, nI_1]
            exact ih (i + 1) (by omega)
      have i1 := isIn_n (t0 N) (nI bb) 1 6
      have i2 := isIn_n (t0 N) t 0 3599
      rw [t_1, i6, t_nI (by omega)] at i1
      rw [t_0, i3] at i2
      refine eg_S.of rfl (Nat.le_of_ble_eq_true rfl) (vX11_bus_0 (by omega) N _ _ _ _ (fun M1 e1 x3 e3 => ⟨fun c => ?_, fun _ x6 e6 => ⟨fun c => ?_, fun _ x9 e9 => ⟨fun c => ?_, fun _ x12 e12 => ⟨fun _ => ?_, fun c => ?_⟩⟩⟩⟩))
      · rw [e1] at e3
        rcases isGuest_n (t0 N) (nI g) pl0.hg with q | q
        · rw [← pl0.g1] at q; exact absurd hy q.2
        · exact absurd (c.symm.trans (e3.trans q.1)) (by decide)
      · rw [e1] at e6
        rcases i1 with q | q
        · omega
        · exact absurd (c.symm.trans (e6.trans q.1)) (by decide)
      · rw [e1] at e9
        rcases i2 with q | q
        · omega
        · exact absurd (c.symm.trans (e9.trans q.1)) (by decide)
      · rw [e1]
        refine ⟨pl0.hp, fun M15 e15 => ?_⟩
        rw [e15]
        refine ⟨_, hq.run0 (by omega) (by omega), fun M17 ⟨nm, s, e17⟩ => ?_⟩
        rw [e17]
        obtain ⟨v1, v2⟩ := waitedOf_n hq.2.2.2.2.1 nm s (rF (fX11_clears (t0 N)) n)
        refine ⟨v1, fun x21 e21 => ?_⟩
        rw [e21, v2, eNA]
        have k0 := key nm s bb 0 (by omega)
        rw [Nat.mul_zero, bsR_0] at k0
        exact k0
      · rcases isTime_n M1 (nI n) with q | q
        · exact absurd hx q.2
        · exact absurd (c.symm.trans (e12.trans q.1)) (by decide)
  · refine StI.q h (-2147483648) (fun κ => ?_) (fun κ => ?_)
    · refine eg_S.of rfl (Nat.le_of_ble_eq_true rfl) (vX10_bus_0 (by omega) M _ _ _ _ (fun x1 e1 => ⟨p, hp.2.1, hp.1.1, fun x4 e4 => ⟨fun c => ⟨rfl, FrQ.rf p M⟩, fun c4 => ⟨fun c => ⟨rfl, FrQ.rf p M⟩, fun c1 x8 e8 => ⟨fun c8 => ?_, fun c => ⟨rfl, FrQ.rf p M⟩⟩⟩⟩⟩))
      exfalso
      rw [e4, hasGuest_n pl0] at c4
      rw [e1] at c1
      by_cases a1 : b < 1
      · rw [if_pos a1] at c1; exact c1 rfl
      · rw [if_neg a1] at c1
        by_cases a2 : (6 : Int32) < b
        · rw [if_pos a2] at c1; exact c1 rfl
        · rw [if_neg a2] at c1
          by_cases a3 : t < 0
          · rw [if_pos a3] at c1; exact c1 rfl
          · rw [if_neg a3] at c1
            by_cases a4 : (3600 : Int32) ≤ t
            · rw [if_pos a4] at c1; exact c1 rfl
            · rw [t_lt, t_1] at a1
              rw [t_lt, i6] at a2
              rw [t_lt, t_0] at a3
              rw [t_le, i36] at a4
              rcases isGuest_n (t0 N) y pl0.hg with q | q
              · exact c4 q.1
              · rcases isLength_n M x with z | z
                · exact c8 (e8.trans z.1)
                · exact hx ⟨by rw [pl0.g1]; exact q.2, by omega, by omega, z.2⟩
    · have i1 := isIn_n (t0 N) b 1 6
      have i2 := isIn_n (t0 N) t 0 3599
      rw [t_1, i6] at i1
      rw [t_0, i3] at i2
      refine eg_S.of rfl (Nat.le_of_ble_eq_true rfl) (vX11_bus_0 (by omega) N _ _ _ _ (fun M1 e1 x3 e3 => ⟨fun c => ⟨rfl, by rw [e1]; exact F0⟩, fun c3 x6 e6 => ⟨fun c => ⟨rfl, by rw [e1]; exact F0⟩, fun c6 x9 e9 => ⟨fun c => ⟨rfl, by rw [e1]; exact F0⟩, fun c9 x12 e12 => ⟨fun c12 => ?_, fun c => ⟨rfl, by rw [e1]; exact F0⟩⟩⟩⟩⟩))
      exfalso
      rw [e1] at e3 e6 e9
      rcases isGuest_n (t0 N) y pl0.hg with q | q
      · exact c3 (e3.trans q.1)
      · rcases i1 with w | w
        · exact c6 (e6.trans w.1)
        · rcases i2 with v | v
          · exact c9 (e9.trans v.1)
          · rcases isTime_n M1 x with z | z
            · exact c12 (e12.trans z.1)
            · exact hx ⟨by rw [pl0.g1]; exact q.2, w.2, v.2, z.2⟩
