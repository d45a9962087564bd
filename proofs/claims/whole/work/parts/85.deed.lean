/-! DEEDS: what stays true -/
theorem gI_cong {E : eg_E} {Y Z : Nat → Int32} {g : Nat} (h : gI E Y g) (e : ∀ f, f < 19 → Z (20 + 20 * g + f) = Y (20 + 20 * g + f)) : gI E Z g := by
  have e0 := e 0 (by omega)
  rw [Nat.add_zero] at e0
  unfold gI gOK at h ⊢
  rw [e0, e 1 (by omega), e 2 (by omega), e 3 (by omega), e 10 (by omega)]
  refine ⟨h.1, h.2.1, h.2.2.1, h.2.2.2.1, fun k hk => ?_⟩
  have := h.2.2.2.2 k hk
  dsimp only at this ⊢
  rw [show 20 + 20 * g + 14 + k = 20 + 20 * g + (14 + k) by omega] at this ⊢
  rw [e (14 + k) (by omega)]
  exact this
theorem TI_put {E : eg_E} {C : Nat} {Y : Nat → Int32} (hE : wE E) (hC : C < 1000000) (h : TI E C Y) {s : Nat} (hs : s < eN E) (hz : ¬ eD E s 2 = 0) : TI E (C + 60) (putF (eD E s 2) s Y) := by
  have hn := hE.1
  have hN := hE.2.1
  have hq := h.1.q16 hE
  obtain ⟨⟨q, r, g, p, t⟩, ⟨o, l⟩, k⟩ := h
  have lo : ∀ j, j < 320 → putF (eD E s 2) s Y j = Y j := fun j hj => by unfold putF; rw [pk_un (by omega), pk_un (by omega), pk_un (by omega)]
  have hi : ∀ j, 360 ≤ j → putF (eD E s 2) s Y j = Y j := fun j hj => by unfold putF; rw [pk_un (by omega), pk_un (by omega), pk_un (by omega)]
  have pn : ∀ a f, a < 5 → f < 8 → (a ≠ s ∨ (f ≠ 0 ∧ f ≠ 1 ∧ f ≠ 6)) → putF (eD E s 2) s Y (320 + 8 * a + f) = Y (320 + 8 * a + f) := fun a f ha hf hne => by unfold putF; rw [pk_un (by omega), pk_un (by omega), pk_un (by omega)]
  have p0 : putF (eD E s 2) s Y (320 + 8 * s) = Y (320 + 8 * s) + eD E s 2 := by unfold putF; rw [pk_un (by omega), pk_un (by omega), pk_us]
  refine ⟨⟨q.cong hN (lo 1 (by omega)) (fun k hk => lo _ (by omega)) (fun g hg e => by rw [lo _ (by omega)]; exact e), r.cong hn (fun p hp => hi _ (by omega)), fun g' hg => gI_cong (g g' hg) (fun f hf => lo _ (by omega)), fun a ha => ?_, by rw [lo 0 (by omega)]; exact t⟩, ⟨oI_hi o hN (fun j _ hj => lo j hj), lI_hi l hN hq (fun j _ hj => lo j hj)⟩, kz_of k (fun a ha => pn a 3 (by omega) (by omega) (by omega)) (fun g hg => lo _ (by omega)) (fun a ha e => pn a 0 (by omega) (by omega) (Or.inl (fun w => hz (by rw [← w]; exact e))))⟩
  have pa := p a ha
  have x := (hE.2.2.1 s hs).2.1
  unfold pI at pa ⊢
  by_cases e : a = s
  · rw [e] at pa ⊢
    rw [p0, pn s 2 (by omega) (by omega) (by omega), t_add (by omega) (by omega)]
    refine ⟨by omega, ?_⟩
    rcases pa.2 with w | w
    · exact Or.inl w
    · exact Or.inr ⟨⟨w.1.1, w.1.2.1, by omega⟩, w.2⟩
  · have e0 := pn a 0 (by omega) (by omega) (Or.inl e)
    rw [Nat.add_zero] at e0
    rw [e0, pn a 2 (by omega) (by omega) (Or.inl e)]
    refine ⟨by omega, ?_⟩
    rcases pa.2 with w | w
    · exact Or.inl w
    · exact Or.inr ⟨⟨w.1.1, w.1.2.1, by omega⟩, w.2⟩
theorem chg_r (Y : Nat → Int32) (a b q : Nat) : chgF a b Y (360 + q) = Y (360 + (if q = b then a else if q = a then b else q)) := by
  unfold chgF
  by_cases c : q = b
  · rw [if_pos c, c, pk_us]
  · rw [if_neg c, pk_un (by omega)]
    by_cases c2 : q = a
    · rw [if_pos c2, c2, pk_us]
    · rw [if_neg c2, pk_un (by omega)]
theorem TI_chg {E : eg_E} {C : Nat} {Y : Nat → Int32} (hE : wE E) (h : TI E C Y) {a b : Nat} (ha : a < eN E) (hb : b < eN E) : TI E C (chgF a b Y) := by
  have hn := hE.1
  have hN := hE.2.1
  have hq := h.1.q16 hE
  obtain ⟨⟨q, r, g, p, t⟩, ⟨o, l⟩, k⟩ := h
  have lo : ∀ j, j < 360 → chgF a b Y j = Y j := fun j hj => by unfold chgF; rw [pk_un (by omega), pk_un (by omega)]
  have dis : ∀ i j, i < eN E → j < eN E → i ≠ j → Y (360 + i) ≠ Y (360 + j) := by
    intro i j hi hj hij
    by_cases c : i < j
    · exact r.2 i j c hj
    · exact fun e => r.2 j i (by omega) hi e.symm
  refine ⟨⟨q.cong hN (lo 1 (by omega)) (fun k hk => lo _ (by omega)) (fun g hg e => by rw [lo _ (by omega)]; exact e), ⟨fun p hp => ?_, fun i j hij hj => ?_⟩, fun g' hg => gI_cong (g g' hg) (fun f hf => lo _ (by omega)), fun s hs => ?_, by rw [lo 0 (by omega)]; exact t⟩, ⟨oI_hi o hN (fun j _ hj => lo j (by omega)), lI_hi l hN hq (fun j _ hj => lo j (by omega))⟩, kz_of k (fun a ha => lo _ (by omega)) (fun g hg => lo _ (by omega)) (fun a ha e => lo _ (by omega))⟩
  · rw [chg_r]
    refine r.1 _ ?_
    split
    · exact ha
    · split
      · exact hb
      · exact hp
  · rw [chg_r, chg_r]
    refine dis _ _ ?_ ?_ ?_
    · split
      · exact ha
      · split
        · exact hb
        · omega
    · split
      · exact ha
      · split
        · exact hb
        · omega
    · split <;> split <;> (try split) <;> (try split) <;> omega
  · have := p s hs
    unfold pI at this ⊢
    rw [lo _ (by omega), lo _ (by omega)]
    exact this
theorem ixQ_s {E : eg_E} {Y : Nat → Int32} (hN : eP E < 16) (hq : (Y 1).toNatClampNeg < 16) (l : lI E Y) {g : Nat} (hg : g < eP E) (hs : Y (20 + 20 * g) = 1) : ixQ Y g < (Y 1).toNatClampNeg ∧ Y (2 + ixQ Y g) = nI g := by
  obtain ⟨k, hk, ek⟩ := l g hg hs
  unfold ixQ
  by_cases c : fst1 (fun k => decide (Y (2 + k) = nI g)) 0 (Y 1).toNatClampNeg < 0
  · have := fst1_m1 (Y 1).toNatClampNeg 0 (by omega) c k (by omega) (by omega)
    exact absurd ek (of_decide_eq_false this)
  · obtain ⟨p, e, _, hp, tp⟩ := fst1_r _ (Y 1).toNatClampNeg 0 c
    rw [e, nI_t (by omega)]
    exact ⟨by omega, of_decide_eq_true tp⟩
/-- the guest is away -/
def awF (x z : Int32) (g : Nat) (Y : Nat → Int32) : Nat → Int32 := upd (upd (upd (upd (upd Y (20 + 20 * g + 7) x) (20 + 20 * g) 3) (20 + 20 * g + 1) (-1)) (20 + 20 * g + 2) z) (20 + 20 * g + 3) 0
theorem snd_v {z : Int32} {g : Nat} {Y : Nat → Int32} (hq : (Y 1).toNatClampNeg < 16) (hs : Y (20 + 20 * g) = 1) : sndF z g Y 1 = Y 1 - 1 ∧ (∀ k, k + 1 < (Y 1).toNatClampNeg → sndF z g Y (2 + k) = if ixQ Y g ≤ k then Y (2 + (k + 1)) else Y (2 + k)) ∧ ∀ j, 18 ≤ j ∨ j = 0 → sndF z g Y j = awF (Y (20 + 20 * g + 7) + (z - Y (20 + 20 * g + 2))) z g Y j := by
  generalize hx : Y (20 + 20 * g + 7) + (z - Y (20 + 20 * g + 2)) = x
  generalize hi : ixQ Y g = i
  have e : sndF z g Y = upd (upd (upd (upd (ool (upd Y (20 + 20 * g + 7) x) i) (20 + 20 * g) 3) (20 + 20 * g + 1) (-1)) (20 + 20 * g + 2) z) (20 + 20 * g + 3) 0 := by
    unfold sndF
    rw [if_pos hs, hx, hi]
  have u1 : upd Y (20 + 20 * g + 7) x 1 = Y 1 := pk_un (by omega)
  rw [e]
  refine ⟨?_, fun k hk => ?_, fun j hj => ?_⟩
  · rw [pk_un (by omega), pk_un (by omega), pk_un (by omega), pk_un (by omega), ool_1, u1]
  · rw [pk_un (by omega), pk_un (by omega), pk_un (by omega), pk_un (by omega), ool_k (by rw [u1]; exact hk), pk_un (by omega), pk_un (by omega)]
  · have := ool_o (Y := upd Y (20 + 20 * g + 7) x) (i := i) (j := j) (by rw [u1]; exact hq) hj
    unfold awF
    generalize upd Y (20 + 20 * g + 7) x = W at *
    unfold upd
    rw [this]
theorem aw_o {x z : Int32} {g j : Nat} {Y : Nat → Int32} (h : j < 20 + 20 * g ∨ 40 + 20 * g ≤ j ∨ (j ≠ 20 + 20 * g ∧ j ≠ 20 + 20 * g + 1 ∧ j ≠ 20 + 20 * g + 2 ∧ j ≠ 20 + 20 * g + 3 ∧ j ≠ 20 + 20 * g + 7)) : awF x z g Y j = Y j := by
  unfold awF
  rw [pk_un (by omega), pk_un (by omega), pk_un (by omega), pk_un (by omega), pk_un (by omega)]
theorem aw_g {x z : Int32} {g : Nat} {Y : Nat → Int32} : awF x z g Y (20 + 20 * g) = 3 ∧ awF x z g Y (20 + 20 * g + 1) = -1 ∧ awF x z g Y (20 + 20 * g + 2) = z ∧ awF x z g Y (20 + 20 * g + 3) = 0 ∧ awF x z g Y (20 + 20 * g + 7) = x := by
  unfold awF
  refine ⟨?_, ?_, ?_, ?_, ?_⟩ <;> simp (disch := omega) only [pk_un, pk_us]
/-- away, and not there before -/
theorem snd_n {E : eg_E} {g : Nat} {Y : Nat → Int32} (o : oI E Y) (hg : g < eP E) (hs : ¬ Y (20 + 20 * g) = 1) : sndF (eC E g 1) g Y = awF (Y (20 + 20 * g + 7)) (eC E g 1) g Y := by
  unfold sndF awF
  rw [if_neg hs]
  funext j
  unfold upd
  by_cases c : j = 20 + 20 * g + 7
  · rw [if_neg (by omega), if_neg (by omega), if_neg (by omega), if_neg (by omega), if_neg (by omega), if_neg (by omega), if_neg (by omega), if_neg (by omega), if_pos c, c]
  · rw [if_neg c]
theorem TI_aw {E : eg_E} {C : Nat} {Y S : Nat → Int32} {x : Int32} (hE : wE E) (h : TI E C Y) {g : Nat} (hg : g < eP E) (hS : ∀ j, 18 ≤ j ∨ j = 0 → S j = awF x (eC E g 1) g Y j) (hq : qI E S) (hl : lI E S) : TI E C S := by
  have hn := hE.1
  have hN := hE.2.1
  obtain ⟨⟨q, r, gg, p, t⟩, ⟨o, l⟩, k⟩ := h
  have so : ∀ j, 18 ≤ j ∨ j = 0 → (j < 20 + 20 * g ∨ 40 + 20 * g ≤ j ∨ (j ≠ 20 + 20 * g ∧ j ≠ 20 + 20 * g + 1 ∧ j ≠ 20 + 20 * g + 2 ∧ j ≠ 20 + 20 * g + 3 ∧ j ≠ 20 + 20 * g + 7)) → S j = Y j := fun j h1 h2 => by rw [hS j h1, aw_o h2]
  obtain ⟨a0, a1, a2, a3, a7⟩ := aw_g (x := x) (z := eC E g 1) (g := g) (Y := Y)
  rw [← hS _ (by omega)] at a0 a1 a2 a3 a7
  refine ⟨⟨hq, r.cong hn (fun p hp => so _ (by omega) (by omega)), fun b hb => ?_, fun s hs => ?_, by rw [so 0 (by omega) (by omega)]; exact t⟩, ⟨fun b hb => ?_, hl⟩, kz_of k (fun a ha => so _ (by omega) (by omega)) (fun b hb => so _ (by omega) (by omega)) (fun a ha e => so _ (by omega) (by omega))⟩
  · by_cases e : b = g
    · rw [e]
      have gb := gg g hg
      have hz := hE.2.2.2.1 g hg
      unfold gI gOK at gb ⊢
      rw [a0, a1, a2, a3]
      refine ⟨by rw [t_m1]; omega, fun c => absurd c (by decide), by omega, by rw [t_0]; omega, fun k hk => ?_⟩
      dsimp only
      rw [so _ (by omega) (by omega)]
      exact gb.2.2.2.2 k hk
    · exact gI_cong (gg b hb) (fun f hf => so _ (by omega) (by omega))
  · have := p s hs
    unfold pI at this ⊢
    rw [so _ (by omega) (by omega), so _ (by omega) (by omega)]
    exact this
  · by_cases e : b = g
    · rw [e, a0, a1, a2, a3]
      exact fun _ => ⟨rfl, rfl, rfl⟩
    · rw [so _ (by omega) (by omega), so _ (by omega) (by omega), so _ (by omega) (by omega), so _ (by omega) (by omega)]
      exact o b hb
theorem TI_snd {E : eg_E} {C : Nat} {Y : Nat → Int32} (hE : wE E) (h : TI E C Y) {g : Nat} (hg : g < eP E) : TI E C (sndF (eC E g 1) g Y) := by
  have hn := hE.1
  have hN := hE.2.1
  have hq := h.1.q16 hE
  obtain ⟨q1, q2, q3⟩ := h.1.1
  have l := h.2.1.2
  by_cases hs : Y (20 + 20 * g) = 1
  · obtain ⟨v1, vk, vj⟩ := snd_v (z := eC E g 1) hq hs
    obtain ⟨i1, i2⟩ := ixQ_s hN hq l hg hs
    generalize ixQ Y g = i at vk i1 i2
    obtain ⟨eq, _⟩ := nI_of' q1 (by omega)
    have s1 : sndF (eC E g 1) g Y 1 = nI ((Y 1).toNatClampNeg - 1) := by
      have := nI_pred ((Y 1).toNatClampNeg - 1)
      rw [show (Y 1).toNatClampNeg - 1 + 1 = (Y 1).toNatClampNeg by omega, ← eq] at this
      rw [v1]
      exact this
    have st : ∀ a, a < 15 → a ≠ g → sndF (eC E g 1) g Y (20 + 20 * a) = Y (20 + 20 * a) := fun a ha hne => by rw [vj _ (by omega), aw_o (by omega)]
    have hne : ∀ k, k < (Y 1).toNatClampNeg → k ≠ i → (Y (2 + k)).toNatClampNeg ≠ g := by
      intro k hk hki e
      have e2 : Y (2 + k) = Y (2 + i) := by rw [(nI_of' (q2 k hk).1 (by omega)).1, e, i2]
      rcases Nat.lt_or_gt_of_ne hki with w | w
      · exact q3 k i w i1 e2
      · exact q3 i k w hk e2.symm
    have ok : ∀ k, k < (Y 1).toNatClampNeg - 1 → ∃ k', k' < (Y 1).toNatClampNeg ∧ k' ≠ i ∧ sndF (eC E g 1) g Y (2 + k) = Y (2 + k') ∧ k' = (if i ≤ k then k + 1 else k) := by
      intro k hk
      rw [vk k (by omega)]
      by_cases c : i ≤ k
      · rw [if_pos c, if_pos c]
        exact ⟨k + 1, by omega, by omega, rfl, rfl⟩
      · rw [if_neg c, if_neg c]
        exact ⟨k, by omega, by omega, rfl, rfl⟩
    refine TI_aw hE h hg vj ⟨?_, ?_, ?_⟩ (fun a ha => ?_)
    · rw [s1]; exact nI_in' (by have := vp_lt q1; omega) (by omega)
    · rw [s1, nI_t (by omega)]
      intro k hk
      obtain ⟨k', h1, h2, h3, -⟩ := ok k hk
      rw [h3]
      have h4 := q2 k' h1
      have h5 := vp_lt h4.1
      rw [st _ (by omega) (hne k' h1 h2)]
      exact h4
    · rw [s1, nI_t (by omega)]
      intro j k hj hk
      obtain ⟨j', a1, a2, a3, a4⟩ := ok j (by omega)
      obtain ⟨k', b1, b2, b3, b4⟩ := ok k hk
      rw [a3, b3]
      refine q3 j' k' ?_ b1
      rw [a4, b4]
      split <;> split <;> omega
    · rw [s1, nI_t (by omega)]
      by_cases e : a = g
      · rw [e, vj _ (by omega), aw_g.1]
        exact fun w => absurd w (by decide)
      · rw [st a (by omega) e]
        intro w
        obtain ⟨k, hk, ek⟩ := l a ha w
        have hki : k ≠ i := by
          intro z
          rw [z, i2] at ek
          exact e ((nI_eq' (by omega) (by omega)).mp ek).symm
        by_cases c : i ≤ k
        · refine ⟨k - 1, by omega, ?_⟩
          rw [vk _ (by omega), if_pos (by omega), show k - 1 + 1 = k by omega]
          exact ek
        · refine ⟨k, by omega, ?_⟩
          rw [vk _ (by omega), if_neg c]
          exact ek
  · have e := snd_n h.2.1.1 hg hs
    have lo : ∀ j, j < 20 → sndF (eC E g 1) g Y j = Y j := fun j hj => by rw [e, aw_o (by omega)]
    have st : ∀ a, a < 15 → a ≠ g → sndF (eC E g 1) g Y (20 + 20 * a) = Y (20 + 20 * a) := fun a ha hne => by rw [e, aw_o (by omega)]
    refine TI_aw hE h hg (fun j _ => by rw [e]) (h.1.1.cong hN (lo 1 (by omega)) (fun k hk => lo _ (by omega)) (fun a ha w => ?_)) (fun a ha w => ?_)
    · by_cases c : a = g
      · rw [c] at w; exact absurd w hs
      · rw [st a ha c]; exact w
    · by_cases c : a = g
      · rw [c, e, aw_g.1] at w; exact absurd w (by decide)
      · rw [st a (by omega) c] at w
        obtain ⟨k, hk, ek⟩ := l a ha w
        exact ⟨k, by rw [lo 1 (by omega)]; exact hk, by rw [lo _ (by omega)]; exact ek⟩
theorem TI_dF {E : eg_E} {C : Nat} {Y : Nat → Int32} {k a b : Int32} (hE : wE E) (hC : C < 1000000) (h : TI E C Y) (d : dOK E k a b Y) : TI E (C + 60) (dF E k a b Y) := by
  unfold dF
  rcases d with ⟨e, ha, hz⟩ | ⟨e, ha, hb, _, _⟩ | ⟨e, ha, _⟩
  · rw [if_pos e]; exact TI_put hE hC h (vp_lt ha) hz
  · rw [if_neg (by rw [e]; decide), if_pos e]; exact (TI_chg hE h (vp_lt ha) (vp_lt hb)).mono (by omega)
  · rw [if_neg (by rw [e]; decide), if_neg (by rw [e]; decide)]; exact (TI_snd hE h (vp_lt ha)).mono (by omega)
