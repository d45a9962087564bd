theorem fb_holes : ∀ (m n : Nat) (f : Nat → Nat), (∀ i, i < n → f i < m) → (∀ i j, i < j → j < n → f i ≠ f j) → n ≤ m := by
  intro m
  induction m with
  | zero =>
    intro n f h1 _
    rcases Nat.eq_zero_or_pos n with h | h
    · omega
    · exact absurd (h1 0 h) (Nat.not_lt_zero _)
  | succ m ih =>
    intro n f h1 h2
    by_cases hx : ∃ i, i < n ∧ f i = m
    · obtain ⟨a, ha, hfa⟩ := hx
      have hg := ih (n - 1) (fun i => if i < a then f i else f (i + 1)) (by
        intro i hi
        by_cases q : i < a
        · simp only [if_pos q]
          have b1 := h1 i (by omega)
          have b2 := h2 i a q ha
          omega
        · simp only [if_neg q]
          have b1 := h1 (i + 1) (by omega)
          have b2 := h2 a (i + 1) (by omega) (by omega)
          omega) (by
        intro i j hij hj
        by_cases q : i < a
        · by_cases r : j < a
          · simp only [if_pos q, if_pos r]
            exact h2 i j hij (by omega)
          · simp only [if_pos q, if_neg r]
            exact h2 i (j + 1) (by omega) (by omega)
        · have r : ¬ j < a := by omega
          simp only [if_neg q, if_neg r]
          exact h2 (i + 1) (j + 1) (by omega) (by omega))
      omega
    · have hg := ih n f (fun i hi => by
        have b1 := h1 i hi
        have b2 : f i ≠ m := fun e => hx ⟨i, hi, e⟩
        omega) h2
      omega
theorem admF_I {E : eg_E} {C : Nat} {Y : Nat → Int32} (hE : wE E) (h : yI E C Y) {g : Nat} (hg : g < eP E) : yI E C (admF E g Y) := by
  unfold admF
  by_cases c : (Y (20 + 20 * g) = 0 ∨ Y (20 + 20 * g) = 2) ∧ Y (20 + 20 * g + 11) = Y 0
  · rw [if_pos c]
    have hn := hE.1
    have hN := hE.2.1
    obtain ⟨⟨q1, q2, q3⟩, hr, hgg, hp, h0⟩ := h
    obtain ⟨eq, hq⟩ := nI_of' q1 (by omega)
    have hnot : ¬ Y (20 + 20 * g) = 1 := by
      rcases c.1 with e | e <;> rw [e] <;> decide
    have hne : ∀ k, k < (Y 1).toNatClampNeg → (Y (2 + k)).toNatClampNeg ≠ g := fun k hk e => by
      have := (q2 k hk).2
      rw [e] at this
      exact hnot this
    have hlt : (Y 1).toNatClampNeg < eP E := by
      have := fb_holes (eP E) ((Y 1).toNatClampNeg + 1) (fun i => if i < (Y 1).toNatClampNeg then (Y (2 + i)).toNatClampNeg else g) (fun i hi => by
        by_cases hi2 : i < (Y 1).toNatClampNeg
        · simp only [if_pos hi2]; exact vp_lt (q2 i hi2).1
        · simp only [if_neg hi2]; exact hg) (fun i j hij hj => by
        by_cases hj2 : j < (Y 1).toNatClampNeg
        · simp only [if_pos hj2, if_pos (show i < (Y 1).toNatClampNeg by omega)]
          intro e
          apply q3 i j hij hj2
          rw [(nI_of' (q2 i (by omega)).1 (by omega)).1, (nI_of' (q2 j hj2).1 (by omega)).1, e]
        · simp only [if_neg hj2, if_pos (show i < (Y 1).toNatClampNeg by omega)]
          exact hne i (by omega))
      omega
    unfold comeF
    generalize (Y 1).toNatClampNeg = q at *
    refine ⟨⟨?_, ?_, ?_⟩, hr.cong hn (fun p hp => ?_), fun b hb => ?_, fun z hz => ?_, ?_⟩
    · rw [pk_us, eq, nI_1]
      exact nI_in' (by omega) (by omega)
    · rw [pk_us, eq, nI_1, nI_t (by omega)]
      intro k hk
      by_cases hkq : k = q
      · subst hkq
        simp (disch := omega) only [pk_un, pk_us]
        rw [nI_t (by omega)]
        simp (disch := omega) only [pk_un, pk_us]
        exact ⟨nI_in' hg (by omega), trivial⟩
      · have h2 := q2 k (by omega)
        have h3 := vp_lt h2.1
        have h4 := hne k (by omega)
        simp (disch := omega) only [pk_un]
        exact h2
    · rw [pk_us, eq, nI_1, nI_t (by omega)]
      intro j k hj hk
      by_cases hkq : k = q
      · subst hkq
        simp (disch := omega) only [pk_un, pk_us]
        intro e
        have := hne j hj
        rw [e, nI_t (by omega)] at this
        exact this rfl
      · simp (disch := omega) only [pk_un]
        exact q3 j k hj (by omega)
    · simp (disch := omega) only [pk_un]
    · by_cases e : b = g
      · subst e
        have h2 := hgg b hb
        have hz := hE.2.2.2.1 b hb
        unfold gI at h2 ⊢
        simp (disch := omega) only [pk_us, pk_un]
        refine ⟨⟨by rw [t_m1]; omega, by rw [t_m1]; omega⟩, fun _ => Or.inl rfl, ⟨by omega, by omega⟩, ⟨by rw [t_0]; omega, by rw [t_0]; omega⟩, fun j hj => ?_⟩
        have := h2.2.2.2.2 j hj
        simp (disch := omega) only [pk_un]
        exact this
      · exact (hgg b hb).cong (fun f hf _ => by simp (disch := omega) only [pk_un])
    · have := hp z hz
      unfold pI at this ⊢
      simp (disch := omega) only [pk_un]
      exact this
    · simp (disch := omega) only [pk_un]; exact h0
  · rw [if_neg c]; exact h
theorem i64_0 : (0 : Int64).toInt = 0 := by decide
theorem y_i2l (x : Int32) : x.toInt64.toInt = x.toInt := Int32.toInt_toInt64 x
theorem y_l2i {x : Int64} (h1 : -2147483648 ≤ x.toInt) (h2 : x.toInt < 2147483648) : x.toInt32.toInt = x.toInt := by
  rw [Int64.toInt_toInt32]
  exact Int.bmod_eq_of_le (by omega) (by omega)
theorem clamp_I {v most : Int64} {m : Int} (hm : most.toInt = m) (h0 : 0 ≤ m) (h1 : m < 2147483648) : 0 ≤ (clamp v most).toInt32.toInt ∧ (clamp v most).toInt32.toInt ≤ m := by
  unfold clamp
  by_cases c : 0 ≤ lg_cmp v 0
  · rw [if_pos c]
    rw [lg_cmp_ge, Int64.le_iff_toInt_le, i64_0] at c
    by_cases c2 : lg_cmp v most ≤ 0
    · rw [if_pos c2]
      rw [lg_cmp_le, Int64.le_iff_toInt_le] at c2
      rw [y_l2i (by omega) (by omega)]
      omega
    · rw [if_neg c2, y_l2i (by omega) (by omega)]
      omega
  · rw [if_neg c, y_l2i (by rw [i64_0]; omega) (by rw [i64_0]; omega), i64_0]
    omega
theorem heapH_I {E : eg_E} {C : Nat} {Y : Nat → Int32} (hE : wE E) (hC : C < 1000000) (h : yI E C Y) {g s : Nat} (hg : g < eP E) (hs : s < eN E) : (0 ≤ (heapH E Y g s).toInt ∧ (heapH E Y g s).toInt ≤ (Y (20 + 20 * g + 2)).toInt) ∧ (¬ eD E s 2 = 0 → (heapH E Y g s).toInt ≤ (Y (320 + 8 * s)).toInt) := by
  have h1 := (h.2.2.1 g hg).2.2.1
  have h2 := (h.2.2.2.1 s hs).1
  have hz := hE.2.2.2.1 g hg
  unfold heapH
  by_cases c : eD E s 2 = 0
  · rw [if_pos c]
    exact ⟨clamp_I (y_i2l _) (by omega) (by omega), fun q => absurd c q⟩
  · rw [if_neg c]
    by_cases c2 : 0 ≤ lg_cmp (Y (320 + 8 * s)).toInt64 (Y (20 + 20 * g + 2)).toInt64
    · rw [if_pos c2]
      rw [lg_cmp_ge, Int64.le_iff_toInt_le, y_i2l, y_i2l] at c2
      have := clamp_I (v := lawD E 0 (nmA E Y g s) (Y (20 + 20 * g + 14 + s)).toInt64) (y_i2l (Y (20 + 20 * g + 2))) (by omega) (by omega)
      exact ⟨this, fun _ => by omega⟩
    · rw [if_neg c2]
      rw [lg_cmp_ge, Int64.le_iff_toInt_le, y_i2l, y_i2l] at c2
      have := clamp_I (v := lawD E 0 (nmA E Y g s) (Y (20 + 20 * g + 14 + s)).toInt64) (y_i2l (Y (320 + 8 * s))) (by omega) (by omega)
      exact ⟨⟨by omega, by omega⟩, fun _ => by omega⟩
/-- a change of the person g and of the pan s, the line as it was -/
theorem yI.ch {E : eg_E} {C : Nat} {Y Z : Nat → Int32} (hE : wE E) (h : yI E C Y) {g s : Nat} (hg : g < eP E) (hs : s < eN E) (ho : ∀ j, j < 366 → Z j ≠ Y j → (20 + 20 * g < j ∧ j < 40 + 20 * g) ∨ (320 + 8 * s ≤ j ∧ j < 328 + 8 * s)) (h1 : gI E Z g) (h2 : pI E C Z s) : yI E C Z := by
  have hn := hE.1
  have hN := hE.2.1
  have ho' : ∀ j, j < 366 → ¬ ((20 + 20 * g < j ∧ j < 40 + 20 * g) ∨ (320 + 8 * s ≤ j ∧ j < 328 + 8 * s)) → Z j = Y j := fun j hj q => by
    by_cases e : Z j = Y j
    · exact e
    · exact absurd (ho j hj e) q
  obtain ⟨hq, hr, hgg, hp, h0⟩ := h
  refine ⟨hq.cong hN (ho' 1 (by omega) (by omega)) (fun k hk => ho' _ (by omega) (by omega)) (fun b hb e => by rw [ho' _ (by omega) (by omega)]; exact e), hr.cong hn (fun p hp => ho' _ (by omega) (by omega)), fun b hb => ?_, fun z hz => ?_, ?_⟩
  · by_cases e : b = g
    · subst e; exact h1
    · exact (hgg b hb).cong (fun f hf _ => ho' _ (by omega) (by omega))
  · by_cases e : z = s
    · subst e; exact h2
    · have := hp z hz
      unfold pI at this ⊢
      rw [ho' _ (by omega) (by omega), ho' _ (by omega) (by omega)]
      exact this
  · rw [ho' 0 (by omega) (by omega)]; exact h0
theorem upd_ne' {f : Nat → Int32} {k j : Nat} {x : Int32} (h : upd f k x j ≠ f j) : j = k := by
  by_cases e : j = k
  · exact e
  · exact absurd (pk_un e) h
theorem skipF_I {E : eg_E} {C : Nat} {Y : Nat → Int32} (hE : wE E) (h : yI E C Y) {g s : Nat} (hg : g < eP E) (hs : s < eN E) : yI E C (skipF g s Y) := by
  have hn := hE.1
  have hN := hE.2.1
  unfold skipF
  refine h.ch hE hg hs (fun j hj e => ?_) ?_ ?_
  · by_cases e1 : j = 20 + 20 * g + 8
    · omega
    · rw [pk_un e1] at e
      have := upd_ne' e
      omega
  · have h2 := h.2.2.1 g hg
    unfold gI at h2 ⊢
    simp (disch := omega) only [pk_un]
    refine ⟨h2.1, h2.2.1, h2.2.2.1, h2.2.2.2.1, fun k hk => ?_⟩
    have h3 := h2.2.2.2.2 k hk
    by_cases e : k = s
    · subst e
      simp (disch := omega) only [pk_un, pk_us]
      rw [t_0]; omega
    · simp (disch := omega) only [pk_un]
      exact h3
  · have := h.2.2.2.1 s hs
    unfold pI at this ⊢
    simp (disch := omega) only [pk_un]
    exact this
theorem heapF_I {E : eg_E} {C : Nat} {Y : Nat → Int32} (hE : wE E) (hC : C < 1000000) (h : yI E C Y) {g s : Nat} (hg : g < eP E) (hs : s < eN E) : yI E C (heapF E g s Y) := by
  have hn := hE.1
  have hN := hE.2.1
  obtain ⟨b1, b2⟩ := heapH_I hE hC h hg hs
  have hz := hE.2.2.2.1 g hg
  have h2 := h.2.2.1 g hg
  have h4 := h.2.2.2.1 s hs
  unfold heapF
  dsimp only
  generalize heapH E Y g s = x at b1 b2 ⊢
  refine h.ch hE hg hs (fun j hj e => ?_) ?_ ?_
  · by_cases e1 : j = 320 + 8 * s
    · omega
    · rw [pk_un e1] at e
      by_cases e2 : j = 320 + 8 * s + 4
      · omega
      · rw [pk_un e2] at e
        by_cases e3 : j = 320 + 8 * s + 3
        · omega
        · rw [pk_un e3] at e
          by_cases e4 : j = 20 + 20 * g + 14 + s
          · omega
          · rw [pk_un e4] at e
            by_cases e5 : j = 20 + 20 * g + 5
            · omega
            · rw [pk_un e5] at e
              have := upd_ne' e
              omega
  · unfold gI at h2 ⊢
    simp (disch := omega) only [pk_un, pk_us]
    have h3 := h2.2.2.1
    refine ⟨h2.1, h2.2.1, ?_, h2.2.2.2.1, fun k hk => ?_⟩
    · rw [t_sub (by omega) (by omega)]
      omega
    · have h5 : 0 ≤ (Y (20 + 20 * g + 14 + k)).toInt ∧ (Y (20 + 20 * g + 14 + k)).toInt ≤ 9 := h2.2.2.2.2 k hk
      by_cases e : k = s
      · subst e
        simp (disch := omega) only [pk_un, pk_us]
        by_cases c : Y (20 + 20 * g + 14 + k) ≤ x
        · rw [if_pos c, t_0]; omega
        · rw [if_neg c]
          rw [t_le] at c
          rw [t_sub (by omega) (by omega)]
          omega
      · simp (disch := omega) only [pk_un]
        exact h5
  · unfold pI at h4 ⊢
    simp (disch := omega) only [pk_un, pk_us]
    by_cases c : eD E s 2 = 0
    · rw [if_pos c, t_sub (by rw [t_0]; omega) (by rw [t_0]; omega), t_0, Int.sub_zero]
      exact h4
    · have := b2 c
      rw [if_neg c, t_sub (by omega) (by omega)]
      refine ⟨by omega, ?_⟩
      rcases h4.2 with q | q
      · exact Or.inl q
      · exact Or.inr ⟨by omega, q.2⟩
theorem goToF_I {E : eg_E} {C : Nat} {Y : Nat → Int32} (hE : wE E) (hC : C < 1000000) (h : yI E C Y) {g p : Nat} (hg : g < eP E) (hp : p < eN E) : yI E C (goToF E g p Y) := by
  have hn := hE.1
  have hN := hE.2.1
  have hs := vp_lt (h.2.1.1 p hp)
  unfold goToF
  dsimp only
  generalize (Y (360 + p)).toNatClampNeg = s at hs ⊢
  have h1 : yI E C (upd (upd Y (20 + 20 * g + 1) (nI p)) (20 + 20 * g + 10) 0) := by
    refine h.ch hE hg hs (fun j hj e => ?_) ?_ ?_
    · by_cases e1 : j = 20 + 20 * g + 10
      · omega
      · rw [pk_un e1] at e
        have := upd_ne' e
        omega
    · have h2 := h.2.2.1 g hg
      unfold gI at h2 ⊢
      simp (disch := omega) only [pk_un, pk_us]
      refine ⟨⟨by rw [t_nI (by omega)]; omega, by rw [t_nI (by omega)]; omega⟩, fun _ => Or.inl rfl, h2.2.2.1, h2.2.2.2.1, fun k hk => ?_⟩
      have h3 := h2.2.2.2.2 k hk
      simp (disch := omega) only [pk_un]
      exact h3
    · have := h.2.2.2.1 s hs
      unfold pI at this ⊢
      simp (disch := omega) only [pk_un]
      exact this
  have hpos : (upd (upd Y (20 + 20 * g + 1) (nI p)) (20 + 20 * g + 10) 0) (20 + 20 * g + 1) = nI p := by
    simp (disch := omega) only [pk_un, pk_us]
  generalize upd (upd Y (20 + 20 * g + 1) (nI p)) (20 + 20 * g + 10) 0 = Y1 at h1 hpos ⊢
  by_cases c1 : ¬ eD E s 2 = 0 ∧ Y1 (320 + 8 * s) = 0
  · rw [if_pos c1]; exact skipF_I hE h1 hg hs
  · rw [if_neg c1]
    by_cases c2 : ¬ eD E s 1 ≤ sm (tkF Y1 (nI p)) (Y1 1).toNatClampNeg
    · rw [if_pos c2]
      have hh := heapF_I hE hC h1 hg hs
      have hpos2 : heapF E g s Y1 (20 + 20 * g + 1) = nI p := by
        unfold heapF
        simp (disch := omega) only [pk_un]
        exact hpos
      generalize heapF E g s Y1 = Z at hh hpos2 ⊢
      refine hh.ch hE hg hs (fun j hj e => ?_) ?_ ?_
      · have := upd_ne' e
        omega
      · have h2 := hh.2.2.1 g hg
        have hd := (hE.2.2.1 s hs).1
        unfold gI at h2 ⊢
        simp (disch := omega) only [pk_un, pk_us]
        refine ⟨h2.1, h2.2.1, h2.2.2.1, ⟨by omega, by omega⟩, fun k hk => ?_⟩
        have h3 := h2.2.2.2.2 k hk
        simp (disch := omega) only [pk_un]
        exact h3
      · have := hh.2.2.2.1 s hs
        unfold pI at this ⊢
        simp (disch := omega) only [pk_un]
        exact this
    · rw [if_neg c2]
      by_cases c3 : lg_cmp (lawD E 1 (nmA E Y1 g s) 0) 0 = 0
      · rw [if_pos c3]
        refine h1.ch hE hg hs (fun j hj e => ?_) ?_ ?_
        · by_cases e1 : j = 20 + 20 * g + 4
          · omega
          · rw [pk_un e1] at e
            have := upd_ne' e
            omega
        · have h2 := h1.2.2.1 g hg
          unfold gI at h2 ⊢
          simp (disch := omega) only [pk_un, pk_us]
          refine ⟨h2.1, fun _ => Or.inr ⟨rfl, by rw [hpos, t_nI (by omega)]; omega⟩, h2.2.2.1, h2.2.2.2.1, fun k hk => ?_⟩
          have h3 := h2.2.2.2.2 k hk
          simp (disch := omega) only [pk_un]
          exact h3
        · have := h1.2.2.2.1 s hs
          unfold pI at this ⊢
          simp (disch := omega) only [pk_un]
          exact this
      · rw [if_neg c3]; exact skipF_I hE h1 hg hs
theorem ool_k {Y : Nat → Int32} {i k : Nat} (hk : k + 1 < (Y 1).toNatClampNeg) : ool Y i (2 + k) = if i ≤ k then Y (2 + (k + 1)) else Y (2 + k) := by
  unfold ool
  rw [if_neg (by omega)]
  by_cases h : i ≤ k
  · rw [if_pos ⟨by omega, by omega⟩, if_pos h]; congr 1
  · rw [if_neg (by omega), if_neg h]
theorem ool_o {Y : Nat → Int32} {i j : Nat} (hq : (Y 1).toNatClampNeg < 16) (hj : 18 ≤ j ∨ j = 0) : ool Y i j = Y j := by
  unfold ool
  rw [if_neg (by omega), if_neg (by omega)]
theorem ool_1 (Y : Nat → Int32) (i : Nat) : ool Y i 1 = Y 1 - 1 := rfl
theorem sitF_I {E : eg_E} {C : Nat} {Y : Nat → Int32} (hE : wE E) (h : yI E C Y) {i : Nat} (hi : i < (Y 1).toNatClampNeg) : yI E C (sitF E i Y) ∧ (sitF E i Y 1).toNatClampNeg + 1 = (Y 1).toNatClampNeg := by
  have hn := hE.1
  have hN := hE.2.1
  obtain ⟨⟨q1, q2, q3⟩, hr, hgg, hp, h0⟩ := h
  obtain ⟨eq, hq⟩ := nI_of' q1 (by omega)
  obtain ⟨eg, hlt⟩ := nI_of' (q2 i hi).1 (by omega)
  unfold sitF
  dsimp only
  generalize (clamp (lawD E 2 _ _) _).toInt32 = x
  have hst : ∀ c : Int32, (if c = 0 then (3 : Int32) else 2) ≠ 1 := fun c => by by_cases q : c = 0 <;> simp [q]
  have hst2 := hst (if sm (fun k => Y (34 + 20 * (Y (2 + i)).toNatClampNeg + k)) 5 ≤ 0 then (0 : Int32) else if eO E 1 ≤ 0 then 0 else if eC E (Y (2 + i)).toNatClampNeg 1 - Y (20 + 20 * (Y (2 + i)).toNatClampNeg + 2) ≤ 0 then 0 else 1)
  generalize (if (if sm (fun k => Y (34 + 20 * (Y (2 + i)).toNatClampNeg + k)) 5 ≤ 0 then (0 : Int32) else if eO E 1 ≤ 0 then 0 else if eC E (Y (2 + i)).toNatClampNeg 1 - Y (20 + 20 * (Y (2 + i)).toNatClampNeg + 2) ≤ 0 then 0 else 1) = 0 then (3 : Int32) else 2) = st at hst2 ⊢
  generalize hgd : (Y (2 + i)).toNatClampNeg = g at eg hlt ⊢
  have hne : ∀ k, k < (Y 1).toNatClampNeg → k ≠ i → (Y (2 + k)).toNatClampNeg ≠ g := by
    intro k hk hki e
    have e2 : Y (2 + k) = Y (2 + i) := by rw [(nI_of' (q2 k hk).1 (by omega)).1, e, eg]
    rcases Nat.lt_or_gt_of_ne hki with q | q
    · exact q3 k i q hi e2
    · exact q3 i k q hk e2.symm
  generalize hZ : upd (upd (upd (upd (upd (upd Y (20 + 20 * g + 6) _) (20 + 20 * g + 7) _) (20 + 20 * g) st) (20 + 20 * g + 11) _) (20 + 20 * g + 1) (-1)) (20 + 20 * g + 2) (eC E g 1) = Z
  have z1 : Z 1 = Y 1 := by rw [← hZ]; simp (disch := omega) only [pk_un]
  have zk : ∀ k, k < 15 → Z (2 + k) = Y (2 + k) := fun k hk => by rw [← hZ]; simp (disch := omega) only [pk_un]
  have zq : (Z 1).toNatClampNeg = (Y 1).toNatClampNeg := by rw [z1]
  have zo : ∀ j, 18 ≤ j → (j < 20 + 20 * g ∨ 40 + 20 * g ≤ j) → Z j = Y j := fun j h1 h2 => by rw [← hZ]; simp (disch := omega) only [pk_un]
  have o1 : ool Z i 1 = nI ((Y 1).toNatClampNeg - 1) := by
    have := nI_pred ((Y 1).toNatClampNeg - 1)
    rw [show (Y 1).toNatClampNeg - 1 + 1 = (Y 1).toNatClampNeg by omega, ← eq] at this
    rw [ool_1, z1]
    exact this
  have ok : ∀ k, k < (Y 1).toNatClampNeg - 1 → ∃ k', k' < (Y 1).toNatClampNeg ∧ k' ≠ i ∧ ool Z i (2 + k) = Y (2 + k') ∧ k' = (if i ≤ k then k + 1 else k) := by
    intro k hk
    rw [ool_k (by omega)]
    by_cases c : i ≤ k
    · rw [if_pos c, if_pos c, zk _ (by omega)]
      exact ⟨k + 1, by omega, by omega, rfl, rfl⟩
    · rw [if_neg c, if_neg c, zk _ (by omega)]
      exact ⟨k, by omega, by omega, rfl, rfl⟩
  refine ⟨⟨⟨?_, ?_, ?_⟩, ?_, fun b hb => ?_, fun z hz => ?_, ?_⟩, ?_⟩
  · rw [o1]; exact nI_in' (by omega) (by omega)
  · rw [o1, nI_t (by omega)]
    intro k hk
    obtain ⟨k', h1, h2, h3, -⟩ := ok k hk
    rw [h3]
    have h4 := q2 k' h1
    have h5 := vp_lt h4.1
    have h6 := hne k' h1 h2
    rw [ool_o (by omega) (Or.inl (by omega)), zo _ (by omega) (by omega)]
    exact h4
  · rw [o1, nI_t (by omega)]
    intro j k hj hk
    obtain ⟨j', a1, a2, a3, a4⟩ := ok j (by omega)
    obtain ⟨k', b1, b2, b3, b4⟩ := ok k hk
    rw [a3, b3]
    refine q3 j' k' ?_ b1
    rw [a4, b4]
    by_cases c : i ≤ j
    · rw [if_pos c, if_pos (by omega)]; omega
    · rw [if_neg c]
      by_cases c2 : i ≤ k
      · rw [if_pos c2]; omega
      · rw [if_neg c2]; omega
  · refine hr.cong hn (fun p hp => ?_)
    rw [ool_o (by omega) (Or.inl (by omega)), zo _ (by omega) (by omega)]
  · by_cases e : b = g
    · subst e
      have h2 := hgg b hb
      have hz := hE.2.2.2.1 b hb
      unfold gI at h2 ⊢
      rw [ool_o (by omega) (Or.inl (by omega)), ool_o (by omega) (Or.inl (by omega)), ool_o (by omega) (Or.inl (by omega)), ool_o (by omega) (Or.inl (by omega)), ool_o (by omega) (Or.inl (by omega))]
      rw [show Z (20 + 20 * b + 1) = -1 by rw [← hZ]; simp (disch := omega) only [pk_un, pk_us], show Z (20 + 20 * b + 2) = eC E b 1 by rw [← hZ]; simp (disch := omega) only [pk_un, pk_us], show Z (20 + 20 * b + 3) = Y (20 + 20 * b + 3) by rw [← hZ]; simp (disch := omega) only [pk_un, pk_us], show Z (20 + 20 * b + 10) = Y (20 + 20 * b + 10) by rw [← hZ]; simp (disch := omega) only [pk_un, pk_us]]
      refine ⟨⟨by rw [t_m1]; omega, by rw [t_m1]; omega⟩, ?_, ⟨by omega, by omega⟩, h2.2.2.2.1, fun k hk => ?_⟩
      · intro e
        rw [show Z (20 + 20 * b) = st by rw [← hZ]; simp (disch := omega) only [pk_un, pk_us]] at e
        exact absurd e hst2
      · show 0 ≤ (ool Z i (20 + 20 * b + 14 + k)).toInt ∧ (ool Z i (20 + 20 * b + 14 + k)).toInt ≤ 9
        rw [ool_o (by omega) (Or.inl (by omega)), show Z (20 + 20 * b + 14 + k) = Y (20 + 20 * b + 14 + k) by rw [← hZ]; simp (disch := omega) only [pk_un, pk_us]]
        exact h2.2.2.2.2 k hk
    · refine (hgg b hb).cong (fun f hf _ => ?_)
      rw [ool_o (by omega) (Or.inl (by omega)), zo _ (by omega) (by omega)]
  · have := hp z hz
    unfold pI at this ⊢
    rw [ool_o (by omega) (Or.inl (by omega)), ool_o (by omega) (Or.inl (by omega)), zo _ (by omega) (by omega), zo _ (by omega) (by omega)]
    exact this
  · rw [ool_o (by omega) (Or.inr rfl), show Z 0 = Y 0 by rw [← hZ]; simp (disch := omega) only [pk_un]]
    exact h0
  · rw [o1, nI_t (by omega)]; omega
