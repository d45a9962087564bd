theorem yI.ch1 {E : eg_E} {C : Nat} {Y Z : Nat → Int32} (hE : wE E) (h : yI E C Y) {g : Nat} (hg : g < eP E) (ho : ∀ j, j < 366 → Z j ≠ Y j → 20 + 20 * g < j ∧ j < 40 + 20 * g) (h1 : gI E Z g) : yI E C Z := by
  have hn := hE.1
  have hN := hE.2.1
  have ho' : ∀ j, j < 366 → ¬ (20 + 20 * g < j ∧ j < 40 + 20 * g) → Z j = Y j := fun j hj q => by
    by_cases e : Z j = Y j
    · exact e
    · exact absurd (ho j hj e) q
  obtain ⟨hq, hr, hgg, hp, h0⟩ := h
  refine ⟨hq.cong hN (ho' 1 (by omega) (by omega)) (fun k hk => ho' _ (by omega) (by omega)) (fun b hb e => by rw [ho' _ (by omega) (by omega)]; exact e), hr.cong hn (fun p hp => ho' _ (by omega) (by omega)), fun b hb => ?_, fun z hz => ?_, ?_⟩
  · by_cases e : b = g
    · subst e; exact h1
    · exact (hgg b hb).cong (fun f hf _ => ho' _ (by omega) (by omega))
  · have := hp z hz
    unfold pI at this ⊢
    rw [ho' _ (by omega) (by omega), ho' _ (by omega) (by omega)]
    exact this
  · rw [ho' 0 (by omega) (by omega)]; exact h0
theorem fst1_r (q : Nat → Bool) : ∀ (n k : Nat), (¬ fst1 q k n < 0) → ∃ p, fst1 q k n = nI p ∧ k ≤ p ∧ p < k + n ∧ q p = true
  | 0, k, hk => absurd (show (-1 : Int32) < 0 by decide) hk
  | n + 1, k, hk => by
    by_cases hq : q k = true
    · refine ⟨k, ?_, by omega, by omega, hq⟩
      show (if q k then nI k else fst1 q (k + 1) n) = nI k
      rw [if_pos hq]
    · have e : fst1 q k (n + 1) = fst1 q (k + 1) n := by show (if q k then nI k else fst1 q (k + 1) n) = _; rw [if_neg hq]
      rw [e] at hk ⊢
      obtain ⟨p, h1, h2, h3, h4⟩ := fst1_r q n (k + 1) hk
      exact ⟨p, h1, by omega, by omega, h4⟩
theorem nxF_r {Y : Nat → Int32} {n g : Nat} (h : ¬ nxF Y n g < 0) : ∃ p, nxF Y n g = nI p ∧ p < n ∧ (nxS Y g).toNatClampNeg ≤ p ∧ 0 < Y (34 + 20 * g + (Y (360 + p)).toNatClampNeg) := by
  unfold nxF at h ⊢
  by_cases c0 : Y (22 + 20 * g) = 0
  · rw [if_pos c0] at h
    exact absurd (by decide) h
  · rw [if_neg c0] at h ⊢
    obtain ⟨p, h1, h2, h3, h4⟩ := fst1_r _ _ _ h
    refine ⟨p, h1, ?_, h2, of_decide_eq_true h4⟩
    omega
/-- the array's line stays as long, and no one in it but the i-th has another place .. -/
theorem goF_I {E : eg_E} {C : Nat} {Y : Nat → Int32} (hE : wE E) (hC : C < 1000000) (h : yI E C Y) {i : Nat} (hi : i < (Y 1).toNatClampNeg) : yI E C (goF E i Y).2 ∧ (if (goF E i Y).1 then ((goF E i Y).2 1).toNatClampNeg + 1 = (Y 1).toNatClampNeg else (goF E i Y).2 1 = Y 1) ∧ (goF E i Y).2 0 = Y 0 := by
  have hn := hE.1
  have hN := hE.2.1
  have hq := vp_lt h.1.1
  have hg := vp_lt (h.1.2.1 i hi).1
  unfold goF
  dsimp only
  generalize hgd : (Y (2 + i)).toNatClampNeg = g at hg ⊢
  by_cases c : eO E 0 = 0 ∧ 0 < i ∧ (nxF Y (eN E) g < 0 ∨ ¬ nxF Y (eN E) g ≤ Y (20 + 20 * (Y (1 + i)).toNatClampNeg + 1))
  · rw [if_pos c]
    have hb := (h.1.2.1 (i - 1) (by omega)).1
    rw [show 2 + (i - 1) = 1 + i by have := c.2.1; omega] at hb
    have hb2 := vp_lt hb
    have hbI := h.2.2.1 _ hb2
    generalize (Y (1 + i)).toNatClampNeg = b at hb2 hbI ⊢
    have hbp := hbI.1
    refine ⟨h.ch1 hE hg (fun j hj e => ?_) ?_, ?_, ?_⟩
    · by_cases e1 : j = 20 + 20 * g + 4
      · omega
      · simp only [pk_un e1] at e
        have := upd_ne' e
        omega
    · have h2 := h.2.2.1 g hg
      unfold gI at h2 ⊢
      simp (disch := omega) only [pk_un, pk_us]
      refine ⟨?_, ?_, h2.2.2.1, h2.2.2.2.1, fun k hk => ?_⟩
      · by_cases c2 : Y (20 + 20 * b + 1) ≤ Y (20 + 20 * g + 1)
        · rw [if_pos c2]; exact h2.1
        · rw [if_neg c2]; exact hbp
      · intro e
        rcases h2.2.1 e with q | q
        · exact Or.inl q
        · refine Or.inr ⟨q.1, ?_⟩
          by_cases c2 : Y (20 + 20 * b + 1) ≤ Y (20 + 20 * g + 1)
          · rw [if_pos c2]; exact q.2
          · rw [if_neg c2]
            rw [t_le] at c2
            have := q.2
            omega
      · have h3 := h2.2.2.2.2 k hk
        simp (disch := omega) only [pk_un]
        exact h3
    · simp (disch := omega) only [pk_un, if_false, Bool.false_eq_true]
    · simp (disch := omega) only [pk_un]
  · rw [if_neg c]
    by_cases c2 : nxF Y (eN E) g < 0
    · rw [if_pos c2]
      obtain ⟨s1, s2⟩ := sitF_I hE h hi
      refine ⟨s1, ?_, ?_⟩
      · simp only [if_true]; exact s2
      · unfold sitF
        dsimp only
        rw [ool_o ?_ (Or.inr rfl)]
        · simp (disch := omega) only [pk_un]
        · rw [hgd]; simp (disch := omega) only [pk_un]; omega
    · rw [if_neg c2]
      obtain ⟨p, e1, h1, -⟩ := nxF_r c2
      rw [e1, nI_t (by omega)]
      have hs := vp_lt (h.2.1.1 p h1)
      have key : ∀ j, j < 20 → goToF E g p Y j = Y j := by
        intro j hj
        unfold goToF skipF heapF
        dsimp only
        generalize (Y (360 + p)).toNatClampNeg = s at hs ⊢
        split
        · simp (disch := omega) only [pk_un]
        · split
          · simp (disch := omega) only [pk_un]
          · split
            · simp (disch := omega) only [pk_un]
            · simp (disch := omega) only [pk_un]
      refine ⟨goToF_I hE hC h hg h1, ?_, key 0 (by omega)⟩
      simp only [Bool.false_eq_true, if_false]
      exact key 1 (by omega)
theorem walkF_I {E : eg_E} {C : Nat} (hE : wE E) (hC : C < 1000000) : ∀ (n i : Nat) (Y : Nat → Int32), yI E C Y → yI E C (walkF E n i Y) ∧ walkF E n i Y 0 = Y 0
  | 0, _, Y, h => ⟨h, rfl⟩
  | n + 1, i, Y, h => by
    unfold walkF
    by_cases c : i < (Y 1).toNatClampNeg
    · rw [if_pos c]
      by_cases c2 : Y (20 + 20 * (Y (2 + i)).toNatClampNeg + 3) = 0
      · rw [if_pos c2]
        obtain ⟨g1, -, g3⟩ := goF_I hE hC h c
        by_cases c3 : (goF E i Y).1 = true
        · rw [if_pos c3]
          have := walkF_I hE hC n i _ g1
          exact ⟨this.1, this.2.trans g3⟩
        · rw [if_neg c3]
          have := walkF_I hE hC n (i + 1) _ g1
          exact ⟨this.1, this.2.trans g3⟩
      · rw [if_neg c2]
        exact walkF_I hE hC n (i + 1) _ h
    · rw [if_neg c]; exact ⟨h, rfl⟩
theorem fillA_I {E : eg_E} {C : Nat} {Y : Nat → Int32} (hE : wE E) (hC : C < 1000000) (h : yI E C Y) (n : Nat) (hn : n ≤ eN E) : yI E C (itr (fillF E) n Y) := itr_inv (P := fun _ Z => yI E C Z) h (fun _ _ hk hZ => fillF_I hE hC hZ (by omega))
theorem admA_I {E : eg_E} {C : Nat} {Y : Nat → Int32} (hE : wE E) (h : yI E C Y) (n : Nat) (hn : n ≤ eP E) : yI E C (itr (admF E) n Y) := itr_inv (P := fun _ Z => yI E C Z) h (fun _ _ hk hZ => admF_I hE hZ (by omega))
theorem pansA_I {E : eg_E} {C : Nat} {Y : Nat → Int32} (hE : wE E) (hC : 119 ≤ C) (h : yI E C Y) (n : Nat) (hn : n ≤ eN E) : yI E C (itr (pansF E) n Y) := itr_inv (P := fun _ Z => yI E C Z) h (fun _ _ hk hZ => pansF_I hE hC hZ (by omega))
theorem tkoA_I {E : eg_E} {C : Nat} {Y : Nat → Int32} (hE : wE E) (h : yI E C Y) (n : Nat) (hn : n ≤ (Y 1).toNatClampNeg) : yI E C (itr tkoF n Y) ∧ itr tkoF n Y 1 = Y 1 := itr_inv (P := fun _ Z => yI E C Z ∧ Z 1 = Y 1) ⟨h, rfl⟩ (fun k Z hk hZ => by
  have := tkoF_I hE hZ.1 (k := k) (by rw [hZ.2]; omega)
  exact ⟨this.1, this.2.trans hZ.2⟩)
theorem itr_fix {f : Nat → (Nat → Int32) → (Nat → Int32)} {a : Nat} {Y : Nat → Int32} (h : ∀ k Z, f k Z a = Z a) (n : Nat) : itr f n Y a = Y a := itr_inv (P := fun _ Z => Z a = Y a) rfl (fun k Z _ hZ => (h k Z).trans hZ)
theorem fillF_0 (E : eg_E) (s : Nat) (Y : Nat → Int32) : fillF E s Y 0 = Y 0 := by
  unfold fillF
  split
  · rfl
  · simp (disch := omega) only [pk_un]
theorem admF_0 (E : eg_E) (g : Nat) (Y : Nat → Int32) : admF E g Y 0 = Y 0 := by
  unfold admF comeF
  split
  · simp (disch := omega) only [pk_un]
  · rfl
theorem tkoF_0 (k : Nat) (Y : Nat → Int32) : tkoF k Y 0 = Y 0 := by
  unfold tkoF
  simp (disch := omega) only [pk_un]
theorem pansF_0 (E : eg_E) (s : Nat) (Y : Nat → Int32) : pansF E s Y 0 = Y 0 := by
  unfold pansF
  split
  · rfl
  · dsimp only
    simp (disch := omega) only [pk_un]
    split
    · simp (disch := omega) only [pk_un]
    · rfl
theorem secF_I {E : eg_E} {C : Nat} {Y : Nat → Int32} (hE : wE E) (hC : C < 1000000) (hC2 : 119 ≤ C) (h : yI E C Y) (h0 : (Y 0).toInt < 3600) : yI E C (secF E Y) ∧ secF E Y 0 = Y 0 + 1 := by
  unfold secF
  dsimp only
  have h1 := admA_I hE (fillA_I hE hC h _ (Nat.le_refl _)) _ (Nat.le_refl _)
  have e1 : itr (admF E) (eP E) (itr (fillF E) (eN E) Y) 0 = Y 0 := (itr_fix (admF_0 E) _).trans (itr_fix (fillF_0 E) _)
  generalize itr (admF E) (eP E) (itr (fillF E) (eN E) Y) = Y1 at h1 e1 ⊢
  obtain ⟨h2, e2⟩ := walkF_I hE hC (Y1 1).toNatClampNeg 0 Y1 h1
  generalize walkF E (Y1 1).toNatClampNeg 0 Y1 = Y2 at h2 e2 ⊢
  obtain ⟨h3, -⟩ := tkoA_I hE h2 _ (Nat.le_refl _)
  have e3 : itr tkoF (Y2 1).toNatClampNeg Y2 0 = Y2 0 := itr_fix tkoF_0 _
  generalize itr tkoF (Y2 1).toNatClampNeg Y2 = Y3 at h3 e3 ⊢
  have h4 := pansA_I hE hC2 h3 _ (Nat.le_refl _)
  have e4 : itr (pansF E) (eN E) Y3 0 = Y3 0 := itr_fix (pansF_0 E) _
  generalize itr (pansF E) (eN E) Y3 = Y4 at h4 e4 ⊢
  have e5 : Y4 0 = Y 0 := by rw [e4, e3, e2, e1]
  refine ⟨?_, by rw [pk_us, e5]⟩
  obtain ⟨hq, hr, hg, hp, h00⟩ := h4
  have hn := hE.1
  have hN := hE.2.1
  refine ⟨hq.cong hN (pk_un (by omega)) (fun k hk => pk_un (by omega)) (fun g hg e => by rw [pk_un (by omega)]; exact e), hr.cong hn (fun p hp => pk_un (by omega)), fun g hgg => (hg g hgg).cong (fun f hf _ => pk_un (by omega)), fun z hz => ?_, ?_⟩
  · have := hp z hz
    unfold pI at this ⊢
    simp (disch := omega) only [pk_un]
    exact this
  · rw [pk_us, t_add (by rw [t_1]; omega) (by rw [t_1, e5]; omega), t_1]
    rw [e5] at h00 ⊢
    omega
