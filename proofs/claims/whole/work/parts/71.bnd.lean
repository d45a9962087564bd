/-! HOW LONG one waits, how long a pan is empty: bounds -/
def bnd (E : eg_E) (K : Nat) (Y : Nat → Int32) : Prop := (∀ g, g < eP E → 0 ≤ (Y (20 + 20 * g + 4)).toInt ∧ (Y (20 + 20 * g + 4)).toInt ≤ K) ∧ ∀ s, s < eN E → 0 ≤ (Y (320 + 8 * s + 5)).toInt ∧ (Y (320 + 8 * s + 5)).toInt ≤ K
theorem bnd.w {E : eg_E} {K L : Nat} {Y : Nat → Int32} (h : bnd E K Y) (hl : K ≤ L) : bnd E L Y := ⟨fun g hg => by have := h.1 g hg; omega, fun s hs => by have := h.2 s hs; omega⟩
theorem t_inc {x : Int32} {K : Nat} (h : 0 ≤ x.toInt ∧ x.toInt ≤ K) (hK : K < 1000000) : 0 ≤ (x + 1).toInt ∧ (x + 1).toInt ≤ (K + 1 : Nat) := by
  rw [t_add (by rw [t_1]; omega) (by rw [t_1]; omega), t_1]
  omega
theorem goF_4 {E : eg_E} {C : Nat} {Y : Nat → Int32} (hE : wE E) (hY : yI E C Y) {i : Nat} (hi : i < (Y 1).toNatClampNeg) : (∀ g, g < eP E → (goF E i Y).2 (20 + 20 * g + 4) = Y (20 + 20 * g + 4) ∨ (goF E i Y).2 (20 + 20 * g + 4) = Y (20 + 20 * g + 4) + 1) ∧ ∀ s, s < eN E → (goF E i Y).2 (320 + 8 * s + 5) = Y (320 + 8 * s + 5) := by
  have hN := hE.2.1
  have hn := hE.1
  have hq := hY.q16 hE
  obtain ⟨hk1, hk2⟩ := hY.1.2.1 i hi
  have hg0 := vp_lt hk1
  have so : ∀ j, 20 ≤ j → (j < 20 + 20 * (Y (2 + i)).toNatClampNeg ∨ 40 + 20 * (Y (2 + i)).toNatClampNeg ≤ j ∨ j = 20 + 20 * (Y (2 + i)).toNatClampNeg + 5) → sitF E i Y j = Y j := fun j h1 h2 => sitF_o hq (by omega) h1 h2
  have s4 : sitF E i Y (20 + 20 * (Y (2 + i)).toNatClampNeg + 4) = Y (20 + 20 * (Y (2 + i)).toNatClampNeg + 4) := by
    obtain ⟨x6, x7, s2, b, e⟩ : ∃ x6 x7 s2 b, sitF E i Y = ool (upd (upd (upd (upd (upd (upd Y (20 + 20 * (Y (2 + i)).toNatClampNeg + 6) x6) (20 + 20 * (Y (2 + i)).toNatClampNeg + 7) x7) (20 + 20 * (Y (2 + i)).toNatClampNeg) s2) (20 + 20 * (Y (2 + i)).toNatClampNeg + 11) b) (20 + 20 * (Y (2 + i)).toNatClampNeg + 1) (-1)) (20 + 20 * (Y (2 + i)).toNatClampNeg + 2) (eC E (Y (2 + i)).toNatClampNeg 1)) i := ⟨_, _, _, _, rfl⟩
    rw [e]
    clear e so
    generalize (Y (2 + i)).toNatClampNeg = g at *
    have e1 : (upd (upd (upd (upd (upd (upd Y (20 + 20 * g + 6) x6) (20 + 20 * g + 7) x7) (20 + 20 * g) s2) (20 + 20 * g + 11) b) (20 + 20 * g + 1) (-1)) (20 + 20 * g + 2) (eC E g 1)) 1 = Y 1 := by simp (disch := omega) only [pk_un]
    rw [ool_o (by rw [e1]; exact hq) (by omega)]
    simp (disch := omega) only [pk_un]
  unfold goF
  dsimp only
  generalize (Y (2 + i)).toNatClampNeg = a at *
  split
  · refine ⟨fun g hg => ?_, fun s hs => ?_⟩
    · dsimp only
      by_cases e : g = a
      · subst e; right; rw [pk_us]
      · left; rw [pk_un (by omega), pk_un (by omega)]
    · dsimp only; rw [pk_un (by omega), pk_un (by omega)]
  · split
    · refine ⟨fun g hg => ?_, fun s hs => by exact so (320 + 8 * s + 5) (by omega) (by omega)⟩
      by_cases e : g = a
      · subst e; exact Or.inl s4
      · exact Or.inl (by exact so (20 + 20 * g + 4) (by omega) (by omega))
    · rename_i c1 c2
      obtain ⟨p, ep, hp, _, _⟩ := nxF_r c2
      rw [ep, nI_t (by omega)]
      have hs : (Y (360 + p)).toNatClampNeg < eN E := vp_lt (hY.2.1.1 p hp)
      dsimp only
      unfold goToF skipF heapF
      generalize (Y (360 + p)).toNatClampNeg = t at *
      dsimp only
      split
      · exact ⟨fun g hg => Or.inl (by simp (disch := omega) only [pk_un]), fun s hs => by simp (disch := omega) only [pk_un]⟩
      · split
        · exact ⟨fun g hg => Or.inl (by simp (disch := omega) only [pk_un]), fun s hs => by simp (disch := omega) only [pk_un]⟩
        · split
          · refine ⟨fun g hg => ?_, fun s hs => by simp (disch := omega) only [pk_un]⟩
            by_cases e : g = a
            · subst e; right; simp (disch := omega) only [pk_un, pk_us]
            · left; simp (disch := omega) only [pk_un]
          · exact ⟨fun g hg => Or.inl (by simp (disch := omega) only [pk_un]), fun s hs => by simp (disch := omega) only [pk_un]⟩
theorem walkF_b {E : eg_E} {C : Nat} (hE : wE E) (hC : C < 1000000) : ∀ (n i K : Nat) (Y : Nat → Int32), K + n < 1000000 → yI E C Y → bnd E K Y → bnd E (K + n) (walkF E n i Y)
  | 0, _, _, _, _, _, h => h
  | n + 1, i, K, Y, hK, hY, h => by
    unfold walkF
    by_cases c : i < (Y 1).toNatClampNeg
    · rw [if_pos c]
      have h1 := (goF_I hE hC hY c).1
      obtain ⟨h2, h3⟩ := goF_4 hE hY c
      have b : bnd E (K + 1) (goF E i Y).2 := by
        refine ⟨fun g hg => ?_, fun s hs => ?_⟩
        · rcases h2 g hg with q | q
          · rw [q]; have := h.1 g hg; omega
          · rw [q]; exact t_inc (h.1 g hg) (by omega)
        · rw [h3 s hs]; have := h.2 s hs; omega
      have r := fun j => walkF_b hE hC n j (K + 1) _ (by omega) h1 b
      rw [show K + 1 + n = K + (n + 1) by omega] at r
      split
      · split
        · exact r _
        · exact r _
      · exact (walkF_b hE hC n (i + 1) K Y (by omega) hY h).w (by omega)
    · rw [if_neg c]
      exact h.w (by omega)
theorem secF_b {E : eg_E} {C : Nat} {Y : Nat → Int32} (hE : wE E) (hC : C < 1000000) (hC2 : 119 ≤ C) (hY : yI E C Y) {K : Nat} (hK : K < 900000) (h : bnd E K Y) : bnd E (K + 20) (secF E Y) := by
  have hN := hE.2.1
  have hn := hE.1
  have I1 := fillA_I hE hC hY (eN E) (Nat.le_refl _)
  have F : ∀ n, n ≤ eN E → (∀ j, j < 320 → itr (fillF E) n Y j = Y j) ∧ ∀ s, s < eN E → itr (fillF E) n Y (320 + 8 * s + 5) = Y (320 + 8 * s + 5) := by
    intro n
    induction n with
    | zero => exact fun _ => ⟨fun _ _ => rfl, fun _ _ => rfl⟩
    | succ n ih =>
      intro hn2
      rw [itr_s]
      have ih' := ih (by omega)
      generalize itr (fillF E) n Y = Z at *
      refine ⟨fun j hj => (fillF_hi E n Z hj).trans (ih'.1 j hj), fun s hs => ?_⟩
      unfold fillF
      split
      · exact ih'.2 s hs
      · simp (disch := omega) only [pk_un]; exact ih'.2 s hs
  obtain ⟨F1, F2⟩ := F _ (Nat.le_refl _)
  have b1 : bnd E K (itr (fillF E) (eN E) Y) := ⟨fun g hg => by rw [F1 _ (by omega)]; exact h.1 g hg, fun s hs => by rw [F2 s hs]; exact h.2 s hs⟩
  clear F F1 F2
  unfold secF
  dsimp only
  generalize itr (fillF E) (eN E) Y = Y0 at *
  have A : ∀ n, n ≤ eP E → bnd E K (itr (admF E) n Y0) := by
    intro n
    induction n with
    | zero => exact fun _ => b1
    | succ n ih =>
      intro hn2
      rw [itr_s]
      have ih' := ih (by omega)
      have hq := (admA_I hE I1 n (by omega)).q16 hE
      generalize itr (admF E) n Y0 = Z at *
      unfold admF comeF
      split
      · refine ⟨fun g hg => ?_, fun s hs => ?_⟩
        · simp (disch := omega) only [pk_un]; exact ih'.1 g hg
        · simp (disch := omega) only [pk_un]; exact ih'.2 s hs
      · exact ih'
  have I2 := admA_I hE I1 (eP E) (Nat.le_refl _)
  have b2 := A _ (Nat.le_refl _)
  generalize itr (admF E) (eP E) Y0 = Y1 at *
  have q1 := I2.q16 hE
  have I3 := (walkF_I hE hC (Y1 1).toNatClampNeg 0 Y1 I2).1
  have b3 := (walkF_b hE hC (Y1 1).toNatClampNeg 0 K Y1 (by omega) I2 b2).w (L := K + 15) (by omega)
  generalize walkF E (Y1 1).toNatClampNeg 0 Y1 = Y2 at *
  have T : ∀ n, n ≤ (Y2 1).toNatClampNeg → bnd E (K + 15) (itr tkoF n Y2) := by
    intro n
    induction n with
    | zero => exact fun _ => b3
    | succ n ih =>
      intro hn2
      have ih' := ih (by omega)
      obtain ⟨I, i1⟩ := tkoA_I hE I3 n (by omega)
      rw [itr_s]
      have hb := vp_lt (I.1.2.1 n (by rw [i1]; omega)).1
      generalize itr tkoF n Y2 = Z at *
      unfold tkoF
      refine ⟨fun g hg => ?_, fun s hs => ?_⟩
      · simp (disch := omega) only [pk_un]; exact ih'.1 g hg
      · simp (disch := omega) only [pk_un]; exact ih'.2 s hs
  have b4 := T _ (Nat.le_refl _)
  generalize itr tkoF (Y2 1).toNatClampNeg Y2 = Y3 at *
  have pp : ∀ n, n ≤ eN E → bnd E (K + 15 + n) (itr (pansF E) n Y3) := by
    intro n
    induction n with
    | zero => exact fun _ => b4
    | succ n ih =>
      intro hn2
      rw [itr_s]
      have ih' := ih (by omega)
      generalize itr (pansF E) n Y3 = Z at *
      refine ⟨fun g hg => by rw [pansF_hi E n Z (by omega)]; have := ih'.1 g hg; omega, fun s hs => ?_⟩
      have i5 := ih'.2 s hs
      unfold pansF
      split
      · omega
      · dsimp only
        have base : (if ¬ eD E n 4 < Z (320 + 8 * n) ∧ ¬ 0 ≤ Z (320 + 8 * n + 2) ∧ ¬ eO E 2 ≤ Z 0 then upd Z (320 + 8 * n + 2) (Z 0 + eD E n 3) else Z) (320 + 8 * s + 5) = Z (320 + 8 * s + 5) := by
          split
          · rw [pk_un (by omega)]
          · rfl
        generalize (if ¬ eD E n 4 < Z (320 + 8 * n) ∧ ¬ 0 ≤ Z (320 + 8 * n + 2) ∧ ¬ eO E 2 ≤ Z 0 then upd Z (320 + 8 * n + 2) (Z 0 + eD E n 3) else Z) = W at *
        by_cases e : s = n
        · subst e
          rw [pk_us, base]
          by_cases c : W (320 + 8 * s) = 0
          · rw [if_pos c]; have := t_inc (K := K + 15 + s) i5 (by omega); omega
          · rw [if_neg c, Int32.add_zero]; omega
        · rw [pk_un (by omega), pk_un (by omega), base]; omega
  have b5 := pp _ (Nat.le_refl _)
  refine ⟨fun g hg => ?_, fun s hs => ?_⟩
  · rw [pk_un (by omega)]; have := b5.1 g hg; omega
  · rw [pk_un (by omega)]; have := b5.2 s hs; omega
theorem secN_b {E : eg_E} {C : Nat} {Y : Nat → Int32} (hE : wE E) (hC : C < 1000000) (hC2 : 119 ≤ C) (hY : yI E C Y) {K : Nat} (hK : K < 100000) (h : bnd E K Y) : ∀ n : Nat, (Y 0).toInt + n ≤ 3600 → n ≤ 3600 → bnd E (K + 20 * n) (secN E n Y) := by
  intro n
  induction n with
  | zero => intro _ _; rw [secN_0]; exact h
  | succ n ih =>
    intro hn hn2
    rw [secN_s, show K + 20 * (n + 1) = K + 20 * n + 20 by omega]
    exact secF_b hE hC hC2 (secN_I hE hC hC2 hY n (by omega)).1 (by omega) (ih (by omega) (by omega))
theorem bg_b {E : eg_E} {R Y : Nat → Int32} (hY : bgY E R Y) : bnd E 0 Y := by
  refine ⟨fun g hg => ?_, fun s hs => ?_⟩
  · rw [(hY.2.2.2.2 g hg).1.2.2.2.1, t_0]; omega
  · rw [(hY.2.2.2.1 s hs).2.2.2.2.2.1, t_0]; omega
theorem QS.b {M : eg_H} {q : Nat} {Q : eg_H} {R : Nat → Int32} (h : QS M q Q R) {n : Nat} (hn : n ≤ 3600) : bnd (mE Q) 72000 (rF Q n) := (secN_b h.wE (C := 119) (by omega) (by omega) h.T0.1 (by omega) (bg_b h.bgQ) n (by rw [h.y0]; omega) hn).w (by omega)
theorem sm_b {f : Nat → Int32} {K : Nat} (hK : K ≤ 100000) : ∀ {n : Nat}, n ≤ 100 → (∀ k, k < n → 0 ≤ (f k).toInt ∧ (f k).toInt ≤ K) → 0 ≤ (sm f n).toInt ∧ (sm f n).toInt ≤ ((n * K : Nat) : Int)
  | 0, _, _ => by
    show 0 ≤ (0 : Int32).toInt ∧ (0 : Int32).toInt ≤ _
    rw [t_0]
    omega
  | n + 1, hn, h => by
    have ih := sm_b hK (n := n) (by omega) (fun k hk => h k (by omega))
    have hl := h n (by omega)
    have h1 : n * K ≤ 100 * 100000 := Nat.mul_le_mul (by omega) hK
    show 0 ≤ (sm f n + f n).toInt ∧ (sm f n + f n).toInt ≤ _
    rw [Nat.succ_mul]
    generalize n * K = m at *
    rw [t_add (by omega) (by omega)]
    omega
theorem QS.w0 {M : eg_H} {q : Nat} {Q : eg_H} {R : Nat → Int32} (h : QS M q Q R) {n : Nat} (hn : n ≤ 3600) : 0 ≤ (sm (fun g => rF Q n (20 + 20 * g + 4)) (NM Q)).toInt := by
  have hN := (NM_le h.2.2.2.2.1).2
  exact (sm_b (n := NM Q) (K := 72000) (by omega) (by omega) (fun g hg => (h.b hn).1 g hg)).1
