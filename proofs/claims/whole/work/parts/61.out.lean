/-! WHO ISN'T IN THE LINE has an empty plate and takes nothing -/
def oI (E : eg_E) (Y : Nat → Int32) : Prop := ∀ g, g < eP E → ¬ Y (20 + 20 * g) = 1 → Y (20 + 20 * g + 1) = -1 ∧ Y (20 + 20 * g + 2) = eC E g 1 ∧ Y (20 + 20 * g + 3) = 0
theorem oI_hi {E : eg_E} {Y Z : Nat → Int32} (h : oI E Y) (hN : eP E < 16) (hz : ∀ j, 20 ≤ j → j < 320 → Z j = Y j) : oI E Z := by
  intro g hg
  rw [hz _ (by omega) (by omega), hz _ (by omega) (by omega), hz _ (by omega) (by omega), hz _ (by omega) (by omega)]
  exact h g hg
theorem oI_ch {E : eg_E} {Y Z : Nat → Int32} (h : oI E Y) (hN : eP E < 16) {a : Nat} (ha : Y (20 + 20 * a) = 1) (hz : ∀ j, 20 ≤ j → j < 320 → (j ≤ 20 + 20 * a ∨ 40 + 20 * a ≤ j) → Z j = Y j) : oI E Z := by
  intro g hg
  by_cases e : g = a
  · subst e
    rw [hz _ (by omega) (by omega) (by omega)]
    exact fun q => absurd ha q
  · rw [hz _ (by omega) (by omega) (by omega), hz _ (by omega) (by omega) (by omega), hz _ (by omega) (by omega) (by omega), hz _ (by omega) (by omega) (by omega)]
    exact h g hg
theorem fillF_hi (E : eg_E) (s : Nat) (Y : Nat → Int32) {j : Nat} (hj : j < 320) : fillF E s Y j = Y j := by
  unfold fillF
  split
  · rfl
  · rw [pk_un (by omega), pk_un (by omega), pk_un (by omega), pk_un (by omega)]
theorem pansF_hi (E : eg_E) (s : Nat) (Y : Nat → Int32) {j : Nat} (hj : j < 320) : pansF E s Y j = Y j := by
  unfold pansF
  split
  · rfl
  · dsimp only
    rw [pk_un (by omega), pk_un (by omega)]
    split
    · rw [pk_un (by omega)]
    · rfl
theorem itr_hi {f : Nat → (Nat → Int32) → (Nat → Int32)} {Y : Nat → Int32} {j : Nat} (h : ∀ k Z, f k Z j = Z j) (n : Nat) : itr f n Y j = Y j := itr_fix h n
theorem admF_O {E : eg_E} {Y : Nat → Int32} (h : oI E Y) (hN : eP E < 16) (hq : (Y 1).toNatClampNeg < 16) (g : Nat) : oI E (admF E g Y) := by
  unfold admF
  split
  · intro a ha
    unfold comeF
    by_cases e : a = g
    · subst e
      simp (disch := omega) only [pk_un, pk_us]
      exact fun q => absurd trivial q
    · simp (disch := omega) only [pk_un]
      exact h a ha
  · exact h
theorem heapF_o (E : eg_E) (g s : Nat) (hs : s < 5) (Y : Nat → Int32) {j : Nat} (hj : j < 320) (ho : j ≤ 20 + 20 * g ∨ 40 + 20 * g ≤ j) : heapF E g s Y j = Y j := by
  unfold heapF
  rw [pk_un (by omega), pk_un (by omega), pk_un (by omega), pk_un (by omega), pk_un (by omega), pk_un (by omega)]
theorem goToF_o (E : eg_E) (g p : Nat) (Y : Nat → Int32) (hs : (Y (360 + p)).toNatClampNeg < 5) {j : Nat} (hj : j < 320) (ho : j ≤ 20 + 20 * g ∨ 40 + 20 * g ≤ j) : goToF E g p Y j = Y j := by
  unfold goToF skipF
  split
  · rw [pk_un (by omega), pk_un (by omega), pk_un (by omega), pk_un (by omega)]
  · split
    · rw [pk_un (by omega), heapF_o _ _ _ hs _ hj ho, pk_un (by omega), pk_un (by omega)]
    · split
      · rw [pk_un (by omega), pk_un (by omega), pk_un (by omega), pk_un (by omega)]
      · rw [pk_un (by omega), pk_un (by omega), pk_un (by omega), pk_un (by omega)]
theorem sitF_O {E : eg_E} {C : Nat} {Y : Nat → Int32} (hE : wE E) (hY : yI E C Y) (h : oI E Y) {i : Nat} (hi : i < (Y 1).toNatClampNeg) (h3 : Y (20 + 20 * (Y (2 + i)).toNatClampNeg + 3) = 0) : oI E (sitF E i Y) := by
  have hN := hE.2.1
  have hg := vp_lt (hY.1.2.1 i hi).1
  have hq := hY.q16 hE
  obtain ⟨x6, x7, s2, b, e⟩ : ∃ x6 x7 s2 b, sitF E i Y = ool (upd (upd (upd (upd (upd (upd Y (20 + 20 * (Y (2 + i)).toNatClampNeg + 6) x6) (20 + 20 * (Y (2 + i)).toNatClampNeg + 7) x7) (20 + 20 * (Y (2 + i)).toNatClampNeg) s2) (20 + 20 * (Y (2 + i)).toNatClampNeg + 11) b) (20 + 20 * (Y (2 + i)).toNatClampNeg + 1) (-1)) (20 + 20 * (Y (2 + i)).toNatClampNeg + 2) (eC E (Y (2 + i)).toNatClampNeg 1)) i := ⟨_, _, _, _, rfl⟩
  rw [e]
  clear e
  generalize (Y (2 + i)).toNatClampNeg = g at *
  have e1 : (upd (upd (upd (upd (upd (upd Y (20 + 20 * g + 6) x6) (20 + 20 * g + 7) x7) (20 + 20 * g) s2) (20 + 20 * g + 11) b) (20 + 20 * g + 1) (-1)) (20 + 20 * g + 2) (eC E g 1)) 1 = Y 1 := by simp (disch := omega) only [pk_un]
  intro a ha
  rw [ool_o (by rw [e1]; exact hq) (by omega), ool_o (by rw [e1]; exact hq) (by omega), ool_o (by rw [e1]; exact hq) (by omega), ool_o (by rw [e1]; exact hq) (by omega)]
  by_cases c : a = g
  · subst c
    simp (disch := omega) only [pk_un, pk_us]
    exact fun _ => ⟨trivial, trivial, h3⟩
  · simp (disch := omega) only [pk_un]
    exact h a ha
theorem goF_O {E : eg_E} {C : Nat} {Y : Nat → Int32} (hE : wE E) (hY : yI E C Y) (h : oI E Y) {i : Nat} (hi : i < (Y 1).toNatClampNeg) (h3 : Y (20 + 20 * (Y (2 + i)).toNatClampNeg + 3) = 0) : oI E (goF E i Y).2 := by
  have hN := hE.2.1
  have hn := hE.1
  have hS := sitF_O hE hY h hi h3
  obtain ⟨hk1, hk2⟩ := hY.1.2.1 i hi
  have hg := vp_lt hk1
  unfold goF
  dsimp only
  generalize (Y (2 + i)).toNatClampNeg = g at *
  split
  · refine oI_ch h hN hk2 (fun j h1 h2 h4 => ?_)
    dsimp only
    rw [pk_un (by omega), pk_un (by omega)]
  · split
    · exact hS
    · rename_i c1 c2
      obtain ⟨p, ep, hp, _, _⟩ := nxF_r c2
      rw [ep, nI_t (by omega)]
      have hs : (Y (360 + p)).toNatClampNeg < 5 := by have := vp_lt (hY.2.1.1 p hp); omega
      exact oI_ch h hN hk2 (fun j h1 h2 h4 => goToF_o E g p Y hs h2 h4)
theorem walkF_O {E : eg_E} {C : Nat} (hE : wE E) (hC : C < 1000000) : ∀ (n i : Nat) (Y : Nat → Int32), yI E C Y → oI E Y → oI E (walkF E n i Y)
  | 0, _, _, _, h => h
  | n + 1, i, Y, hY, h => by
    unfold walkF
    by_cases c : i < (Y 1).toNatClampNeg
    · rw [if_pos c]
      by_cases c3 : Y (20 + 20 * (Y (2 + i)).toNatClampNeg + 3) = 0
      · rw [if_pos c3]
        have h1 := (goF_I hE hC hY c).1
        have h2 := goF_O hE hY h c c3
        split
        · exact walkF_O hE hC n i _ h1 h2
        · exact walkF_O hE hC n (i + 1) _ h1 h2
      · rw [if_neg c3]
        exact walkF_O hE hC n (i + 1) _ hY h
    · rw [if_neg c]
      exact h
theorem tkoA_O {E : eg_E} {C : Nat} {Y : Nat → Int32} (hE : wE E) (hY : yI E C Y) (h : oI E Y) (n : Nat) (hn : n ≤ (Y 1).toNatClampNeg) : oI E (itr tkoF n Y) ∧ yI E C (itr tkoF n Y) ∧ itr tkoF n Y 1 = Y 1 := by
  refine itr_inv (P := fun _ Z => oI E Z ∧ yI E C Z ∧ Z 1 = Y 1) ⟨h, hY, rfl⟩ (fun k Z hk hZ => ?_)
  obtain ⟨z1, z2, z3⟩ := hZ
  have hk' : k < (Z 1).toNatClampNeg := by rw [z3]; omega
  obtain ⟨i1, i2⟩ := tkoF_I hE z2 hk'
  refine ⟨?_, i1, i2.trans z3⟩
  refine oI_ch z1 hE.2.1 (z2.1.2.1 k hk').2 (fun j h1 h2 h4 => ?_)
  unfold tkoF
  rw [pk_un (by omega)]
theorem secF_O {E : eg_E} {C : Nat} {Y : Nat → Int32} (hE : wE E) (hC : C < 1000000) (hC2 : 119 ≤ C) (hY : yI E C Y) (h : oI E Y) : oI E (secF E Y) := by
  have hN := hE.2.1
  have I1 := fillA_I hE hC hY (eN E) (Nat.le_refl _)
  have O1 : oI E (itr (fillF E) (eN E) Y) := oI_hi h hN (fun j _ hj => itr_hi (fun k Z => fillF_hi E k Z hj) _)
  have IO : ∀ n, n ≤ eP E → oI E (itr (admF E) n (itr (fillF E) (eN E) Y)) := by
    intro n
    induction n with
    | zero => exact fun _ => O1
    | succ n ih => exact fun hn => admF_O (ih (by omega)) hN ((admA_I hE I1 n (by omega)).q16 hE) n
  have I2 := admA_I hE I1 (eP E) (Nat.le_refl _)
  have O2 := IO (eP E) (Nat.le_refl _)
  unfold secF
  dsimp only
  generalize itr (admF E) (eP E) (itr (fillF E) (eN E) Y) = Y1 at *
  have I3 := (walkF_I hE hC (Y1 1).toNatClampNeg 0 Y1 I2).1
  have O3 := walkF_O hE hC (Y1 1).toNatClampNeg 0 Y1 I2 O2
  generalize walkF E (Y1 1).toNatClampNeg 0 Y1 = Y2 at *
  have O4 := (tkoA_O hE I3 O3 _ (Nat.le_refl _)).1
  generalize itr tkoF (Y2 1).toNatClampNeg Y2 = Y3 at *
  refine oI_hi O4 hN (fun j h1 h2 => ?_)
  rw [pk_un (by omega)]
  exact itr_hi (fun k Z => pansF_hi E k Z h2) _
theorem secN_O {E : eg_E} {C : Nat} {Y : Nat → Int32} (hE : wE E) (hC : C < 1000000) (hC2 : 119 ≤ C) (hY : yI E C Y) (h : oI E Y) : ∀ n : Nat, (Y 0).toInt + n ≤ 3600 → oI E (secN E n Y) := by
  intro n
  induction n with
  | zero => intro _; rw [secN_0]; exact h
  | succ n ih =>
    intro hn
    rw [secN_s]
    exact secF_O hE hC hC2 (secN_I hE hC hC2 hY n (by omega)).1 (ih (by omega))
theorem bg_O {E : eg_E} {R Y : Nat → Int32} (hY : bgY E R Y) : oI E Y := by
  intro g hg _
  obtain ⟨d1, d2, d3, _⟩ := (hY.2.2.2.2 g hg).1
  exact ⟨d1, d2, d3⟩
