/-! PLANS ALIKE: the same numbers; the same laws at names that are ints -/
def iN (nm : Nat → Int64) : Prop := ∀ j, j < 8 → ∃ x : Int32, nm j = x.toInt64
def EQ (E F : eg_E) : Prop := eN E = eN F ∧ eP E = eP F ∧ eD E = eD F ∧ eC E = eC F ∧ eO E = eO F ∧ ∀ l nm, l < 3 → iN nm → eL E l nm = eL F l nm
theorem EQ.of {E F : eg_E} (h : EQ E F) : ∃ L, F = (E.1, E.2.1, E.2.2.1, E.2.2.2.1, E.2.2.2.2.1, L) ∧ ∀ l nm, l < 3 → iN nm → eL E l nm = L l nm := by
  obtain ⟨n, P, D, C, O, L⟩ := E
  obtain ⟨n2, P2, D2, C2, O2, L2⟩ := F
  obtain ⟨h1, h2, h3, h4, h5, h6⟩ := h
  dsimp only [eN, eP, eD, eC, eO] at h1 h2 h3 h4 h5
  subst h1 h2 h3 h4 h5
  exact ⟨L2, rfl, h6⟩
theorem EQ.symm {E F : eg_E} (h : EQ E F) : EQ F E := ⟨h.1.symm, h.2.1.symm, h.2.2.1.symm, h.2.2.2.1.symm, h.2.2.2.2.1.symm, fun l nm a b => (h.2.2.2.2.2 l nm a b).symm⟩
theorem EQ.rfl' (E : eg_E) : EQ E E := ⟨rfl, rfl, rfl, rfl, rfl, fun _ _ _ _ => rfl⟩
theorem iN_C (o : Nat → Int64) (a0 a1 a2 a3 a4 a5 a6 a7 : Int32) : iN (nmC o a0.toInt64 a1.toInt64 a2.toInt64 a3.toInt64 a4.toInt64 a5.toInt64 a6.toInt64 a7.toInt64) := by
  intro j hj
  rcases (by omega : j = 0 ∨ j = 1 ∨ j = 2 ∨ j = 3 ∨ j = 4 ∨ j = 5 ∨ j = 6 ∨ j = 7) with rfl | rfl | rfl | rfl | rfl | rfl | rfl | rfl
  · exact ⟨a0, rfl⟩
  · exact ⟨a1, rfl⟩
  · exact ⟨a2, rfl⟩
  · exact ⟨a3, rfl⟩
  · exact ⟨a4, rfl⟩
  · exact ⟨a5, rfl⟩
  · exact ⟨a6, rfl⟩
  · exact ⟨a7, rfl⟩
theorem iN_Y (o : Nat → Int64) (Y : Nat → Int32) (z : Int32) (g : Nat) (w h a : Int32) : iN (nmY o Y z g w.toInt64 h.toInt64 a.toInt64) := iN_C _ _ _ _ _ _ _ _ _
theorem iN_0 (o : Nat → Int64) (Y : Nat → Int32) (z : Int32) (g : Nat) (w : Int32) : iN (nmY o Y z g w.toInt64 0 0) := by
  have := iN_Y o Y z g w 0 0
  rwa [show (0 : Int32).toInt64 = 0 by decide] at this
theorem iN_A (E : eg_E) (Y : Nat → Int32) (g s : Nat) : iN (nmA E Y g s) := by
  unfold nmA
  have e1 : (if eD E s 2 = 0 then (999 : Int64) else (Y (320 + 8 * s)).toInt64) = (if eD E s 2 = 0 then (999 : Int32) else Y (320 + 8 * s)).toInt64 := by
    by_cases c : eD E s 2 = 0
    · rw [if_pos c, if_pos c]; decide
    · rw [if_neg c, if_neg c]
  have e2 : (if eD E s 2 = 0 then (0 : Int64) else (Y (320 + 8 * s + 1)).toInt64) = (if eD E s 2 = 0 then (0 : Int32) else Y (320 + 8 * s + 1)).toInt64 := by
    by_cases c : eD E s 2 = 0
    · rw [if_pos c, if_pos c]; decide
    · rw [if_neg c, if_neg c]
  rw [e1, e2]
  exact iN_Y _ _ _ _ _ _ _
section
variable {E F : eg_E}
theorem lawD_EQ (h : EQ E F) {l : Nat} (hl : l < 3) {nm : Nat → Int64} (hn : iN nm) (w : Int64) : lawD E l nm w = lawD F l nm w := by
  unfold lawD
  rw [h.2.2.2.2.2 l nm hl hn]
theorem nmA_EQ (h : EQ E F) (Y : Nat → Int32) (g s : Nat) : nmA E Y g s = nmA F Y g s := by
  obtain ⟨L, rfl, _⟩ := h.of
  rfl
theorem heapH_EQ (h : EQ E F) (Y : Nat → Int32) (g s : Nat) : heapH E Y g s = heapH F Y g s := by
  unfold heapH
  rw [lawD_EQ h (by decide) (iN_A _ _ _ _), nmA_EQ h, h.2.2.1]
theorem heapF_EQ (h : EQ E F) (Y : Nat → Int32) (g s : Nat) : heapF E g s Y = heapF F g s Y := by
  unfold heapF
  dsimp only
  rw [heapH_EQ h, h.2.2.1]
theorem sitF_EQ (h : EQ E F) (Y : Nat → Int32) (i : Nat) : sitF E i Y = sitF F i Y := by
  unfold sitF
  dsimp only
  rw [h.2.2.2.1, h.2.2.2.2.1, lawD_EQ h (by decide) (iN_0 nm0 Y _ _ _)]
theorem goToF_EQ (h : EQ E F) (Y : Nat → Int32) (g p : Nat) : goToF E g p Y = goToF F g p Y := by
  unfold goToF
  dsimp only
  rw [h.2.2.1, heapF_EQ h, lawD_EQ h (by decide) (iN_A _ _ _ _), nmA_EQ h]
theorem goF_EQ (h : EQ E F) (Y : Nat → Int32) (i : Nat) : goF E i Y = goF F i Y := by
  unfold goF
  dsimp only
  rw [h.1, h.2.2.2.2.1, sitF_EQ h, goToF_EQ h]
theorem walkF_EQ (h : EQ E F) : ∀ (n i : Nat) (Y : Nat → Int32), walkF E n i Y = walkF F n i Y
  | 0, _, _ => rfl
  | n + 1, i, Y => by
    unfold walkF
    rw [goF_EQ h, walkF_EQ h n i, walkF_EQ h n (i + 1), walkF_EQ h n (i + 1)]
theorem secF_EQ (h : EQ E F) (Y : Nat → Int32) : secF E Y = secF F Y := by
  unfold secF
  dsimp only
  rw [walkF_EQ h]
  obtain ⟨L, rfl, _⟩ := h.of
  rfl
theorem secN_0 (E : eg_E) (Y : Nat → Int32) : secN E 0 Y = Y := rfl
theorem secN_EQ (h : EQ E F) (Y : Nat → Int32) : ∀ n, secN E n Y = secN F n Y := by
  intro n
  induction n with
  | zero => rw [secN_0, secN_0]
  | succ n ih => rw [secN_s, secN_s, ih, secF_EQ h]
theorem RY_EQ (h : EQ E F) {Z Y : Nat → Int32} (r : RY E Z Y) : RY F Z Y := by
  obtain ⟨L, rfl, _⟩ := h.of
  exact r
theorem yI_EQ (h : EQ E F) {C : Nat} {Y : Nat → Int32} (r : yI E C Y) : yI F C Y := by
  obtain ⟨L, rfl, _⟩ := h.of
  exact r
theorem wE_EQ (h : EQ E F) (r : wE E) : wE F := by
  obtain ⟨L, rfl, _⟩ := h.of
  exact r
theorem wE2_EQ (h : EQ E F) (r : wE2 E) : wE2 F := by
  obtain ⟨L, rfl, _⟩ := h.of
  exact r
theorem oR_EQ (h : EQ E F) {R : Nat → Int32} (r : oR E R) : oR F R := by
  obtain ⟨L, rfl, _⟩ := h.of
  exact r
theorem bgY_EQ (h : EQ E F) {R Y : Nat → Int32} (r : bgY E R Y) : bgY F R Y := by
  obtain ⟨L, rfl, _⟩ := h.of
  exact r
end
