/-! WHAT STAYS TRUE OF AN ARRAY OF 366 -/
def wE (E : eg_E) : Prop := eN E < 6 ∧ eP E < 16 ∧ (∀ s, s < eN E → (1 ≤ (eD E s 0).toInt ∧ (eD E s 0).toInt ≤ 240) ∧ (0 ≤ (eD E s 2).toInt ∧ (eD E s 2).toInt ≤ 60) ∧ (0 ≤ (eD E s 3).toInt ∧ (eD E s 3).toInt ≤ 900) ∧ (0 ≤ (eD E s 4).toInt ∧ (eD E s 4).toInt ≤ 59)) ∧ (∀ g, g < eP E → 1 ≤ (eC E g 1).toInt ∧ (eC E g 1).toInt ≤ 20) ∧ (0 ≤ (eO E 1).toInt ∧ (eO E 1).toInt ≤ 1800) ∧ (0 ≤ (eO E 2).toInt ∧ (eO E 2).toInt ≤ 3600)
def gOK (n : Nat) (z st pos room takes waits : Int32) (w : Nat → Int32) : Prop := (-1 ≤ pos.toInt ∧ pos.toInt < n) ∧ (st = 1 → waits = 0 ∨ (waits = 1 ∧ 0 ≤ pos.toInt)) ∧ (0 ≤ room.toInt ∧ room.toInt ≤ z.toInt) ∧ (0 ≤ takes.toInt ∧ takes.toInt ≤ 240) ∧ ∀ k, k < 5 → 0 ≤ (w k).toInt ∧ (w k).toInt ≤ 9
def gI (E : eg_E) (Y : Nat → Int32) (g : Nat) : Prop := gOK (eN E) (eC E g 1) (Y (20 + 20 * g)) (Y (20 + 20 * g + 1)) (Y (20 + 20 * g + 2)) (Y (20 + 20 * g + 3)) (Y (20 + 20 * g + 10)) (fun k => Y (20 + 20 * g + 14 + k))
def pI (E : eg_E) (C : Nat) (Y : Nat → Int32) (s : Nat) : Prop := (0 ≤ (Y (320 + 8 * s)).toInt ∧ (Y (320 + 8 * s)).toInt ≤ C) ∧ (Y (320 + 8 * s + 2) = -1 ∨ ((0 ≤ (Y (320 + 8 * s + 2)).toInt ∧ (Y (320 + 8 * s + 2)).toInt ≤ 5000 ∧ (Y (320 + 8 * s)).toInt + 60 ≤ C) ∧ ¬ eD E s 2 = 0))
def qI (E : eg_E) (Y : Nat → Int32) : Prop := vp_in (Y 1) (eP E + 1) ∧ (∀ k, k < (Y 1).toNatClampNeg → vp_in (Y (2 + k)) (eP E) ∧ Y (20 + 20 * (Y (2 + k)).toNatClampNeg) = 1) ∧ ∀ j k, j < k → k < (Y 1).toNatClampNeg → Y (2 + j) ≠ Y (2 + k)
def rI (E : eg_E) (Y : Nat → Int32) : Prop := (∀ p, p < eN E → vp_in (Y (360 + p)) (eN E)) ∧ ∀ p q, p < q → q < eN E → Y (360 + p) ≠ Y (360 + q)
def yI (E : eg_E) (C : Nat) (Y : Nat → Int32) : Prop := qI E Y ∧ rI E Y ∧ (∀ g, g < eP E → gI E Y g) ∧ (∀ s, s < eN E → pI E C Y s) ∧ (0 ≤ (Y 0).toInt ∧ (Y 0).toInt ≤ 3600)
theorem t_m1 : (-1 : Int32).toInt = -1 := by decide
theorem t_0 : (0 : Int32).toInt = 0 := by decide
theorem t_1 : (1 : Int32).toInt = 1 := by decide
theorem t_nI {n : Nat} (h : n < 2147483648) : (nI n).toInt = (n : Int) := nI_toInt (by omega)
theorem t_le {x y : Int32} : x ≤ y ↔ x.toInt ≤ y.toInt := Int32.le_iff_toInt_le
theorem t_lt {x y : Int32} : x < y ↔ x.toInt < y.toInt := Int32.lt_iff_toInt_lt
theorem t_eq {x y : Int32} : x = y ↔ x.toInt = y.toInt := Int32.toInt_inj.symm
theorem t_add {x y : Int32} (h1 : -2147483648 ≤ x.toInt + y.toInt) (h2 : x.toInt + y.toInt < 2147483648) : (x + y).toInt = x.toInt + y.toInt := by
  rw [Int32.toInt_add]
  exact Int.bmod_eq_of_le (by omega) (by omega)
theorem t_sub {x y : Int32} (h1 : -2147483648 ≤ x.toInt - y.toInt) (h2 : x.toInt - y.toInt < 2147483648) : (x - y).toInt = x.toInt - y.toInt := by
  rw [Int32.toInt_sub]
  exact Int.bmod_eq_of_le (by omega) (by omega)
theorem t_in {x : Int32} {n : Nat} : vp_in x n ↔ 0 ≤ x.toInt ∧ x.toInt < n := vp_in_iff
/-- the same but for what a pan has and an age and the like: all others stay -/
theorem qI.cong {E : eg_E} {Y Z : Nat → Int32} (h : qI E Y) (hN : eP E < 16) (h1 : Z 1 = Y 1) (h2 : ∀ k, k < 15 → Z (2 + k) = Y (2 + k)) (h3 : ∀ g, g < 15 → Y (20 + 20 * g) = 1 → Z (20 + 20 * g) = 1) : qI E Z := by
  obtain ⟨a, b, c⟩ := h
  have hq := vp_lt a
  unfold qI
  rw [h1]
  refine ⟨a, fun k hk => ?_, fun j k hj hk => ?_⟩
  · rw [h2 k (by omega)]
    have := vp_lt (b k hk).1
    exact ⟨(b k hk).1, h3 _ (by omega) (b k hk).2⟩
  · rw [h2 j (by omega), h2 k (by omega)]
    exact c j k hj hk
theorem rI.cong {E : eg_E} {Y Z : Nat → Int32} (h : rI E Y) (hn : eN E < 6) (h1 : ∀ p, p < 5 → Z (360 + p) = Y (360 + p)) : rI E Z :=
  ⟨fun p hp => by rw [h1 p (by omega)]; exact h.1 p hp, fun p q hp hq => by rw [h1 p (by omega), h1 q (by omega)]; exact h.2 p q hp hq⟩
theorem gI.cong {E : eg_E} {Y Z : Nat → Int32} {g : Nat} (h : gI E Y g) (h1 : ∀ f, f < 20 → (f = 0 ∨ f = 1 ∨ f = 2 ∨ f = 3 ∨ f = 10 ∨ 14 ≤ f) → Z (20 + 20 * g + f) = Y (20 + 20 * g + f)) : gI E Z g := by
  unfold gI at h ⊢
  rw [show Z (20 + 20 * g) = Y (20 + 20 * g) from h1 0 (by omega) (by omega), h1 1 (by omega) (by omega), h1 2 (by omega) (by omega), h1 3 (by omega) (by omega), h1 10 (by omega) (by omega)]
  refine ⟨h.1, h.2.1, h.2.2.1, h.2.2.2.1, fun k hk => ?_⟩
  have e := h1 (14 + k) (by omega) (by omega)
  rw [← Nat.add_assoc] at e
  show 0 ≤ (Z (20 + 20 * g + 14 + k)).toInt ∧ (Z (20 + 20 * g + 14 + k)).toInt ≤ 9
  rw [e]
  exact h.2.2.2.2 k hk
theorem fillF_I {E : eg_E} {C : Nat} {Y : Nat → Int32} (hE : wE E) (hC : C < 1000000) (h : yI E C Y) {s : Nat} (hs : s < eN E) : yI E C (fillF E s Y) := by
  unfold fillF
  by_cases c : Y (320 + 8 * s + 2) < 0 ∨ ¬ Y (320 + 8 * s + 2) ≤ Y 0
  · rw [if_pos c]; exact h
  · rw [if_neg c]
    have hn := hE.1
    have hN := hE.2.1
    obtain ⟨hq, hr, hg, hp, h0⟩ := h
    refine ⟨hq.cong hN ?_ (fun k hk => ?_) (fun g hg e => ?_), hr.cong hn (fun p hp => ?_), fun g hgg => (hg g hgg).cong (fun f hf _ => ?_), fun z hz => ?_, ?_⟩
    · simp (disch := omega) only [pk_un]
    · simp (disch := omega) only [pk_un]
    · simp (disch := omega) only [pk_un]; exact e
    · simp (disch := omega) only [pk_un]
    · simp (disch := omega) only [pk_un]
    · by_cases e : z = s
      · subst e
        obtain ⟨p1, p2⟩ := hp z hz
        have hd := (hE.2.2.1 z hz).2.1
        unfold pI
        simp (disch := omega) only [pk_un, pk_us]
        have p3 : (Y (320 + 8 * z)).toInt + 60 ≤ C := by
          rcases p2 with q | q
          · exact absurd (Or.inl (by rw [q]; decide)) c
          · exact q.1.2.2
        rw [t_add (by omega) (by omega)]
        exact ⟨by omega, Or.inl trivial⟩
      · have := hp z hz
        unfold pI at this ⊢
        simp (disch := omega) only [pk_un]
        exact this
    · simp (disch := omega) only [pk_un]; exact h0
theorem pansF_I {E : eg_E} {C : Nat} {Y : Nat → Int32} (hE : wE E) (hC : 119 ≤ C) (h : yI E C Y) {s : Nat} (hs : s < eN E) : yI E C (pansF E s Y) := by
  unfold pansF
  by_cases c : eD E s 2 = 0
  · rw [if_pos c]; exact h
  · rw [if_neg c]
    have hn := hE.1
    have hN := hE.2.1
    have key : ∀ Z, yI E C Z → yI E C (upd (upd Z (320 + 8 * s + 1) (Z (320 + 8 * s + 1) + 1)) (320 + 8 * s + 5) (Z (320 + 8 * s + 5) + (if Z (320 + 8 * s) = 0 then 1 else 0))) := by
      intro Z ⟨hq, hr, hg, hp, h0⟩
      refine ⟨hq.cong hN ?_ (fun k hk => ?_) (fun g hg e => ?_), hr.cong hn (fun p hp => ?_), fun g hgg => (hg g hgg).cong (fun f hf _ => ?_), fun z hz => ?_, ?_⟩
      · simp (disch := omega) only [pk_un]
      · simp (disch := omega) only [pk_un]
      · simp (disch := omega) only [pk_un]; exact e
      · simp (disch := omega) only [pk_un]
      · simp (disch := omega) only [pk_un]
      · have := hp z hz
        unfold pI at this ⊢
        simp (disch := omega) only [pk_un]
        exact this
      · simp (disch := omega) only [pk_un]; exact h0
    dsimp only
    refine key _ ?_
    by_cases c2 : ¬ eD E s 4 < Y (320 + 8 * s) ∧ ¬ 0 ≤ Y (320 + 8 * s + 2) ∧ ¬ eO E 2 ≤ Y 0
    · rw [if_pos c2]
      obtain ⟨hq, hr, hg, hp, h0⟩ := h
      refine ⟨hq.cong hN ?_ (fun k hk => ?_) (fun g hg e => ?_), hr.cong hn (fun p hp => ?_), fun g hgg => (hg g hgg).cong (fun f hf _ => ?_), fun z hz => ?_, ?_⟩
      · simp (disch := omega) only [pk_un]
      · simp (disch := omega) only [pk_un]
      · simp (disch := omega) only [pk_un]; exact e
      · simp (disch := omega) only [pk_un]
      · simp (disch := omega) only [pk_un]
      · have hz2 := hp z hz
        unfold pI at hz2 ⊢
        by_cases e : z = s
        · subst e
          simp (disch := omega) only [pk_un, pk_us]
          have hd := (hE.2.2.1 z hz).2.2
          have c3 := c2.1
          rw [t_lt] at c3
          rw [t_add (by omega) (by omega)]
          exact ⟨hz2.1, Or.inr ⟨⟨by omega, by omega, by omega⟩, c⟩⟩
        · simp (disch := omega) only [pk_un]
          exact hz2
      · simp (disch := omega) only [pk_un]; exact h0
    · rw [if_neg c2]; exact h
theorem tkoF_I {E : eg_E} {C : Nat} {Y : Nat → Int32} (hE : wE E) (h : yI E C Y) {k : Nat} (hk : k < (Y 1).toNatClampNeg) : yI E C (tkoF k Y) ∧ (tkoF k Y) 1 = Y 1 := by
  have hn := hE.1
  have hN := hE.2.1
  obtain ⟨hq, hr, hg, hp, h0⟩ := h
  have h15 := vp_lt (hq.2.1 k hk).1
  unfold tkoF
  generalize (Y (2 + k)).toNatClampNeg = b at h15 ⊢
  refine ⟨⟨hq.cong hN ?_ (fun k hk => ?_) (fun g hg e => ?_), hr.cong hn (fun p hp => ?_), fun g hgg => ?_, fun z hz => ?_, ?_⟩, ?_⟩
  · simp (disch := omega) only [pk_un]
  · simp (disch := omega) only [pk_un]
  · simp (disch := omega) only [pk_un]; exact e
  · simp (disch := omega) only [pk_un]
  · by_cases e : g = b
    · subst e
      have h2 := hg g hgg
      unfold gI at h2 ⊢
      simp (disch := omega) only [pk_us, pk_un]
      refine ⟨h2.1, h2.2.1, h2.2.2.1, ?_, fun j hj => ?_⟩
      · have h3 := h2.2.2.2.1
        by_cases c : Y (20 + 20 * g + 3) ≤ 0
        · rw [if_pos c, t_sub (by rw [t_0]; omega) (by rw [t_0]; omega), t_0]; omega
        · rw [if_neg c, t_sub (by rw [t_1]; omega) (by rw [t_1]; omega), t_1]
          rw [t_le, t_0] at c
          omega
      · have := h2.2.2.2.2 j hj
        simp (disch := omega) only [pk_un]
        exact this
    · exact (hg g hgg).cong (fun f hf _ => by simp (disch := omega) only [pk_un])
  · have := hp z hz
    unfold pI at this ⊢
    simp (disch := omega) only [pk_un]
    exact this
  · simp (disch := omega) only [pk_un]; exact h0
  · simp (disch := omega) only [pk_un]
