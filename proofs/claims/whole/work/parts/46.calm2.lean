/-! WHO IS HELD UP, OR WAITS, OR TAKES, AND WILL DO SO AGAIN -/
def CQ (E : eg_E) (Y : Nat → Int32) (k : Nat) : Prop :=
  ¬ Y (20 + 20 * (Y (2 + k)).toNatClampNeg + 3) ≤ 0 ∨ (Y (20 + 20 * (Y (2 + k)).toNatClampNeg + 3) = 0 ∧
    ((blk E k Y ∧ Y (20 + 20 * (Y (1 + k)).toNatClampNeg + 1) ≤ Y (20 + 20 * (Y (2 + k)).toNatClampNeg + 1)) ∨
     (¬ blk E k Y ∧ ∃ p s, nxF Y (eN E) (Y (2 + k)).toNatClampNeg = nI p ∧ p < eN E ∧ s = (Y (360 + p)).toNatClampNeg ∧ Y (20 + 20 * (Y (2 + k)).toNatClampNeg + 1) = nI p ∧ Y (20 + 20 * (Y (2 + k)).toNatClampNeg + 10) = 1 ∧ ¬ (¬ eD E s 2 = 0 ∧ Y (320 + 8 * s) = 0) ∧ eD E s 1 ≤ sm (tkF Y (nI p)) (Y 1).toNatClampNeg ∧ ∀ nm, eL E 1 nm = none)))
def AG (E : eg_E) (S : Nat → Prop) (Y Y1 : Nat → Int32) : Prop :=
  Y1 1 = Y 1 ∧ (∀ k, k < (Y 1).toNatClampNeg → Y1 (2 + k) = Y (2 + k)) ∧ (∀ q, q < eN E → Y1 (360 + q) = Y (360 + q)) ∧ (∀ s, s < eN E → Y1 (320 + 8 * s) = Y (320 + 8 * s)) ∧
  (∀ g, g < eP E → S g → (∀ f, (f = 1 ∨ f = 2 ∨ f = 10 ∨ (14 ≤ f ∧ f < 19)) → Y1 (20 + 20 * g + f) = Y (20 + 20 * g + f)) ∧ (Y1 (20 + 20 * g + 3) = 0 ↔ Y (20 + 20 * g + 3) = 0) ∧ (Y1 (20 + 20 * g + 3) ≤ 0 ↔ Y (20 + 20 * g + 3) ≤ 0)) ∧
  (∀ g, g < eP E → ∀ x, (0 < Y1 (20 + 20 * g + 3) ∧ Y1 (20 + 20 * g + 1) = x) ↔ (0 < Y (20 + 20 * g + 3) ∧ Y (20 + 20 * g + 1) = x))
theorem AG.nx {E : eg_E} {C : Nat} {S : Nat → Prop} {Y Y1 : Nat → Int32} (hE : wE E) (hY : yI E C Y) (h : AG E S Y Y1) {g : Nat} (hg : g < eP E) (hS : S g) : nxF Y1 (eN E) g = nxF Y (eN E) g := by
  have hn := hE.1
  obtain ⟨_, _, h3, _, h5, _⟩ := h
  have hc := (h5 g hg hS).1
  have c22 : 22 + 20 * g = 20 + 20 * g + 2 := by omega
  have c30 : 30 + 20 * g = 20 + 20 * g + 10 := by omega
  have c21 : 21 + 20 * g = 20 + 20 * g + 1 := by omega
  have es : nxS Y1 g = nxS Y g := by
    unfold nxS
    rw [c30, c21, hc 10 (by omega), hc 1 (by omega)]
  unfold nxF
  rw [c22, hc 2 (by omega), es]
  by_cases c : Y (20 + 20 * g + 2) = 0
  · rw [if_pos c, if_pos c]
  · rw [if_neg c, if_neg c]
    refine fst1_cong _ _ (fun j h1 h2 => ?_)
    have hj : j < eN E := by omega
    have hr := vp_lt (hY.2.1.1 j hj)
    rw [h3 j hj, show 34 + 20 * g + (Y (360 + j)).toNatClampNeg = 20 + 20 * g + (14 + (Y (360 + j)).toNatClampNeg) by omega, hc _ (by omega)]
theorem AG.tk {E : eg_E} {C : Nat} {S : Nat → Prop} {Y Y1 : Nat → Int32} (hY : yI E C Y) (h : AG E S Y Y1) (x : Int32) : sm (tkF Y1 x) (Y1 1).toNatClampNeg = sm (tkF Y x) (Y 1).toNatClampNeg := by
  obtain ⟨h1, h2, _, _, _, h6⟩ := h
  rw [h1]
  refine sm_cong (fun k hk => ?_)
  have hg := vp_lt (hY.1.2.1 k hk).1
  unfold tkF
  rw [h2 k hk]
  generalize (Y (2 + k)).toNatClampNeg = g at hg ⊢
  rw [show 23 + 20 * g = 20 + 20 * g + 3 by omega, show 21 + 20 * g = 20 + 20 * g + 1 by omega]
  simp only [h6 g hg x]
theorem AG_blk {E : eg_E} {C : Nat} {S : Nat → Prop} {Y Y1 : Nat → Int32} (hE : wE E) (hY : yI E C Y) (h : AG E S Y Y1) {k : Nat} (hk : k < (Y 1).toNatClampNeg) (hS : S (Y (2 + k)).toNatClampNeg) (hP : 0 < k → S (Y (1 + k)).toNatClampNeg) : blk E k Y1 ↔ blk E k Y := by
  have hg := vp_lt (hY.1.2.1 k hk).1
  have e1 := h.2.1 k hk
  unfold blk
  rw [e1, h.nx hE hY hg hS]
  by_cases c : 0 < k
  · obtain ⟨j, rfl⟩ : ∃ j, k = j + 1 := ⟨k - 1, by omega⟩
    have e : 1 + (j + 1) = 2 + j := by omega
    rw [e] at hP ⊢
    have hg2 := vp_lt (hY.1.2.1 j (by omega)).1
    rw [h.2.1 j (by omega), (h.2.2.2.2.1 _ hg2 (hP c)).1 1 (by omega)]
  · exact ⟨fun q => absurd q.2.1 c, fun q => absurd q.2.1 c⟩
theorem CQ_cong {E : eg_E} {C : Nat} {S : Nat → Prop} {Y Y1 : Nat → Int32} (hE : wE E) (hY : yI E C Y) (h : AG E S Y Y1) {k : Nat} (hk : k < (Y 1).toNatClampNeg) (hS : S (Y (2 + k)).toNatClampNeg) (hP : 0 < k → S (Y (1 + k)).toNatClampNeg) (hc : CQ E Y k) : CQ E Y1 k := by
  have hn := hE.1
  have hg := vp_lt (hY.1.2.1 k hk).1
  have hb := AG_blk hE hY h hk hS hP
  have e1 := h.2.1 k hk
  obtain ⟨g1, g2, g3⟩ := h.2.2.2.2.1 _ hg hS
  unfold CQ
  rw [e1, hb, h.nx hE hY hg hS, g1 1 (by omega), g1 10 (by omega), g2, g3]
  rcases hc with q | ⟨q0, q⟩
  · exact Or.inl q
  · refine Or.inr ⟨q0, ?_⟩
    rcases q with ⟨q1, q2⟩ | ⟨q1, p, s, a1, a2, a3, a4, a5, a6, a7, a8⟩
    · refine Or.inl ⟨q1, ?_⟩
      have c := q1.2.1
      obtain ⟨j, rfl⟩ : ∃ j, k = j + 1 := ⟨k - 1, by omega⟩
      have e : 1 + (j + 1) = 2 + j := by omega
      rw [e] at hP q2 ⊢
      have hg2 := vp_lt (hY.1.2.1 j (by omega)).1
      rw [h.2.1 j (by omega), (h.2.2.2.2.1 _ hg2 (hP c)).1 1 (by omega)]
      exact q2
    · have hs : s < eN E := by rw [a3]; exact vp_lt (hY.2.1.1 p a2)
      refine Or.inr ⟨q1, p, s, a1, a2, ?_, a4, a5, ?_, ?_, a8⟩
      · rw [h.2.2.1 p a2]; exact a3
      · rw [h.2.2.2.1 s hs]; exact a6
      · rw [h.tk hY]; exact a7
/-! the first wanted place from a later start -/
theorem fst1_m1 {q : Nat → Bool} : ∀ (n k : Nat), k + n < 2147483648 → fst1 q k n < 0 → ∀ j, k ≤ j → j < k + n → q j = false
  | 0, k, _, _, j, h1, h2 => by omega
  | n + 1, k, hb, h, j, h1, h2 => by
    have e : fst1 q k (n + 1) = if q k then nI k else fst1 q (k + 1) n := rfl
    rw [e] at h
    by_cases c : q k = true
    · rw [if_pos c] at h
      exact absurd h (nI_pos (by omega))
    · rw [if_neg c] at h
      by_cases e2 : j = k
      · rw [e2]; simpa using c
      · exact fst1_m1 n (k + 1) (by omega) h j (by omega) (by omega)
theorem fst1_no {q : Nat → Bool} : ∀ (n k : Nat), (∀ j, k ≤ j → j < k + n → q j = false) → fst1 q k n = -1
  | 0, _, _ => rfl
  | n + 1, k, h => by
    have e : fst1 q k (n + 1) = if q k then nI k else fst1 q (k + 1) n := rfl
    rw [e, if_neg (by rw [h k (by omega) (by omega)]; decide)]
    exact fst1_no n (k + 1) (fun j h1 h2 => h j (by omega) (by omega))
theorem fst1_later {q : Nat → Bool} {p N : Nat} (hN : N < 1000000) : ∀ (m k k1 : Nat), k1 - k = m → k ≤ k1 → k1 ≤ p → p < N → fst1 q k (N - k) = nI p → fst1 q k1 (N - k1) = nI p
  | 0, k, k1, hm, h1, h2, h3, h => by
    have : k = k1 := by omega
    rw [← this]; exact h
  | m + 1, k, k1, hm, h1, h2, h3, h => by
    obtain ⟨n, hn⟩ : ∃ n, N - k = n + 1 := ⟨N - k - 1, by omega⟩
    have e : fst1 q k (n + 1) = if q k then nI k else fst1 q (k + 1) n := rfl
    rw [hn, e] at h
    by_cases c : q k = true
    · rw [if_pos c] at h
      have := (nI_eq' (by omega) (by omega)).mp h
      omega
    · rw [if_neg c] at h
      refine fst1_later hN m (k + 1) k1 (by omega) (by omega) h2 h3 ?_
      rw [show N - (k + 1) = n by omega]
      exact h
