/-! WHO IS HELD UP, OR WAITS, OR TAKES, AND WILL DO SO AGAIN -/
def CQ (E : eg_E) (Y : Nat → Int32) (k : Nat) : Prop :=
  ¬ Y (20 + 20 * (Y (2 + k)).toNatClampNeg + 3) ≤ 0 ∨ (Y (20 + 20 * (Y (2 + k)).toNatClampNeg + 3) = 0 ∧
    ((blk E k Y ∧ Y (20 + 20 * (Y (1 + k)).toNatClampNeg + 1) ≤ Y (20 + 20 * (Y (2 + k)).toNatClampNeg + 1)) ∨
     (¬ blk E k Y ∧ ∃ p s, nxF Y (eN E) (Y (2 + k)).toNatClampNeg = nI p ∧ p < eN E ∧ s = (Y (360 + p)).toNatClampNeg ∧ Y (20 + 20 * (Y (2 + k)).toNatClampNeg + 1) = nI p ∧ Y (20 + 20 * (Y (2 + k)).toNatClampNeg + 10) = 1 ∧ ¬ (¬ eD E s 2 = 0 ∧ Y (320 + 8 * s) = 0) ∧ eD E s 1 ≤ sm (tkF Y (nI p)) (Y 1).toNatClampNeg ∧ ∀ nm, eL E 1 nm = none)))
def AG (E : eg_E) (S : Nat → Prop) (Y Y1 : Nat → Int32) : Prop :=
  Y1 1 = Y 1 ∧ (∀ k, k < (Y 1).toNatClampNeg → Y1 (2 + k) = Y (2 + k)) ∧ (∀ q, q < eN E → Y1 (360 + q) = Y (360 + q)) ∧ (∀ s, s < eN E → Y1 (320 + 8 * s) = Y (320 + 8 * s)) ∧
  (∀ g, g < eP E → S g → (∀ f, (f = 1 ∨ f = 2 ∨ f = 10 ∨ (14 ≤ f ∧ f < 19)) → Y1 (20 + 20 * g + f) = Y (20 + 20 * g + f)) ∧ (Y1 (20 + 20 * g + 3) = 0 ↔ Y (20 + 20 * g + 3) = 0) ∧ (Y1 (20 + 20 * g + 3) ≤ 0 ↔ Y (20 + 20 * g + 3) ≤ 0)) ∧
  (∀ g, g < eP E → ∀ x, (0 < Y1 (20 + 20 * g + 3) ∧ Y1 (20 + 20 * g + 1) = x) ↔ (0 < Y (20 + 20 * g + 3) ∧ Y (20 + 20 * g + 1) = x))
theorem AG.nx {E : eg_E} {C : Nat} {S : Nat → Prop} {Y Y1 : Nat → Int32} (hE : wE E) (hY : yI E C Y) (h : AG E S Y Y1) {g : Nat} (hg : g < eP E) (hS : S g) : nxF Y1 (eN E) g = nxF Y (eN E) g := by
  have hn := hE.1
  obtain ⟨_, _, h3, _, h5, _⟩ := h
  have hc := (h5 g hg hS).1
  have c22 : 22 + 20 * g = 20 + 20 * g + 2 := by omega
  have c30 : 30 + 20 * g = 20 + 20 * g + 10 := by omega
  have c21 : 21 + 20 * g = 20 + 20 * g + 1 := by omega
  have es : nxS Y1 g = nxS Y g := by
    unfold nxS
    rw [c30, c21, hc 10 (by omega), hc 1 (by omega)]
  unfold nxF
  rw [c22, hc 2 (by omega), es]
  by_cases c : Y (20 + 20 * g + 2) = 0
  · rw [if_pos c, if_pos c]
  · rw [if_neg c, if_neg c]
    refine fst1_cong _ _ (fun j h1 h2 => ?_)
    have hj : j < eN E := by omega
    have hr := vp_lt (hY.2.1.1 j hj)
    rw [h3 j hj, show 34 + 20 * g + (Y (360 + j)).toNatClampNeg = 20 + 20 * g + (14 + (Y (360 + j)).toNatClampNeg) by omega, hc _ (by omega)]
theorem AG.tk {E : eg_E} {C : Nat} {S : Nat → Prop} {Y Y1 : Nat → Int32} (hY : yI E C Y) (h : AG E S Y Y1) (x : Int32) : sm (tkF Y1 x) (Y1 1).toNatClampNeg = sm (tkF Y x) (Y 1).toNatClampNeg := by
  obtain ⟨h1, h2, _, _, _, h6⟩ := h
  rw [h1]
  refine sm_cong (fun k hk => ?_)
  have hg := vp_lt (hY.1.2.1 k hk).1
  unfold tkF
  rw [h2 k hk]
  generalize (Y (2 + k)).toNatClampNeg = g at hg ⊢
  rw [show 23 + 20 * g = 20 + 20 * g + 3 by omega, show 21 + 20 * g = 20 + 20 * g + 1 by omega]
  simp only [h6 g hg x]
theorem AG.blk {E : eg_E} {C : Nat} {S : Nat → Prop} {Y Y1 : Nat → Int32} (hE : wE E) (hY : yI E C Y) (h : AG E S Y Y1) {k : Nat} (hk : k < (Y 1).toNatClampNeg) (hS : S (Y (2 + k)).toNatClampNeg) (hP : 0 < k → S (Y (1 + k)).toNatClampNeg) : blk E k Y1 ↔ blk E k Y := by
  have hg := vp_lt (hY.1.2.1 k hk).1
  have e1 := h.2.1 k hk
  unfold _root_.Jvm.Pilot.CEggTraysLaw_law_r8608_840f7a.blk
  rw [e1, h.nx hE hY hg hS]
  by_cases c : 0 < k
  · obtain ⟨j, rfl⟩ : ∃ j, k = j + 1 := ⟨k - 1, by omega⟩
    have e : 1 + (j + 1) = 2 + j := by omega
    rw [e] at hP ⊢
    have hg2 := vp_lt (hY.1.2.1 j (by omega)).1
    rw [h.2.1 j (by omega), (h.2.2.2.2.1 _ hg2 (hP c)).1 1 (by omega)]
  · exact ⟨fun q => absurd q.2.1 c, fun q => absurd q.2.1 c⟩
