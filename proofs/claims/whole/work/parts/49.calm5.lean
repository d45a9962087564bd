/-! MANY CALM SECONDS -/
theorem rep_0 (E : eg_E) (n : Int32) (Y : Nat → Int32) : repF E n Y 0 = Y 0 + n := by
  unfold repF
  rw [PF_o (by omega), pk_us]
theorem rep_h (E : eg_E) (n : Int32) (Y : Nat → Int32) {j : Nat} (h0 : 0 < j) (h : j < 20) : repF E n Y j = Y j := by
  unfold repF
  rw [PF_o (by omega), pk_un (by omega), CF_o (by omega)]
theorem rep_g (E : eg_E) (n : Int32) (Y : Nat → Int32) {j : Nat} (h0 : 20 ≤ j) (h : j < 320) : repF E n Y j = CF (Ur n) Y (Y 1).toNatClampNeg j := by
  unfold repF
  rw [PF_o (by omega), pk_un (by omega)]
theorem rep_p (E : eg_E) (n : Int32) (Y : Nat → Int32) {j : Nat} (h0 : 320 ≤ j) : repF E n Y j = PF E n (eN E) Y j := by
  unfold repF
  rw [PF_u0, pk_un (by omega)]
  unfold PF
  by_cases c : 320 ≤ j ∧ j < 320 + 8 * eN E
  · rw [if_pos c, if_pos c, CF_o (by omega), CF_o (by omega)]
  · rw [if_neg c, if_neg c, CF_o (by omega)]
theorem Ur_0 (b : Nat → Int32) (f : Nat) : Ur 0 b f = b f := by
  unfold Ur
  by_cases c : f = 4
  · rw [if_pos c, Int32.add_zero, c]
    by_cases c3 : b 3 ≤ 0
    · rw [if_pos c3]
    · rw [if_neg c3]
  · rw [if_neg c]
    by_cases c2 : f = 3
    · rw [if_pos c2, Int32.sub_zero, c2]
      by_cases c3 : b 3 ≤ 0
      · rw [if_pos c3]
      · rw [if_neg c3]
    · rw [if_neg c2]
theorem rep_z (E : eg_E) (Y : Nat → Int32) : repF E 0 Y = Y := by
  funext j
  by_cases c0 : j = 0
  · rw [c0, rep_0, Int32.add_zero]
  by_cases c1 : j < 20
  · exact rep_h E 0 Y (by omega) c1
  by_cases c2 : j < 320
  · rw [rep_g E 0 Y (by omega) c2]
    have e : j = 20 + 20 * ((j - 20) / 20) + (j - 20) % 20 := by omega
    have h15 : (j - 20) / 20 < 15 := by omega
    have h20 : (j - 20) % 20 < 20 := by omega
    rw [e]
    generalize (j - 20) / 20 = g at *
    generalize (j - 20) % 20 = f at *
    by_cases c3 : inQ Y (Y 1).toNatClampNeg g
    · rw [CF_in h15 h20 c3, Ur_0]
    · rw [CF_out h20 c3]
  · rw [rep_p E 0 Y (by omega)]
    unfold PF
    by_cases c : 320 ≤ j ∧ j < 320 + 8 * eN E
    · rw [if_pos c, Int32.add_zero]
      have : (if Y (320 + 8 * ((j - 320) / 8)) = 0 then (0 : Int32) else 0) = 0 := by split <;> rfl
      rw [this, Int32.add_zero]
      split
      · rfl
      · split
        · rfl
        · split <;> rfl
    · rw [if_neg c]
theorem rep_s {E : eg_E} {Y : Nat → Int32} {n m : Int32} (hE : wE E) (hq : (Y 1).toNatClampNeg < 16) (h : ∀ k, k < (Y 1).toNatClampNeg → Y (20 + 20 * (Y (2 + k)).toNatClampNeg + 3) ≤ 0 ∨ ¬ Y (20 + 20 * (Y (2 + k)).toNatClampNeg + 3) - n ≤ 0) : repF E m (repF E n Y) = repF E (n + m) Y := by
  have hn := hE.1
  have e1 : repF E n Y 1 = Y 1 := rep_h E n Y (by omega) (by omega)
  funext j
  by_cases c0 : j = 0
  · rw [c0, rep_0, rep_0, rep_0, Int32.add_assoc]
  by_cases c1 : j < 20
  · rw [rep_h _ _ _ (by omega) c1, rep_h _ _ _ (by omega) c1, rep_h _ _ _ (by omega) c1]
  by_cases c2 : j < 320
  · rw [rep_g _ _ _ (by omega) c2, rep_g _ _ _ (by omega) c2, e1]
    have hqi : ∀ g, inQ (repF E n Y) (Y 1).toNatClampNeg g ↔ inQ Y (Y 1).toNatClampNeg g := fun g => by
      refine ⟨fun ⟨k, hk, e⟩ => ⟨k, hk, ?_⟩, fun ⟨k, hk, e⟩ => ⟨k, hk, ?_⟩⟩
      · rwa [rep_h _ _ _ (by omega) (by omega)] at e
      · rwa [rep_h _ _ _ (by omega) (by omega)]
    have e : j = 20 + 20 * ((j - 20) / 20) + (j - 20) % 20 := by omega
    have h15 : (j - 20) / 20 < 15 := by omega
    have h20 : (j - 20) % 20 < 20 := by omega
    rw [e]
    generalize (j - 20) / 20 = g at *
    generalize (j - 20) % 20 = f at *
    by_cases c3 : inQ Y (Y 1).toNatClampNeg g
    · obtain ⟨k, hk, ek⟩ := c3
      have hk2 := h k hk
      rw [ek] at hk2
      have c3 : inQ Y (Y 1).toNatClampNeg g := ⟨k, hk, ek⟩
      rw [CF_in h15 h20 ((hqi g).mpr c3), CF_in h15 h20 c3, ← Urr (b := fun f => Y (20 + 20 * g + f)) hk2 f]
      exact Ur_cong _ _ f h20 (fun e he => by rw [rep_g _ _ _ (by omega) (by omega), CF_in h15 he c3])
    · rw [CF_out h20 (fun q => c3 ((hqi g).mp q)), CF_out h20 c3, rep_g _ _ _ (by omega) (by omega), CF_out h20 c3]
  · rw [rep_p _ _ _ (by omega), rep_p _ _ _ (by omega)]
    unfold PF
    by_cases c : 320 ≤ j ∧ j < 320 + 8 * eN E
    · have e : j = 320 + 8 * ((j - 320) / 8) + (j - 320) % 8 := by omega
      have hs : (j - 320) / 8 < eN E := by omega
      rw [if_pos c, if_pos c, rep_p _ _ _ (by omega), rep_p _ _ _ (by omega)]
      have p0 : PF E n (eN E) Y (320 + 8 * ((j - 320) / 8)) = Y (320 + 8 * ((j - 320) / 8)) := by
        unfold PF
        rw [if_pos (by omega), show (320 + 8 * ((j - 320) / 8) - 320) % 8 = 0 by omega]
        simp only [if_neg (show ¬ (0 : Nat) = 1 by decide), if_neg (show ¬ (0 : Nat) = 5 by decide)]
        split <;> rfl
      have pj : PF E n (eN E) Y j = (if eD E ((j - 320) / 8) 2 = 0 then Y j else if (j - 320) % 8 = 1 then Y j + n else if (j - 320) % 8 = 5 then Y j + (if Y (320 + 8 * ((j - 320) / 8)) = 0 then n else 0) else Y j) := by
        unfold PF
        rw [if_pos c]
      rw [p0, pj]
      by_cases d1 : eD E ((j - 320) / 8) 2 = 0
      · simp only [if_pos d1]
      · simp only [if_neg d1]
        by_cases d2 : (j - 320) % 8 = 1
        · simp only [if_pos d2]
          rw [Int32.add_assoc]
        · simp only [if_neg d2]
          by_cases d3 : (j - 320) % 8 = 5
          · simp only [if_pos d3]
            by_cases d4 : Y (320 + 8 * ((j - 320) / 8)) = 0
            · simp only [if_pos d4]
              rw [Int32.add_assoc]
            · simp only [if_neg d4]
              rw [Int32.add_zero]
          · simp only [if_neg d3]
    · rw [if_neg c, if_neg c, rep_p _ _ _ (by omega)]
      unfold PF
      rw [if_neg c]
def secN (E : eg_E) (n : Nat) (Y : Nat → Int32) : Nat → Int32 := itr (fun _ => secF E) n Y
theorem secN_s (E : eg_E) (n : Nat) (Y : Nat → Int32) : secN E (n + 1) Y = secF E (secN E n Y) := rfl
theorem secN_add (E : eg_E) (a : Nat) (Y : Nat → Int32) : ∀ b, secN E (a + b) Y = secN E b (secN E a Y)
  | 0 => rfl
  | b + 1 => by
    show secF E (secN E (a + b) Y) = secF E (secN E b (secN E a Y))
    rw [secN_add E a Y b]
theorem secN_I {E : eg_E} {C : Nat} {Y : Nat → Int32} (hE : wE E) (hC : C < 1000000) (hC2 : 119 ≤ C) (h : yI E C Y) : ∀ n : Nat, (Y 0).toInt + n ≤ 3600 → yI E C (secN E n Y) ∧ (secN E n Y 0).toInt = (Y 0).toInt + n
  | 0, _ => ⟨h, by simp [secN, itr]⟩
  | n + 1, hn => by
    have h0 := h.2.2.2.2
    obtain ⟨i1, i2⟩ := secN_I hE hC hC2 h n (by omega)
    have := secF_I hE hC hC2 i1 (by omega)
    rw [secN_s]
    refine ⟨this.1, ?_⟩
    rw [this.2, t_add (by rw [t_1]; omega) (by rw [t_1]; omega), t_1, i2]
    omega
/-- so many seconds nothing comes -/
def nC (E : eg_E) (n : Nat) (Y : Nat → Int32) : Prop :=
  (∀ s, s < eN E → (Y (320 + 8 * s + 2)).toInt < 0 ∨ (Y 0).toInt + n ≤ (Y (320 + 8 * s + 2)).toInt) ∧ (∀ g, g < eP E → (Y (20 + 20 * g) = 0 ∨ Y (20 + 20 * g) = 2) → (Y (20 + 20 * g + 11)).toInt < (Y 0).toInt ∨ (Y 0).toInt + n ≤ (Y (20 + 20 * g + 11)).toInt) ∧ (∀ s, s < eN E → ¬ eD E s 2 = 0 → ¬ (¬ eD E s 4 < Y (320 + 8 * s) ∧ ¬ 0 ≤ Y (320 + 8 * s + 2) ∧ ¬ eO E 2 ≤ Y 0)) ∧ ∀ k, k < (Y 1).toNatClampNeg → Y (20 + 20 * (Y (2 + k)).toNatClampNeg + 3) ≤ 0 ∨ (n : Int) ≤ (Y (20 + 20 * (Y (2 + k)).toNatClampNeg + 3)).toInt
theorem rep_gf (E : eg_E) (n : Int32) (Y : Nat → Int32) {g f : Nat} (hg : g < 15) (hf : f < 20) (h3 : f ≠ 3) (h4 : f ≠ 4) : repF E n Y (20 + 20 * g + f) = Y (20 + 20 * g + f) := by
  rw [rep_g _ _ _ (by omega) (by omega)]
  by_cases c : inQ Y (Y 1).toNatClampNeg g
  · rw [CF_in hg hf c]
    unfold Ur
    rw [if_neg h4, if_neg h3]
  · rw [CF_out hf c]
theorem rep_pf (E : eg_E) (n : Int32) (Y : Nat → Int32) {s f : Nat} (hf : f < 8) (h1 : f ≠ 1) (h5 : f ≠ 5) : repF E n Y (320 + 8 * s + f) = Y (320 + 8 * s + f) := by
  rw [rep_p _ _ _ (by omega)]
  unfold PF
  by_cases c : 320 ≤ 320 + 8 * s + f ∧ 320 + 8 * s + f < 320 + 8 * eN E
  · rw [if_pos c, show (320 + 8 * s + f - 320) % 8 = f by omega]
    simp only [if_neg h1, if_neg h5]
    split <;> rfl
  · rw [if_neg c]
theorem calm_run {E : eg_E} {C : Nat} {Y : Nat → Int32} (hE : wE E) (hC : C < 1000000) (hC2 : 119 ≤ C) (hY : yI E C Y) (hc : ∀ k, k < (Y 1).toNatClampNeg → CQ E Y k) {n : Nat} (h0 : (Y 0).toInt + n ≤ 3600) (hn : nC E n Y) : ∀ m, m ≤ n → secN E m Y = repF E (nI m) Y
  | 0, _ => (rep_z E Y).symm
  | m + 1, hm => by
    have hn6 := hE.1
    have hN := hE.2.1
    have hq := hY.q16 hE
    have y0 := hY.2.2.2.2
    rw [secN_s]
    obtain ⟨hYm, hm0⟩ := secN_I hE hC hC2 hY m (by omega)
    rw [calm_run hE hC hC2 hY hc h0 hn m (by omega)] at hYm hm0 ⊢
    obtain ⟨n1, n2, n3, n4⟩ := hn
    have tk : ∀ k, k < (Y 1).toNatClampNeg → Y (20 + 20 * (Y (2 + k)).toNatClampNeg + 3) ≤ 0 ∨ ¬ Y (20 + 20 * (Y (2 + k)).toNatClampNeg + 3) - nI m ≤ 0 := by
      intro k hk
      rcases n4 k hk with q | q
      · exact Or.inl q
      · right
        have hb := (hY.2.2.1 _ (vp_lt (hY.1.2.1 k hk).1)).2.2.2.1
        rw [t_le, t_0, t_sub (by rw [t_nI (by omega)]; omega) (by rw [t_nI (by omega)]; omega), t_nI (by omega)]
        omega
    have e1 : repF E (nI m) Y 1 = Y 1 := rep_h _ _ _ (by omega) (by omega)
    have ag : AG E (fun _ => True) Y (repF E (nI m) Y) := by
      have hd : ∀ g, g < eP E → repF E (nI m) Y (20 + 20 * g + 3) = Y (20 + 20 * g + 3) ∨ (0 < (repF E (nI m) Y (20 + 20 * g + 3)).toInt ∧ 0 < (Y (20 + 20 * g + 3)).toInt) := by
        intro g hg
        rw [rep_g _ _ _ (by omega) (by omega)]
        by_cases c : inQ Y (Y 1).toNatClampNeg g
        · rw [CF_in (by omega) (by omega) c]
          unfold Ur
          rw [if_neg (by decide), if_pos rfl]
          dsimp only
          obtain ⟨k, hk, ek⟩ := c
          have h2 := tk k hk
          rw [ek] at h2
          by_cases c3 : Y (20 + 20 * g + 3) ≤ 0
          · rw [if_pos c3]; exact Or.inl rfl
          · rw [if_neg c3]
            right
            rcases h2 with q | q
            · exact absurd q c3
            · rw [t_le, t_0] at q c3
              omega
        · rw [CF_out (by omega) c]; exact Or.inl rfl
      refine ⟨e1, fun k hk => rep_h _ _ _ (by omega) (by omega), fun q hq2 => ?_, fun s hs => rep_pf _ _ _ (f := 0) (by omega) (by omega) (by omega), fun g hg _ => ⟨fun f hf => rep_gf _ _ _ (by omega) (by omega) (by omega) (by omega), ?_, ?_⟩, fun g hg x => ?_⟩
      · rw [rep_p _ _ _ (by omega), PF_o (by omega)]
      · rcases hd g hg with q | q
        · rw [q]
        · rw [t_eq, t_eq, t_0]; omega
      · rcases hd g hg with q | q
        · rw [q]
        · rw [t_le, t_le, t_0]; omega
      · rw [rep_gf _ _ _ (by omega) (by omega : 1 < 20) (by omega) (by omega)]
        rcases hd g hg with q | q
        · rw [q]
        · rw [t_lt, t_lt, t_0]
          exact ⟨fun r => ⟨by omega, r.2⟩, fun r => ⟨by omega, r.2⟩⟩
    have hcm : ∀ k, k < (repF E (nI m) Y 1).toNatClampNeg → CQ E (repF E (nI m) Y) k := by
      intro k hk
      rw [e1] at hk
      exact CQ_cong hE hY ag hk trivial (fun _ => trivial) (hc k hk)
    have ho : noC E (repF E (nI m) Y) := by
      have v0 : (repF E (nI m) Y 0).toInt = (Y 0).toInt + m := hm0
      refine ⟨fun s hs => ?_, fun g hg => ?_, fun s hs hz => ?_⟩
      · rw [rep_pf _ _ _ (by omega) (by omega) (by omega), t_lt, t_le, t_0, v0]
        have := n1 s hs
        omega
      · have g0 := rep_gf E (nI m) Y (g := g) (f := 0) (by omega) (by omega) (by omega) (by omega)
        rw [Nat.add_zero] at g0
        rw [g0, rep_gf _ _ _ (by omega) (by omega) (by omega) (by omega), t_eq (x := Y (20 + 20 * g + 11)), v0]
        intro q
        have := n2 g hg q.1
        omega
      · have p0 := rep_pf E (nI m) Y (s := s) (f := 0) (by omega) (by omega) (by omega)
        rw [Nat.add_zero] at p0
        rw [p0, rep_pf _ _ _ (by omega) (by omega) (by omega)]
        intro q
        refine n3 s hs hz ⟨q.1, q.2.1, fun r => q.2.2 ?_⟩
        rw [t_le] at r ⊢
        omega
    rw [calm_sec hE hYm hcm ho, rep_s hE hq tk, (nAl m).2.1]
theorem pans_ord {E : eg_E} {C : Nat} {X : Nat → Int32} (hE : wE E) (hX : yI E C X) : ∀ m, m ≤ eN E → (∀ j, j < 320 ∨ 360 ≤ j → itr (pansF E) m X j = X j) ∧ (∀ s, itr (pansF E) m X (320 + 8 * s) = X (320 + 8 * s)) ∧ (∀ s, m ≤ s → itr (pansF E) m X (320 + 8 * s + 2) = X (320 + 8 * s + 2)) ∧ (∀ s, s < m → ¬ eD E s 2 = 0 → ¬ (¬ eD E s 4 < X (320 + 8 * s) ∧ ¬ 0 ≤ itr (pansF E) m X (320 + 8 * s + 2) ∧ ¬ eO E 2 ≤ X 0))
  | 0, _ => ⟨fun _ _ => rfl, fun _ => rfl, fun _ _ => rfl, fun s hs => absurd hs (Nat.not_lt_zero _)⟩
  | m + 1, hm => by
    have hn := hE.1
    obtain ⟨a1, a2, a3, a4⟩ := pans_ord hE hX m (by omega)
    have e : itr (pansF E) (m + 1) X = pansF E m (itr (pansF E) m X) := rfl
    rw [e]
    clear e
    have x0 := a1 0 (by omega)
    have b0 := a2 m
    have b2 := a3 m (Nat.le_refl _)
    generalize itr (pansF E) m X = Z at *
    have y0 := hX.2.2.2.2
    have hl := (hE.2.2.1 m (by omega)).2.2.1
    unfold pansF
    by_cases c : eD E m 2 = 0
    · rw [if_pos c]
      refine ⟨a1, a2, fun s hs => a3 s (by omega), fun s hs hz => ?_⟩
      by_cases es : s = m
      · rw [es] at hz; exact absurd c hz
      · exact a4 s (by omega) hz
    · rw [if_neg c]
      rw [b0, b2, x0]
      have po := (hX.2.2.2.1 m (by omega)).2
      by_cases q : ¬ eD E m 4 < X (320 + 8 * m) ∧ ¬ 0 ≤ X (320 + 8 * m + 2) ∧ ¬ eO E 2 ≤ X 0
      · rw [if_pos q]
        refine ⟨fun j hj => ?_, fun s => ?_, fun s hs => ?_, fun s hs hz => ?_⟩
        · rw [pk_un (by omega), pk_un (by omega), pk_un (by omega)]; exact a1 j hj
        · rw [pk_un (by omega), pk_un (by omega), pk_un (by omega)]; exact a2 s
        · rw [pk_un (by omega), pk_un (by omega), pk_un (by omega)]; exact a3 s (by omega)
        · by_cases es : s = m
          · subst es
            rw [pk_un (by omega), pk_un (by omega), pk_us]
            intro r
            apply r.2.1
            rw [t_le, t_0, t_add (by omega) (by omega)]
            omega
          · rw [pk_un (by omega), pk_un (by omega), pk_un (by omega)]; exact a4 s (by omega) hz
      · rw [if_neg q]
        refine ⟨fun j hj => ?_, fun s => ?_, fun s hs => ?_, fun s hs hz => ?_⟩
        · rw [pk_un (by omega), pk_un (by omega)]; exact a1 j hj
        · rw [pk_un (by omega), pk_un (by omega)]; exact a2 s
        · rw [pk_un (by omega), pk_un (by omega)]; exact a3 s (by omega)
        · by_cases es : s = m
          · subst es
            rw [pk_un (by omega), pk_un (by omega), b2]; exact q
          · rw [pk_un (by omega), pk_un (by omega)]; exact a4 s (by omega) hz
/-- after a calm second -/
theorem after_CQ {E : eg_E} {C : Nat} {Y : Nat → Int32} (hE : wE E) (hC : C < 1000000) (hC2 : 119 ≤ C) (hY : yI E C Y) (h0 : (Y 0).toInt < 3600) (Y1 Y2 : Nat → Int32) (e1 : Y1 = itr (admF E) (eP E) (itr (fillF E) (eN E) Y)) (e2 : Y2 = walkF E (Y1 1).toNatClampNeg 0 Y1) (hs : walkS E (Y1 1).toNatClampNeg 0 Y1) (ht : ∀ k, k < (Y2 1).toNatClampNeg → ¬ itr tkoF k Y2 (20 + 20 * (itr tkoF k Y2 (2 + k)).toNatClampNeg + 3) = 1) : (∀ k, k < (secF E Y 1).toNatClampNeg → CQ E (secF E Y) k) ∧ ∀ s, s < eN E → ¬ eD E s 2 = 0 → ¬ (¬ eD E s 4 < secF E Y (320 + 8 * s) ∧ ¬ 0 ≤ secF E Y (320 + 8 * s + 2) ∧ ¬ eO E 2 ≤ secF E Y 0) := by
  have hn := hE.1
  have hN := hE.2.1
  have hI1 : yI E C Y1 := by rw [e1]; exact admA_I hE (fillA_I hE hC hY _ (Nat.le_refl _)) _ (Nat.le_refl _)
  have z0 : Y1 0 = Y 0 := by rw [e1, itr_fix (admF_0 E), itr_fix (fillF_0 E)]
  obtain ⟨q1, cq⟩ := walk_CQ hE hC _ 0 Y1 hI1 hs (fun k hk => absurd hk (Nat.not_lt_zero _)) (by omega)
  obtain ⟨hI2, z2⟩ := walkF_I hE hC (Y1 1).toNatClampNeg 0 Y1 hI1
  rw [← e2] at q1 cq hI2 z2
  rw [← q1] at cq
  have hI3 := (tkoA_I hE hI2 _ (Nat.le_refl _)).1
  have e3 := tko_CF hE hI2.1 _ (Nat.le_refl _)
  have esec : secF E Y = upd (itr (pansF E) (eN E) (itr tkoF (Y2 1).toNatClampNeg Y2)) 0 (itr (pansF E) (eN E) (itr tkoF (Y2 1).toNatClampNeg Y2) 0 + 1) := by
    unfold secF
    dsimp only
    rw [← e1, ← e2]
  have hq16 := hI2.q16 hE
  obtain ⟨p1, p2, p3, p4⟩ := pans_ord hE hI3 (eN E) (Nat.le_refl _)
  have x0 : itr tkoF (Y2 1).toNatClampNeg Y2 0 = Y2 0 := itr_fix tkoF_0 _
  have t1 : ∀ k, k < (Y2 1).toNatClampNeg → ¬ Y2 (20 + 20 * (Y2 (2 + k)).toNatClampNeg + 3) = 1 := by
    intro k hk
    have := ht k hk
    rw [tko_CF hE hI2.1 k (by omega), CF_o (by omega : 2 + k < 20 ∨ 320 ≤ 2 + k), CF_out (by omega) (hI2.1.nq hE hk)] at this
    exact this
  rw [e3] at p1 p2 p3 p4 esec x0
  generalize itr (pansF E) (eN E) (CF Ut Y2 (Y2 1).toNatClampNeg) = Y4 at *
  have cell : ∀ j, 0 < j → j < 320 ∨ 360 ≤ j → secF E Y j = CF Ut Y2 (Y2 1).toNatClampNeg j := fun j hj hj2 => by rw [esec, pk_un (by omega)]; exact p1 j hj2
  have ag : AG E (fun _ => True) Y2 (secF E Y) := by
    have hd : ∀ g, g < eP E → secF E Y (20 + 20 * g + 3) = Y2 (20 + 20 * g + 3) ∨ (0 < (secF E Y (20 + 20 * g + 3)).toInt ∧ 0 < (Y2 (20 + 20 * g + 3)).toInt) := by
      intro g hg
      rw [cell _ (by omega) (by omega)]
      by_cases c : inQ Y2 (Y2 1).toNatClampNeg g
      · rw [CF_in (by omega) (by omega) c]
        unfold Ut
        rw [if_pos rfl]
        dsimp only
        obtain ⟨k, hk, ek⟩ := c
        have h2 := t1 k hk
        rw [ek] at h2
        by_cases c3 : Y2 (20 + 20 * g + 3) ≤ 0
        · rw [if_pos c3]; exact Or.inl rfl
        · rw [if_neg c3]
          right
          rw [t_le, t_0] at c3
          rw [t_eq, t_1] at h2
          have hb := (hI2.2.2.1 g hg).2.2.2.1
          rw [t_sub (by rw [t_1]; omega) (by rw [t_1]; omega), t_1]
          omega
      · rw [CF_out (by omega) c]; exact Or.inl rfl
    have gf : ∀ g f, g < eP E → f < 20 → f ≠ 3 → secF E Y (20 + 20 * g + f) = Y2 (20 + 20 * g + f) := by
      intro g f hg hf h3
      rw [cell _ (by omega) (by omega)]
      by_cases c : inQ Y2 (Y2 1).toNatClampNeg g
      · rw [CF_in (by omega) hf c]
        unfold Ut
        rw [if_neg h3]
      · rw [CF_out hf c]
    refine ⟨?_, fun k hk => ?_, fun q hq2 => ?_, fun s hs => ?_, fun g hg _ => ⟨fun f hf => gf g f hg (by omega) (by omega), ?_, ?_⟩, fun g hg x => ?_⟩
    · rw [cell _ (by omega) (by omega), CF_o (by omega)]
    · rw [cell _ (by omega) (by omega), CF_o (by omega)]
    · rw [cell _ (by omega) (by omega), CF_o (by omega)]
    · rw [esec, pk_un (by omega), p2, CF_o (by omega)]
    · rcases hd g hg with q | q
      · rw [q]
      · rw [t_eq, t_eq, t_0]; omega
    · rcases hd g hg with q | q
      · rw [q]
      · rw [t_le, t_le, t_0]; omega
    · rw [gf g 1 hg (by omega) (by omega)]
      rcases hd g hg with q | q
      · rw [q]
      · rw [t_lt, t_lt, t_0]
        exact ⟨fun r => ⟨by omega, r.2⟩, fun r => ⟨by omega, r.2⟩⟩
  refine ⟨fun k hk => ?_, fun s hs hz q => ?_⟩
  · rw [ag.1] at hk
    exact CQ_cong hE hI2 ag hk trivial (fun _ => trivial) (cq k hk)
  · rw [esec, pk_un (by omega), pk_un (by omega), pk_us, p2, p1 0 (by omega)] at q
    refine p4 s hs hz ⟨q.1, q.2.1, fun r => q.2.2 ?_⟩
    rw [x0] at r ⊢
    rw [t_le] at r ⊢
    rw [z2, z0] at r ⊢
    have y0 := hY.2.2.2.2
    rw [t_add (by rw [t_1]; omega) (by rw [t_1]; omega), t_1]
    omega
