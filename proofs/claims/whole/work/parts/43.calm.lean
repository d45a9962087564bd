/-! CALM SECONDS, PURE: what changes is told block by block -/
def inQ (Y : Nat → Int32) (m g : Nat) : Prop := ∃ k, k < m ∧ (Y (2 + k)).toNatClampNeg = g
/-- the blocks of the first m in the line changed by U -/
noncomputable def CF (U : (Nat → Int32) → Nat → Int32) (Y : Nat → Int32) (m : Nat) : Nat → Int32 := by
  classical exact fun j => if 20 ≤ j ∧ j < 320 ∧ inQ Y m ((j - 20) / 20) then U (fun f => Y (20 + 20 * ((j - 20) / 20) + f)) ((j - 20) % 20) else Y j
theorem CF_in {U : (Nat → Int32) → Nat → Int32} {Y : Nat → Int32} {m g f : Nat} (hg : g < 15) (hf : f < 20) (h : inQ Y m g) : CF U Y m (20 + 20 * g + f) = U (fun f => Y (20 + 20 * g + f)) f := by
  unfold CF
  have e1 : (20 + 20 * g + f - 20) / 20 = g := by omega
  have e2 : (20 + 20 * g + f - 20) % 20 = f := by omega
  have h2 : inQ Y m ((20 + 20 * g + f - 20) / 20) := by rw [e1]; exact h
  rw [if_pos ⟨by omega, by omega, h2⟩, e1, e2]
theorem CF_out {U : (Nat → Int32) → Nat → Int32} {Y : Nat → Int32} {m g f : Nat} (hf : f < 20) (h : ¬ inQ Y m g) : CF U Y m (20 + 20 * g + f) = Y (20 + 20 * g + f) := by
  unfold CF
  have e1 : (20 + 20 * g + f - 20) / 20 = g := by omega
  rw [if_neg (fun q => h (by have := q.2.2; rwa [e1] at this))]
theorem CF_o {U : (Nat → Int32) → Nat → Int32} {Y : Nat → Int32} {m j : Nat} (h : j < 20 ∨ 320 ≤ j) : CF U Y m j = Y j := by
  unfold CF
  rw [if_neg (by omega)]
/-- one more block -/
theorem CF_s {U : (Nat → Int32) → Nat → Int32} {Y : Nat → Int32} {m g : Nat} (eg : (Y (2 + m)).toNatClampNeg = g) (hg : g < 15) (hd : ¬ inQ Y m g) (W : Nat → Int32) (hW : ∀ f, f < 20 → W (20 + 20 * g + f) = U (fun f => Y (20 + 20 * g + f)) f) (hO : ∀ j, j < 20 + 20 * g ∨ 40 + 20 * g ≤ j → W j = CF U Y m j) : W = CF U Y (m + 1) := by
  funext j
  have hin : inQ Y (m + 1) g := ⟨m, by omega, eg⟩
  have hiff : ∀ b, b ≠ g → (inQ Y (m + 1) b ↔ inQ Y m b) := by
    intro b hb
    refine ⟨fun ⟨k, hk, e⟩ => ⟨k, ?_, e⟩, fun ⟨k, hk, e⟩ => ⟨k, by omega, e⟩⟩
    by_cases c : k = m
    · rw [c, eg] at e
      exact absurd e.symm hb
    · omega
  by_cases c : j < 20 + 20 * g ∨ 40 + 20 * g ≤ j
  · rw [hO j c]
    by_cases c2 : j < 20 ∨ 320 ≤ j
    · rw [CF_o c2, CF_o c2]
    · have e : j = 20 + 20 * ((j - 20) / 20) + (j - 20) % 20 := by omega
      have hb : (j - 20) / 20 ≠ g := by omega
      rw [e]
      by_cases c3 : inQ Y m ((j - 20) / 20)
      · rw [CF_in (by omega) (by omega) c3, CF_in (by omega) (by omega) ((hiff _ hb).mpr c3)]
      · rw [CF_out (by omega) c3, CF_out (by omega) (fun q => c3 ((hiff _ hb).mp q))]
  · have e : j = 20 + 20 * g + (j - 20 - 20 * g) := by omega
    rw [e, hW _ (by omega), CF_in hg (by omega) hin]
theorem CF_0 (U : (Nat → Int32) → Nat → Int32) (Y : Nat → Int32) : CF U Y 0 = Y := by
  funext j
  unfold CF
  rw [if_neg (fun q => by obtain ⟨k, hk, _⟩ := q.2.2; exact absurd hk (Nat.not_lt_zero _))]
/-- one block that stays -/
theorem CF_k {U : (Nat → Int32) → Nat → Int32} {Y : Nat → Int32} {m g : Nat} (eg : (Y (2 + m)).toNatClampNeg = g) (hg : g < 15) (hd : ¬ inQ Y m g) (hU : ∀ f, f < 20 → U (fun f => Y (20 + 20 * g + f)) f = Y (20 + 20 * g + f)) : CF U Y m = CF U Y (m + 1) := by
  refine CF_s eg hg hd _ (fun f hf => ?_) (fun _ _ => rfl)
  rw [CF_out hf hd, hU f hf]
/-- two passes -/
theorem CF_CF {U V W : (Nat → Int32) → Nat → Int32} {Y : Nat → Int32} {m : Nat} (hm : m ≤ 15) (h : ∀ g, g < 15 → inQ Y m g → ∀ f, f < 20 → V (fun e => U (fun f => Y (20 + 20 * g + f)) e) f = W (fun f => Y (20 + 20 * g + f)) f) (hV : ∀ a b f, f < 20 → (∀ e, e < 20 → a e = b e) → V a f = V b f) : CF V (CF U Y m) m = CF W Y m := by
  have hq : ∀ g, inQ (CF U Y m) m g ↔ inQ Y m g := fun g => by
    refine ⟨fun ⟨k, hk, e⟩ => ⟨k, hk, ?_⟩, fun ⟨k, hk, e⟩ => ⟨k, hk, ?_⟩⟩
    · rwa [CF_o (by omega)] at e
    · rwa [CF_o (by omega)]
  funext j
  by_cases c2 : j < 20 ∨ 320 ≤ j
  · rw [CF_o c2, CF_o c2, CF_o c2]
  · have e : j = 20 + 20 * ((j - 20) / 20) + (j - 20) % 20 := by omega
    have h15 : (j - 20) / 20 < 15 := by omega
    have h20 : (j - 20) % 20 < 20 := by omega
    rw [e]
    generalize (j - 20) / 20 = g at *
    generalize (j - 20) % 20 = f at *
    by_cases c3 : inQ Y m g
    · rw [CF_in h15 h20 ((hq g).mpr c3), CF_in h15 h20 c3, ← h g h15 c3 f h20]
      exact hV _ _ f h20 (fun e he => CF_in h15 he c3)
    · rw [CF_out h20 (fun q => c3 ((hq g).mp q)), CF_out h20 c3, CF_out h20 c3]
/-! the three changes -/
def Uw (b : Nat → Int32) (f : Nat) : Int32 := if f = 4 then (if b 3 ≤ 0 then b 4 + 1 else b 4) else b f
def Ut (b : Nat → Int32) (f : Nat) : Int32 := if f = 3 then (if b 3 ≤ 0 then b 3 else b 3 - 1) else b f
def Ur (n : Int32) (b : Nat → Int32) (f : Nat) : Int32 := if f = 4 then (if b 3 ≤ 0 then b 4 + n else b 4) else if f = 3 then (if b 3 ≤ 0 then b 3 else b 3 - n) else b f
theorem Utw (b : Nat → Int32) (f : Nat) : Ut (fun e => Uw b e) f = Ur 1 b f := by
  unfold Ut Uw Ur
  by_cases c : f = 4
  · subst c; rfl
  · by_cases c2 : f = 3
    · subst c2; rfl
    · simp only [if_neg c, if_neg c2]
theorem Urr {n m : Int32} {b : Nat → Int32} (h : b 3 ≤ 0 ∨ ¬ b 3 - n ≤ 0) (f : Nat) : Ur m (fun e => Ur n b e) f = Ur (n + m) b f := by
  unfold Ur
  by_cases c : f = 4
  · subst c
    simp only [if_true, if_neg (show ¬ (3 : Nat) = 4 by decide)]
    by_cases c3 : b 3 ≤ 0
    · simp only [if_pos c3]
      rw [Int32.add_assoc]
    · rcases h with q | q
      · exact absurd q c3
      · simp only [if_neg c3, if_neg q]
  · by_cases c2 : f = 3
    · subst c2
      simp only [if_true, if_neg (show ¬ (3 : Nat) = 4 by decide)]
      by_cases c3 : b 3 ≤ 0
      · simp only [if_pos c3]
      · rcases h with q | q
        · exact absurd q c3
        · simp only [if_neg c3, if_neg q]
          rw [Int32.sub_eq_add_neg, Int32.sub_eq_add_neg, Int32.sub_eq_add_neg, Int32.neg_add, Int32.sub_eq_add_neg, Int32.add_assoc]
    · simp only [if_neg c, if_neg c2]
theorem Ur_cong {n : Int32} (a b : Nat → Int32) (f : Nat) (hf : f < 20) (h : ∀ e, e < 20 → a e = b e) : Ur n a f = Ur n b f := by
  unfold Ur
  rw [h 3 (by omega), h 4 (by omega), h f hf]
theorem Ut_cong (a b : Nat → Int32) (f : Nat) (hf : f < 20) (h : ∀ e, e < 20 → a e = b e) : Ut a f = Ut b f := by
  unfold Ut
  rw [h 3 (by omega), h f hf]
/-- the pans -/
def PF (E : eg_E) (n : Int32) (m : Nat) (Y : Nat → Int32) : Nat → Int32 := fun j =>
  if 320 ≤ j ∧ j < 320 + 8 * m then
    (if eD E ((j - 320) / 8) 2 = 0 then Y j
     else if (j - 320) % 8 = 1 then Y j + n
     else if (j - 320) % 8 = 5 then Y j + (if Y (320 + 8 * ((j - 320) / 8)) = 0 then n else 0)
     else Y j)
  else Y j
/-- n seconds that are calm -/
noncomputable def repF (E : eg_E) (n : Int32) (Y : Nat → Int32) : Nat → Int32 := PF E n (eN E) (upd (CF (Ur n) Y (Y 1).toNatClampNeg) 0 (Y 0 + n))
theorem PF_0 (E : eg_E) (n : Int32) (Y : Nat → Int32) : PF E n 0 Y = Y := by
  funext j
  unfold PF
  rw [if_neg (by omega)]
theorem PF_o {E : eg_E} {n : Int32} {m : Nat} {Y : Nat → Int32} {j : Nat} (h : j < 320 ∨ 320 + 8 * m ≤ j) : PF E n m Y j = Y j := by
  unfold PF
  rw [if_neg (by omega)]
theorem PF_s {E : eg_E} {n : Int32} {m : Nat} {Y : Nat → Int32} : PF E n (m + 1) Y = if eD E m 2 = 0 then PF E n m Y else upd (upd (PF E n m Y) (320 + 8 * m + 1) (PF E n m Y (320 + 8 * m + 1) + n)) (320 + 8 * m + 5) (PF E n m Y (320 + 8 * m + 5) + (if PF E n m Y (320 + 8 * m) = 0 then n else 0)) := by
  funext j
  have o : ∀ f, PF E n m Y (320 + 8 * m + f) = Y (320 + 8 * m + f) := fun f => PF_o (Or.inr (by omega))
  have o0 : PF E n m Y (320 + 8 * m) = Y (320 + 8 * m) := o 0
  by_cases c : 320 + 8 * m ≤ j ∧ j < 320 + 8 * (m + 1)
  · have e1 : (j - 320) / 8 = m := by omega
    have e3 : PF E n m Y j = Y j := PF_o (by omega)
    have e4 : PF E n (m + 1) Y j = (if eD E m 2 = 0 then Y j else if (j - 320) % 8 = 1 then Y j + n else if (j - 320) % 8 = 5 then Y j + (if Y (320 + 8 * m) = 0 then n else 0) else Y j) := by
      unfold PF
      rw [if_pos (by omega), e1]
    rw [e4]
    by_cases c1 : eD E m 2 = 0
    · rw [if_pos c1, if_pos c1, e3]
    · rw [if_neg c1, if_neg c1, o, o, o0]
      by_cases c2 : j = 320 + 8 * m + 1
      · rw [if_pos (by omega), c2, pk_un (by omega), pk_us]
      · rw [if_neg (by omega)]
        by_cases c3 : j = 320 + 8 * m + 5
        · rw [if_pos (by omega), c3, pk_us]
        · rw [if_neg (by omega), pk_un c3, pk_un c2, e3]
  · have e5 : PF E n (m + 1) Y j = PF E n m Y j := by
      by_cases c2 : 320 ≤ j ∧ j < 320 + 8 * m
      · unfold PF
        rw [if_pos (by omega), if_pos c2]
      · rw [PF_o (by omega), PF_o (by omega)]
    rw [e5]
    by_cases c1 : eD E m 2 = 0
    · rw [if_pos c1]
    · rw [if_neg c1, pk_un (by omega), pk_un (by omega)]
