/-! TOKENS on both sides -/
theorem sI_9 (N : eg_H) (k j : Nat) (x : Int32) : (sI N (9, 0) k x).1 (9, 0) j = if j = k then x else N.1 (9, 0) j := by
  rw [sI_i]
  by_cases c : j = k
  · rw [if_pos ⟨rfl, c⟩, if_pos c]
  · rw [if_neg (fun q => c q.2), if_neg c]
theorem bR_c {b m c : Int32} (h : bR b m) (h0 : 0 ≤ c.toInt) (h1 : c.toInt < 128) : b = c ↔ m = c := by
  rcases h with ⟨a1, a2, a3⟩ | ⟨a1, a2, a3⟩
  · rw [a3]
  · constructor
    · intro e; rw [e] at a1; omega
    · intro e; rw [e] at a2; omega
theorem bR_r {b m lo hi : Int32} (h : bR b m) (h0 : 0 ≤ lo.toInt) (h1 : hi.toInt < 128) : ((¬ b < lo ∧ ¬ hi < b) ↔ (¬ m < lo ∧ ¬ hi < m)) ∧ (¬ b < lo → ¬ hi < b → b = m) := by
  rw [t_lt, t_lt, t_lt, t_lt]
  rcases h with ⟨a1, a2, a3⟩ | ⟨a1, a2, a3⟩
  · rw [a3]; exact ⟨Iff.rfl, fun _ _ => rfl⟩
  · exact ⟨by omega, fun q _ => by omega⟩
theorem scan_ex (p : Nat → Prop) (n : Nat) : ∀ (k e : Nat), e + k = n → ∃ q, e ≤ q ∧ q ≤ n ∧ (∀ i, e ≤ i → i < q → p i) ∧ (q = n ∨ (q < n ∧ ¬ p q))
  | 0, e, h => ⟨e, Nat.le_refl _, by omega, fun i h1 h2 => by omega, Or.inl (by omega)⟩
  | k + 1, e, h => by
    by_cases c : p e
    · obtain ⟨q, h1, h2, h3, h4⟩ := scan_ex p n k (e + 1) (by omega)
      refine ⟨q, by omega, h2, fun i hi hq => ?_, h4⟩
      by_cases ei : i = e
      · rw [ei]; exact c
      · exact h3 i (by omega) hq
    · exact ⟨e, Nat.le_refl _, by omega, fun i h1 h2 => by omega, Or.inr ⟨by omega, c⟩⟩
def PV (mc mm : eg_M) (ac am : List eg_V) (dc dm : Nat) (M N : eg_H) (R : eg_H → eg_H → Prop) : Prop := ∃ M1 N1, (∀ (κ : eg_K) (d : Nat), dc ≤ d → eg_S κ gC mc d ac M (eQV κ gC (fun X => X = M1))) ∧ (∀ (κ : eg_K) (d : Nat), dm ≤ d → eg_S κ gM mm d am N (eQV κ gM (fun X => X = N1))) ∧ R M1 N1
def PI (mc mm : eg_M) (ac am : List eg_V) (dc dm : Nat) (M N : eg_H) (R : Int32 → eg_H → eg_H → Prop) : Prop := ∃ r M1 N1, (∀ (κ : eg_K) (d : Nat), dc ≤ d → eg_S κ gC mc d ac M (eQI κ gC (fun x X => x = r ∧ X = M1))) ∧ (∀ (κ : eg_K) (d : Nat), dm ≤ d → eg_S κ gM mm d am N (eQI κ gM (fun x X => x = r ∧ X = N1))) ∧ R r M1 N1
def sgL : List (Int32 × Int32) := [(24, 43), (25, 45), (26, 42), (27, 47), (34, 40), (35, 41), (36, 59)]
/-- a token: the class's kind, number, letters; the model's kind, which -/
def tkR (k num le kd wh : Int32) : Prop :=
  (k = 39 ∧ kd = 0) ∨ (∃ w, w < 24 ∧ k = nI w ∧ kd = 1 ∧ wh = nI (prm w)) ∨ (k = 38 ∧ kd = 2 ∧ wh = le) ∨ (k = 37 ∧ kd = 3 ∧ wh = num ∧ 0 ≤ num.toInt ∧ num.toInt ≤ 99999) ∨ (∃ c, (k, c) ∈ sgL ∧ kd = 4 ∧ wh = c) ∨ (∃ j, j < 6 ∧ k = nI (28 + j) ∧ kd = 5 ∧ wh = nI j) ∨ (k = 40 ∧ kd = 6)
def tI (M N : eg_H) (n e : Nat) : Prop := (M.1 (9, 0) 1 = nI n ∧ N.1 (60, 0) 6 = nI n ∧ n ≤ 800) ∧ (M.1 (9, 0) 3 = nI e ∧ N.1 (60, 0) 7 = nI e ∧ e ≤ n) ∧ (∀ i, i < n → bR (M.1 (50, 0) i) (N.1 (61, 0) i)) ∧ ∀ i, i < 121 → N.1 (64, 0) i = wdM i
def tO (M N : eg_H) (n e : Nat) (M1 N1 : eg_H) : Prop := ((∀ r, r ≠ (9, 0) → M1.1 r = M.1 r) ∧ M1.2 = M.2 ∧ M1.1 (9, 0) 1 = M.1 (9, 0) 1) ∧ ((∀ r, r ≠ (60, 0) → N1.1 r = N.1 r) ∧ N1.2 = N.2 ∧ ∀ k, k < 7 ∨ 10 < k → N1.1 (60, 0) k = N.1 (60, 0) k) ∧ ∃ a e1, e ≤ a ∧ a ≤ e1 ∧ e1 ≤ n ∧ M1.1 (9, 0) 2 = nI a ∧ N1.1 (60, 0) 10 = nI a ∧ M1.1 (9, 0) 3 = nI e1 ∧ N1.1 (60, 0) 7 = nI e1 ∧ tkR (M1.1 (9, 0) 4) (M1.1 (9, 0) 5) (M1.1 (9, 0) 6) (N1.1 (60, 0) 8) (N1.1 (60, 0) 9) ∧ ((M1.1 (9, 0) 4 = 39 ∧ a = n) ∨ (¬ M1.1 (9, 0) 4 = 39 ∧ a < e1))
section
variable {M N : eg_H} {n e : Nat}
/-- the class goes over the blanks -/
theorem adv_41 {κ : eg_K} {d : Nat} {post : eg_H → Prop} (h1 : M.1 (9, 0) 1 = nI n) (hn : n ≤ 800) (h3 : M.1 (9, 0) 3 = nI e) {q : Nat} (hq : e ≤ q ∧ q ≤ n) (hb : ∀ i, e ≤ i → i < q → M.1 (50, 0) i = 10 ∨ M.1 (50, 0) i = 32) (hs : q = n ∨ (q < n ∧ ¬ (M.1 (50, 0) q = 10 ∨ M.1 (50, 0) q = 32))) (k : eg_W κ gC mtX9_advance d (eQV κ gC post) 41 [(0, vR (9, 0)), (1, vI (nI q))] [] M) : eg_W κ gC mtX9_advance d (eQV κ gC post) 0 [(0, vR (9, 0))] [] M := by
  have key : ∀ m i, i + m = q → e ≤ i → eg_W κ gC mtX9_advance d (eQV κ gC post) 5 [(0, vR (9, 0)), (1, vI (nI i))] [] M := by
    intro m
    induction m with
    | zero =>
      intro i hi he
      have ei : i = q := by omega
      subst ei
      refine vX9_advance_5 M _ ?_
      rw [h1]
      rcases hs with hs | ⟨hs, hs2⟩
      · exact ⟨fun _ => k, fun c => absurd (nI_le (by omega) (by omega)) c⟩
      · rw [nI_t (by omega)]
        refine ⟨fun c => absurd c (nI_ge hs (by omega)), fun _ => ⟨nI_in' (by omega) (by omega), fun c => absurd (Or.inl c) hs2, fun c => ⟨fun _ => k, fun c2 => absurd (Or.inr c2) hs2⟩⟩⟩
    | succ m ih =>
      intro i hi he
      refine vX9_advance_5 M _ ?_
      rw [h1, nI_t (by omega)]
      refine ⟨fun c => absurd c (nI_ge (by omega) (by omega)), fun _ => ⟨nI_in' (by omega) (by omega), fun c x4 e4 => ?_, fun c => ⟨fun c2 => ?_, fun c2 x6 e6 => ?_⟩⟩⟩
      · rw [e4, nI_1]; exact ih (i + 1) (by omega) (by omega)
      · rcases hb i he (by omega) with q1 | q1
        · exact absurd q1 c
        · exact absurd q1 c2
      · rw [e6, nI_1]; exact ih (i + 1) (by omega) (by omega)
  refine vX9_advance_0 M (fun x1 e1 => ?_)
  rw [e1, h3]
  exact key (q - e) e (by omega) (by omega)
/-- the model goes over the blanks -/
theorem tok_52 {κ : eg_K} {d : Nat} {post : eg_H → Prop} (h6 : N.1 (60, 0) 6 = nI n) (hn : n ≤ 800) (h7 : N.1 (60, 0) 7 = nI e) {q : Nat} (hq : e ≤ q ∧ q ≤ n) (hb : ∀ i, e ≤ i → i < q → N.1 (61, 0) i = 10 ∨ N.1 (61, 0) i = 32) (hs : q = n ∨ (q < n ∧ ¬ (N.1 (61, 0) q = 10 ∨ N.1 (61, 0) q = 32))) (k : eg_W κ gM mtX11_token d (eQV κ gM post) 52 [(0, vR (60, 0))] [] (sI N (60, 0) 7 (nI q))) : eg_W κ gM mtX11_token d (eQV κ gM post) 0 [(0, vR (60, 0))] [] N := by
  have key : ∀ m i, i + m = q → e ≤ i → eg_W κ gM mtX11_token d (eQV κ gM post) 0 [(0, vR (60, 0))] [] (sI N (60, 0) 7 (nI i)) := by
    intro m
    induction m with
    | zero =>
      intro i hi he
      have ei : i = q := by omega
      subst ei
      refine vX11_token_0 _ ?_
      rw [sI_60, if_neg (by decide), sI_60, if_pos rfl, h6, sI_ne (by decide)]
      rcases hs with hs | ⟨hs, hs2⟩
      · exact ⟨fun _ => k, fun c => absurd (nI_le (by omega) (by omega)) c⟩
      · rw [nI_t (by omega)]
        refine ⟨fun c => absurd c (nI_ge hs (by omega)), fun _ => ⟨nI_in' (by omega) (by omega), fun c => absurd (Or.inl c) hs2, fun c => ⟨fun _ => k, fun c2 => absurd (Or.inr c2) hs2⟩⟩⟩
    | succ m ih =>
      intro i hi he
      refine vX11_token_0 _ ?_
      rw [sI_60, if_neg (by decide), sI_60, if_pos rfl, h6, sI_ne (by decide), nI_t (by omega), nI_1, sI_sI]
      refine ⟨fun c => absurd c (nI_ge (by omega) (by omega)), fun _ => ⟨nI_in' (by omega) (by omega), fun c M4 e4 => ?_, fun c => ⟨fun c2 => ?_, fun c2 M6 e6 => ?_⟩⟩⟩
      · rw [e4]; exact ih (i + 1) (by omega) (by omega)
      · rcases hb i he (by omega) with q1 | q1
        · exact absurd q1 c
        · exact absurd q1 c2
      · rw [e6]; exact ih (i + 1) (by omega) (by omega)
  have k0 := key (q - e) e (by omega) (by omega)
  rw [sI_same h7] at k0
  exact k0
end
theorem isSm_n (N : eg_H) {n i : Nat} (h6 : N.1 (60, 0) 6 = nI n) (hn : n ≤ 800) (hi : i ≤ n) : gX11_isSmall N (nI i) ∧ ((i < n ∧ ¬ N.1 (61, 0) i < 97 ∧ ¬ 122 < N.1 (61, 0) i) → fX11_isSmall N (nI i) = 1) ∧ (¬ (i < n ∧ ¬ N.1 (61, 0) i < 97 ∧ ¬ 122 < N.1 (61, 0) i) → fX11_isSmall N (nI i) = 0) := by
  unfold gX11_isSmall fX11_isSmall
  rw [h6, nI_t (by omega)]
  by_cases c : i < n
  · rw [if_neg (nI_ge c (by omega))]
    refine ⟨?_, fun h => by rw [if_neg h.2.1, if_neg h.2.2], fun h => ?_⟩
    · intros; exact nI_in' (by omega) (by omega)
    · by_cases c1 : N.1 (61, 0) i < 97
      · rw [if_pos c1]
      · rw [if_neg c1, if_pos (Classical.byContradiction (fun z => h ⟨c, c1, z⟩))]
  · rw [if_pos (nI_le (by omega) (by omega))]
    refine ⟨?_, fun h => absurd h.1 c, fun _ => rfl⟩
    intro q
    exact absurd (nI_le (by omega) (by omega)) q
theorem isDi_n (N : eg_H) {n i : Nat} (h6 : N.1 (60, 0) 6 = nI n) (hn : n ≤ 800) (hi : i ≤ n) : gX11_isDigit N (nI i) ∧ ((i < n ∧ ¬ N.1 (61, 0) i < 48 ∧ ¬ 57 < N.1 (61, 0) i) → fX11_isDigit N (nI i) = 1) ∧ (¬ (i < n ∧ ¬ N.1 (61, 0) i < 48 ∧ ¬ 57 < N.1 (61, 0) i) → fX11_isDigit N (nI i) = 0) := by
  unfold gX11_isDigit fX11_isDigit
  rw [h6, nI_t (by omega)]
  by_cases c : i < n
  · rw [if_neg (nI_ge c (by omega))]
    refine ⟨?_, fun h => by rw [if_neg h.2.1, if_neg h.2.2], fun h => ?_⟩
    · intros; exact nI_in' (by omega) (by omega)
    · by_cases c1 : N.1 (61, 0) i < 48
      · rw [if_pos c1]
      · rw [if_neg c1, if_pos (Classical.byContradiction (fun z => h ⟨c, c1, z⟩))]
  · rw [if_pos (nI_le (by omega) (by omega))]
    refine ⟨?_, fun h => absurd h.1 c, fun _ => rfl⟩
    intro q
    exact absurd (nI_le (by omega) (by omega)) q
