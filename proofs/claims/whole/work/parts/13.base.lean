/-! NUMBERS AND LOOPS -/
theorem eg_lit (n : Nat) : (OfNat.ofNat n : Int32) = nI n := rfl
theorem eg_m1 : (-1 : Int32) = -nI 1 := rfl
theorem eg_dn {P : Nat → Prop} {n : Nat} (h : ∀ i, i < n → P (i + 1) → P i) (hn : P n) : ∀ k, k ≤ n → P (n - k)
  | 0, _ => hn
  | k + 1, hk => by
    have ih := eg_dn h hn k (by omega)
    have e : n - k = (n - (k + 1)) + 1 := by omega
    rw [e] at ih
    exact h _ (by omega) ih
theorem eg_down {P : Nat → Prop} (n : Nat) (h : ∀ i, i < n → P (i + 1) → P i) (hn : P n) : P 0 := by
  have := eg_dn h hn n (Nat.le_refl _)
  rwa [Nat.sub_self] at this
theorem nI_t {n : Nat} (h : n < 2147483648) : (nI n).toNatClampNeg = n := nI_clamp (by omega)
theorem nI_in' {n N : Nat} (h : n < N) (hN : N < 2147483648) : vp_in (nI n) N := vp_in_nI h (by omega)
theorem nI_le' {a b : Nat} (ha : a < 2147483648) (hb : b < 2147483648) : nI a ≤ nI b ↔ a ≤ b := nI_leI (by omega) (by omega)
theorem nI_lt' {a b : Nat} (ha : a < 2147483648) (hb : b < 2147483648) : nI a < nI b ↔ a < b := nI_ltI (by omega) (by omega)
theorem nI_eq' {a b : Nat} (ha : a < 2147483648) (hb : b < 2147483648) : nI a = nI b ↔ a = b := nI_eq (by omega) (by omega)
theorem nI_of' {x : Int32} {n : Nat} (h : vp_in x n) (hn : n < 2147483648) : x = nI x.toNatClampNeg ∧ x.toNatClampNeg < n := by
  obtain ⟨j, hj, e⟩ := vp_in_of h (by omega)
  subst e
  rw [nI_t (by omega)]
  exact ⟨rfl, hj⟩
theorem nI_ne_m1 {n : Nat} (h : n < 2147483648) : ¬ nI n = -1 := by
  intro e
  have h1 := congrArg Int32.toInt e
  rw [nI_toInt (by omega)] at h1
  have h2 : (-1 : Int32).toInt = -1 := by decide
  omega
theorem nI_0' : (0 : Int32) = nI 0 := rfl
/-- sums of a row of ints -/
def sm (f : Nat → Int32) : Nat → Int32
  | 0 => 0
  | k + 1 => sm f k + f k
theorem sm_cong {f g : Nat → Int32} : ∀ {n : Nat}, (∀ k, k < n → f k = g k) → sm f n = sm g n
  | 0, _ => rfl
  | n + 1, h => by
    show sm f n + f n = sm g n + g n
    rw [sm_cong (fun k hk => h k (by omega)), h n (by omega)]
/-- the first place below n with p, -1 without -/
def fst1 (p : Nat → Bool) : Nat → Nat → Int32
  | _, 0 => -1
  | k, n + 1 => if p k then nI k else fst1 p (k + 1) n
theorem fst1_cong {p q : Nat → Bool} : ∀ (n k : Nat), (∀ j, k ≤ j → j < k + n → p j = q j) → fst1 p k n = fst1 q k n
  | 0, _, _ => rfl
  | n + 1, k, h => by
    show (if p k then nI k else fst1 p (k + 1) n) = if q k then nI k else fst1 q (k + 1) n
    rw [h k (by omega) (by omega), fst1_cong n (k + 1) (fun j h1 h2 => h j (by omega) (by omega))]
/-- a heap carried through n rounds -/
def itr {α : Type} (f : Nat → α → α) : Nat → α → α
  | 0, x => x
  | k + 1, x => f k (itr f k x)
theorem itr_cong {α : Type} {f g : Nat → α → α} {x : α} : ∀ {n : Nat}, (∀ k y, k < n → f k y = g k y) → itr f n x = itr g n x
  | 0, _ => rfl
  | n + 1, h => by
    show f n (itr f n x) = g n (itr g n x)
    rw [itr_cong (fun k y hk => h k y (by omega)), h n _ (by omega)]
theorem itr_inv {α : Type} {f : Nat → α → α} {P : Nat → α → Prop} {x : α} (h0 : P 0 x) : ∀ {n : Nat}, (∀ k y, k < n → P k y → P (k + 1) (f k y)) → P n (itr f n x)
  | 0, _ => h0
  | n + 1, h => h n _ (by omega) (itr_inv h0 (fun k y hk => h k y (by omega)))
/-! reads of writes -/
theorem sI_i {M : eg_H} {r z : eg_R} {k j : Nat} {x : Int32} : (sI M r k x).1 z j = if z = r ∧ j = k then x else M.1 z j := rfl
theorem sI_l {M : eg_H} {r : eg_R} {k : Nat} {x : Int32} : (sI M r k x).2.1 = M.2.1 := rfl
theorem sI_r {M : eg_H} {r : eg_R} {k : Nat} {x : Int32} : (sI M r k x).2.2 = M.2.2 := rfl
theorem sL_i {M : eg_H} {r : eg_R} {k : Nat} {x : Int64} : (sL M r k x).1 = M.1 := rfl
theorem sL_r {M : eg_H} {r : eg_R} {k : Nat} {x : Int64} : (sL M r k x).2.2 = M.2.2 := rfl
theorem eg_ext {M N : eg_H} (h1 : ∀ r j, M.1 r j = N.1 r j) (h2 : ∀ r j, M.2.1 r j = N.2.1 r j) (h3 : ∀ r j, M.2.2 r j = N.2.2 r j) : M = N := by
  obtain ⟨a, b, c⟩ := M
  obtain ⟨a2, b2, c2⟩ := N
  have e1 : a = a2 := funext fun r => funext fun j => h1 r j
  have e2 : b = b2 := funext fun r => funext fun j => h2 r j
  have e3 : c = c2 := funext fun r => funext fun j => h3 r j
  rw [e1, e2, e3]
theorem nAl (a : Nat) : (nI a + (0 : Int32) = nI (a + 0)) ∧ (nI a + (1 : Int32) = nI (a + 1)) ∧ (nI a + (2 : Int32) = nI (a + 2)) ∧ (nI a + (3 : Int32) = nI (a + 3)) ∧ (nI a + (4 : Int32) = nI (a + 4)) ∧ (nI a + (5 : Int32) = nI (a + 5)) ∧ (nI a + (6 : Int32) = nI (a + 6)) ∧ (nI a + (7 : Int32) = nI (a + 7)) ∧ (nI a + (8 : Int32) = nI (a + 8)) ∧ (nI a + (9 : Int32) = nI (a + 9)) ∧ (nI a + (10 : Int32) = nI (a + 10)) ∧ (nI a + (11 : Int32) = nI (a + 11)) ∧ (nI a + (12 : Int32) = nI (a + 12)) ∧ (nI a + (13 : Int32) = nI (a + 13)) ∧ (nI a + (14 : Int32) = nI (a + 14)) ∧ (nI a + (15 : Int32) = nI (a + 15)) ∧ (nI a + (16 : Int32) = nI (a + 16)) ∧ (nI a + (20 : Int32) = nI (a + 20)) ∧ (nI a + (30 : Int32) = nI (a + 30)) ∧ (nI a + (32 : Int32) = nI (a + 32)) ∧ (nI a + (75 : Int32) = nI (a + 75)) ∧ (nI a + (96 : Int32) = nI (a + 96)) ∧ (nI a + (320 : Int32) = nI (a + 320)) ∧ (nI a + (360 : Int32) = nI (a + 360)) ∧ (nI a + (366 : Int32) = nI (a + 366)) := ⟨nI_add a 0, nI_add a 1, nI_add a 2, nI_add a 3, nI_add a 4, nI_add a 5, nI_add a 6, nI_add a 7, nI_add a 8, nI_add a 9, nI_add a 10, nI_add a 11, nI_add a 12, nI_add a 13, nI_add a 14, nI_add a 15, nI_add a 16, nI_add a 20, nI_add a 30, nI_add a 32, nI_add a 75, nI_add a 96, nI_add a 320, nI_add a 360, nI_add a 366⟩
theorem nAr (a : Nat) : ((0 : Int32) + nI a = nI (0 + a)) ∧ ((1 : Int32) + nI a = nI (1 + a)) ∧ ((2 : Int32) + nI a = nI (2 + a)) ∧ ((3 : Int32) + nI a = nI (3 + a)) ∧ ((4 : Int32) + nI a = nI (4 + a)) ∧ ((5 : Int32) + nI a = nI (5 + a)) ∧ ((6 : Int32) + nI a = nI (6 + a)) ∧ ((7 : Int32) + nI a = nI (7 + a)) ∧ ((8 : Int32) + nI a = nI (8 + a)) ∧ ((9 : Int32) + nI a = nI (9 + a)) ∧ ((10 : Int32) + nI a = nI (10 + a)) ∧ ((11 : Int32) + nI a = nI (11 + a)) ∧ ((12 : Int32) + nI a = nI (12 + a)) ∧ ((13 : Int32) + nI a = nI (13 + a)) ∧ ((14 : Int32) + nI a = nI (14 + a)) ∧ ((15 : Int32) + nI a = nI (15 + a)) ∧ ((16 : Int32) + nI a = nI (16 + a)) ∧ ((20 : Int32) + nI a = nI (20 + a)) ∧ ((30 : Int32) + nI a = nI (30 + a)) ∧ ((32 : Int32) + nI a = nI (32 + a)) ∧ ((75 : Int32) + nI a = nI (75 + a)) ∧ ((96 : Int32) + nI a = nI (96 + a)) ∧ ((320 : Int32) + nI a = nI (320 + a)) ∧ ((360 : Int32) + nI a = nI (360 + a)) ∧ ((366 : Int32) + nI a = nI (366 + a)) := ⟨nI_add 0 a, nI_add 1 a, nI_add 2 a, nI_add 3 a, nI_add 4 a, nI_add 5 a, nI_add 6 a, nI_add 7 a, nI_add 8 a, nI_add 9 a, nI_add 10 a, nI_add 11 a, nI_add 12 a, nI_add 13 a, nI_add 14 a, nI_add 15 a, nI_add 16 a, nI_add 20 a, nI_add 30 a, nI_add 32 a, nI_add 75 a, nI_add 96 a, nI_add 320 a, nI_add 360 a, nI_add 366 a⟩
theorem nMl (a : Nat) : ((5 : Int32) * nI a = nI (5 * a)) ∧ ((6 : Int32) * nI a = nI (6 * a)) ∧ ((8 : Int32) * nI a = nI (8 * a)) ∧ ((20 : Int32) * nI a = nI (20 * a)) ∧ ((366 : Int32) * nI a = nI (366 * a)) := ⟨pk_mul 5 a, pk_mul 6 a, pk_mul 8 a, pk_mul 20 a, pk_mul 366 a⟩
theorem at_n (M : eg_H) (g : Nat) : fX11_at M (nI g) = nI (20 + 20 * g) := by
  unfold fX11_at
  simp only [nMl, nAr]
theorem pan_n (M : eg_H) (g : Nat) : fX11_pan M (nI g) = nI (320 + 8 * g) := by
  unfold fX11_pan
  simp only [nMl, nAr]
/-- a row laid anew -/
def sW (M : eg_H) (r : eg_R) (f : Nat → Int32) : eg_H := (fun z => if z = r then f else M.1 z, M.2.1, M.2.2)
theorem sW_at (M : eg_H) (r : eg_R) (f : Nat → Int32) : (sW M r f).1 r = f := if_pos rfl
theorem sW_ne (M : eg_H) {r z : eg_R} (f : Nat → Int32) (h : z ≠ r) : (sW M r f).1 z = M.1 z := if_neg h
theorem sW_l (M : eg_H) (r : eg_R) (f : Nat → Int32) : (sW M r f).2 = M.2 := rfl
theorem sW_self (M : eg_H) (r : eg_R) : sW M r (M.1 r) = M := by
  obtain ⟨a, b⟩ := M
  show ((fun z => if z = r then a r else a z), b) = (a, b)
  congr 1
  funext z
  by_cases h : z = r
  · rw [if_pos h, h]
  · rw [if_neg h]
theorem sW_sW (M : eg_H) (r : eg_R) (f g : Nat → Int32) : sW (sW M r f) r g = sW M r g := by
  unfold sW
  congr 1
  funext z
  by_cases h : z = r
  · rw [if_pos h, if_pos h]
  · rw [if_neg h, if_neg h]; exact if_neg h
theorem sI_sW (M : eg_H) (r : eg_R) (f : Nat → Int32) (k : Nat) (x : Int32) : sI (sW M r f) r k x = sW M r (upd f k x) := by
  unfold sW sI
  congr 1
  funext z j
  by_cases h : z = r
  · simp only [h, if_true, true_and]; rfl
  · simp only [h, if_false, false_and]
theorem sI_eq (M : eg_H) (r : eg_R) (k : Nat) (x : Int32) : sI M r k x = sW M r (upd (M.1 r) k x) := by
  have := sI_sW M r (M.1 r) k x
  rwa [sW_self] at this
theorem sW_comm (M : eg_H) {a b : eg_R} (f g : Nat → Int32) (h : a ≠ b) : sW (sW M a f) b g = sW (sW M b g) a f := by
  unfold sW
  congr 1
  funext z
  by_cases h1 : z = a
  · have h2 : ¬ z = b := fun e => h (h1.symm.trans e)
    simp only [h1, if_true]
    rw [if_neg (by rw [← h1]; exact h2)]
  · by_cases h2 : z = b
    · simp only [h2, if_true]; rw [if_neg (fun e => h e.symm)]
    · simp only [h1, h2, if_false]
theorem eg_findk {P : Nat → Prop} {p : Nat → Bool} {R : Int32 → Prop} (n : Nat) (hs : ∀ i, i < n → (p i = true → R (nI i) → P i) ∧ (p i = false → P (i + 1) → P i)) (B : Nat) (hB : n ≤ B) (hn : ∀ i, n ≤ i → i ≤ B → R (-1) → P i) : ∀ k i, k = n - i → i ≤ B → R (fst1 p i k) → P i := by
  intro k
  induction k with
  | zero =>
    intro i hi hb hR
    exact hn i (by omega) hb hR
  | succ k ih =>
    intro i hi hb hR
    by_cases hp : p i = true
    · have e : fst1 p i (k + 1) = nI i := by show (if p i then nI i else _) = _; rw [if_pos hp]
      rw [e] at hR
      exact (hs i (by omega)).1 hp hR
    · have e : fst1 p i (k + 1) = fst1 p (i + 1) k := by show (if p i then nI i else _) = _; rw [if_neg hp]
      rw [e] at hR
      exact (hs i (by omega)).2 (by simpa using hp) (ih (i + 1) (by omega) (by omega) hR)
theorem nI_in2 {n N : Nat} (h : n < N) (hn : n < 2147483648) : vp_in (nI n) N := by
  intro q
  rcases q with q | q
  · exact nI_pos (n := n) (by omega) q
  · rw [nI_t hn] at q; omega
/-- a row laid up to i -/
def cpT (f g : Nat → Int32) (i : Nat) : Nat → Int32 := fun j => if j < i then f j else g j
theorem cpT_s (f g : Nat → Int32) (i : Nat) : upd (cpT f g i) i (f i) = cpT f g (i + 1) := by
  funext j
  unfold upd cpT
  by_cases hj : j = i
  · rw [if_pos hj, if_pos (by omega), hj]
  · rw [if_neg hj]
    by_cases h4 : j < i
    · rw [if_pos h4, if_pos (by omega)]
    · rw [if_neg h4, if_neg (by omega)]
theorem cpT_0 (f g : Nat → Int32) : cpT f g 0 = g := by
  funext j
  exact if_neg (by omega)
theorem cpT_lt {f g : Nat → Int32} {i j : Nat} (h : j < i) : cpT f g i j = f j := if_pos h
theorem cpT_ge {f g : Nat → Int32} {i j : Nat} (h : i ≤ j) : cpT f g i j = g j := if_neg (by omega)
