/-! NUMBERS AND LOOPS -/
theorem eg_lit (n : Nat) : (OfNat.ofNat n : Int32) = nI n := rfl
theorem eg_m1 : (-1 : Int32) = -nI 1 := rfl
theorem eg_dn {P : Nat → Prop} {n : Nat} (h : ∀ i, i < n → P (i + 1) → P i) (hn : P n) : ∀ k, k ≤ n → P (n - k)
  | 0, _ => hn
  | k + 1, hk => by
    have ih := eg_dn h hn k (by omega)
    have e : n - k = (n - (k + 1)) + 1 := by omega
    rw [e] at ih
    exact h _ (by omega) ih
theorem eg_down {P : Nat → Prop} (n : Nat) (h : ∀ i, i < n → P (i + 1) → P i) (hn : P n) : P 0 := by
  have := eg_dn h hn n (Nat.le_refl _)
  rwa [Nat.sub_self] at this
theorem nI_t {n : Nat} (h : n < 2147483648) : (nI n).toNatClampNeg = n := nI_clamp (by omega)
theorem nI_in' {n N : Nat} (h : n < N) (hN : N < 2147483648) : vp_in (nI n) N := vp_in_nI h (by omega)
theorem nI_le' {a b : Nat} (ha : a < 2147483648) (hb : b < 2147483648) : nI a ≤ nI b ↔ a ≤ b := nI_leI (by omega) (by omega)
theorem nI_lt' {a b : Nat} (ha : a < 2147483648) (hb : b < 2147483648) : nI a < nI b ↔ a < b := nI_ltI (by omega) (by omega)
theorem nI_eq' {a b : Nat} (ha : a < 2147483648) (hb : b < 2147483648) : nI a = nI b ↔ a = b := nI_eq (by omega) (by omega)
theorem nI_of' {x : Int32} {n : Nat} (h : vp_in x n) (hn : n < 2147483648) : x = nI x.toNatClampNeg ∧ x.toNatClampNeg < n := by
  obtain ⟨j, hj, e⟩ := vp_in_of h (by omega)
  subst e
  rw [nI_t (by omega)]
  exact ⟨rfl, hj⟩
theorem nI_ne_m1 {n : Nat} (h : n < 2147483648) : ¬ nI n = -1 := by
  intro e
  have h1 := congrArg Int32.toInt e
  rw [nI_toInt (by omega)] at h1
  have h2 : (-1 : Int32).toInt = -1 := by decide
  omega
theorem nI_0' : (0 : Int32) = nI 0 := rfl
/-- sums of a row of ints -/
def sm (f : Nat → Int32) : Nat → Int32
  | 0 => 0
  | k + 1 => sm f k + f k
theorem sm_cong {f g : Nat → Int32} : ∀ {n : Nat}, (∀ k, k < n → f k = g k) → sm f n = sm g n
  | 0, _ => rfl
  | n + 1, h => by
    show sm f n + f n = sm g n + g n
    rw [sm_cong (fun k hk => h k (by omega)), h n (by omega)]
/-- the first place below n with p, -1 without -/
def fst1 (p : Nat → Bool) : Nat → Nat → Int32
  | _, 0 => -1
  | k, n + 1 => if p k then nI k else fst1 p (k + 1) n
theorem fst1_cong {p q : Nat → Bool} : ∀ (n k : Nat), (∀ j, k ≤ j → j < k + n → p j = q j) → fst1 p k n = fst1 q k n
  | 0, _, _ => rfl
  | n + 1, k, h => by
    show (if p k then nI k else fst1 p (k + 1) n) = if q k then nI k else fst1 q (k + 1) n
    rw [h k (by omega) (by omega), fst1_cong n (k + 1) (fun j h1 h2 => h j (by omega) (by omega))]
/-- a heap carried through n rounds -/
def itr {α : Type} (f : Nat → α → α) : Nat → α → α
  | 0, x => x
  | k + 1, x => f k (itr f k x)
theorem itr_cong {α : Type} {f g : Nat → α → α} {x : α} : ∀ {n : Nat}, (∀ k y, k < n → f k y = g k y) → itr f n x = itr g n x
  | 0, _ => rfl
  | n + 1, h => by
    show f n (itr f n x) = g n (itr g n x)
    rw [itr_cong (fun k y hk => h k y (by omega)), h n _ (by omega)]
theorem itr_inv {α : Type} {f : Nat → α → α} {P : Nat → α → Prop} {x : α} (h0 : P 0 x) : ∀ {n : Nat}, (∀ k y, k < n → P k y → P (k + 1) (f k y)) → P n (itr f n x)
  | 0, _ => h0
  | n + 1, h => h n _ (by omega) (itr_inv h0 (fun k y hk => h k y (by omega)))
/-! reads of writes -/
theorem sI_i {M : eg_H} {r z : eg_R} {k j : Nat} {x : Int32} : (sI M r k x).1 z j = if z = r ∧ j = k then x else M.1 z j := rfl
theorem sI_l {M : eg_H} {r : eg_R} {k : Nat} {x : Int32} : (sI M r k x).2.1 = M.2.1 := rfl
theorem sI_r {M : eg_H} {r : eg_R} {k : Nat} {x : Int32} : (sI M r k x).2.2 = M.2.2 := rfl
theorem sL_i {M : eg_H} {r : eg_R} {k : Nat} {x : Int64} : (sL M r k x).1 = M.1 := rfl
theorem sL_r {M : eg_H} {r : eg_R} {k : Nat} {x : Int64} : (sL M r k x).2.2 = M.2.2 := rfl
theorem eg_ext {M N : eg_H} (h1 : ∀ r j, M.1 r j = N.1 r j) (h2 : ∀ r j, M.2.1 r j = N.2.1 r j) (h3 : ∀ r j, M.2.2 r j = N.2.2 r j) : M = N := by
  obtain ⟨a, b, c⟩ := M
  obtain ⟨a2, b2, c2⟩ := N
  have e1 : a = a2 := funext fun r => funext fun j => h1 r j
  have e2 : b = b2 := funext fun r => funext fun j => h2 r j
  have e3 : c = c2 := funext fun r => funext fun j => h3 r j
  rw [e1, e2, e3]
