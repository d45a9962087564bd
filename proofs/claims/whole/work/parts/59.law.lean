/-! THE LAWS: the class's knots in a row, the model's by their parts -/
def bdd (x : Int64) : Prop := -1000000000000 ≤ x.toInt ∧ x.toInt ≤ 1000000000000
def opm (c k : Int32) : Prop := (c = 10014 ∧ k = 3) ∨ (c = 10013 ∧ k = 4) ∨ (c = 10028 ∧ k = 5) ∨ (c = 10029 ∧ k = 6) ∨ (c = 10030 ∧ k = 7) ∨ (c = 10031 ∧ k = 8) ∨ (c = 10032 ∧ k = 9) ∨ (c = 10033 ∧ k = 10) ∨ (c = 10024 ∧ k = 11) ∨ (c = 10025 ∧ k = 12) ∨ (c = 10026 ∧ k = 13) ∨ (c = 10027 ∧ k = 14)
def stp (kc km pt ot : Nat → Int32) (i : Nat) (l0 l : List Nat) : Prop :=
  (0 ≤ (kc i).toInt ∧ (kc i).toInt ≤ 9999 ∧ km i = 0 ∧ pt i = kc i ∧ l = i :: l0) ∨
  (∃ j, j < 8 ∧ kc i = nI (10016 + j) ∧ km i = 1 ∧ pt i = nI j ∧ l = i :: l0) ∨
  (kc i = 10015 ∧ km i = 2 ∧ ∃ x l1, l0 = x :: l1 ∧ pt i = nI x ∧ l = i :: l1) ∨
  (opm (kc i) (km i) ∧ ∃ y x l1, l0 = y :: x :: l1 ∧ pt i = nI x ∧ ot i = nI y ∧ l = i :: l1)
/-- behind n knots from a on the values of l stand there -/
def skF (kc km pt ot : Nat → Int32) (a : Nat) : Nat → List Nat → Prop
  | 0, l => l = []
  | n + 1, l => ∃ l0, skF kc km pt ot a n l0 ∧ stp kc km pt ot (a + n) l0 l
theorem skF_s {kc km pt ot : Nat → Int32} {a n : Nat} {l : List Nat} (h : skF kc km pt ot a (n + 1) l) : ∃ l0, skF kc km pt ot a n l0 ∧ stp kc km pt ot (a + n) l0 l := h
theorem skF_in {kc km pt ot : Nat → Int32} {a : Nat} : ∀ {n : Nat} {l : List Nat}, skF kc km pt ot a n l → (∀ x ∈ l, a ≤ x ∧ x < a + n) ∧ l.length ≤ n := by
  intro n
  induction n with
  | zero =>
    intro l h
    have : l = [] := h
    subst this
    exact ⟨fun x hx => absurd hx List.not_mem_nil, Nat.le_refl _⟩
  | succ n ih =>
    intro l h
    obtain ⟨l0, h0, hs⟩ := skF_s h
    obtain ⟨i1, i2⟩ := ih h0
    have key : ∀ l1 : List Nat, (∀ x ∈ l1, x ∈ l0) → l1.length ≤ l0.length → l = (a + n) :: l1 → (∀ x ∈ l, a ≤ x ∧ x < a + (n + 1)) ∧ l.length ≤ n + 1 := by
      intro l1 h1 h2 e
      subst e
      refine ⟨fun x hx => ?_, ?_⟩
      · rcases List.mem_cons.mp hx with q | q
        · subst q; omega
        · have := i1 x (h1 x q); omega
      · rw [List.length_cons]; omega
    rcases hs with q | ⟨j, _, _, _, _, q⟩ | ⟨_, _, x, l1, e, _, q⟩ | ⟨_, y, x, l1, e, _, _, q⟩
    · exact key l0 (fun _ h => h) (Nat.le_refl _) q.2.2.2.2
    · exact key l0 (fun _ h => h) (Nat.le_refl _) q
    · exact key l1 (fun z hz => by rw [e]; exact List.mem_cons_of_mem _ hz) (by rw [e, List.length_cons]; omega) q
    · exact key l1 (fun z hz => by rw [e]; exact List.mem_cons_of_mem _ (List.mem_cons_of_mem _ hz)) (by rw [e, List.length_cons, List.length_cons]; omega) q
theorem bd01 {x : Int64} (h : x = 0 ∨ x = 1) : bdd x ∧ ¬ lg_cmp x mnL = 0 := by
  rcases h with rfl | rfl
  · exact ⟨by unfold bdd; decide, by decide⟩
  · exact ⟨by unfold bdd; decide, by decide⟩
theorem bd_m {x : Int64} (h : bdd x) : ¬ lg_cmp x mnL = 0 := by
  rw [lgE]
  intro e
  subst e
  have : mnL.toInt = -9223372036854775808 := by decide
  unfold bdd at h
  omega
theorem bndE_0 (x : Int64) : bndE 0 x = if 0 < lg_cmp x 1000000000000 then 1 else if 0 ≤ lg_cmp x (-1000000000000) then 0 else 1 := by
  unfold bndE
  rw [if_neg (by decide : ¬ ¬ (0 : Int32) = 0)]
theorem mulE_0 (a b : Int64) : mulE 0 a b = if mulB a b = true then 1 else 0 := by
  unfold mulE
  rw [if_neg (by decide : ¬ ¬ (0 : Int32) = 0)]
theorem divE_0 (b : Int64) : divE 0 b = if ¬ lg_cmp b 0 = 0 then 0 else 1 := by
  unfold divE
  rw [if_neg (by decide : ¬ ¬ (0 : Int32) = 0)]
theorem bd_R (x : Int64) : (bdC x = mnL ∧ bndE 0 x = 1) ∨ (bdC x = x ∧ bndE 0 x = 0 ∧ bdd x) := by
  have b1 : (1000000000000 : Int64).toInt = 1000000000000 := by decide
  have b2 : (-1000000000000 : Int64).toInt = -1000000000000 := by decide
  rw [bndE_0]
  unfold bdC
  by_cases c : 0 < lg_cmp x 1000000000000
  · rw [if_pos c, if_pos c]; exact Or.inl ⟨rfl, rfl⟩
  · rw [if_neg c, if_neg c]
    by_cases c2 : 0 ≤ lg_cmp x (-1000000000000)
    · rw [if_pos c2, if_pos c2]
      refine Or.inr ⟨rfl, rfl, ?_⟩
      rw [lg_cmp_gt, Int64.lt_iff_toInt_lt, b1] at c
      rw [lg_cmp_ge, Int64.le_iff_toInt_le, b2] at c2
      unfold bdd
      omega
    · rw [if_neg c2, if_neg c2]; exact Or.inl ⟨rfl, rfl⟩
theorem bdC_id {x : Int64} (h : bdd x) : bdC x = x := by
  have b1 : (1000000000000 : Int64).toInt = 1000000000000 := by decide
  have b2 : (-1000000000000 : Int64).toInt = -1000000000000 := by decide
  unfold bdd at h
  unfold bdC
  rw [if_neg, if_pos]
  · rw [lg_cmp_ge, Int64.le_iff_toInt_le, b2]; omega
  · rw [lg_cmp_gt, Int64.lt_iff_toInt_lt, b1]; omega
theorem ab_I {a : Int64} (h : bdd a) : (if 0 ≤ lg_cmp a 0 then a else -a).toInt = (a.toInt.natAbs : Int) := by
  unfold bdd at h
  by_cases c : 0 ≤ lg_cmp a 0
  · rw [if_pos c]
    rw [lg_cmp_ge, Int64.le_iff_toInt_le, i64_0] at c
    omega
  · rw [if_neg c]
    rw [lg_cmp_ge, Int64.le_iff_toInt_le, i64_0] at c
    rw [Int64.toInt_neg, Int.bmod_eq_of_le (by omega) (by omega)]
    omega
theorem dv_I {a : Int64} (h : bdd a) (h0 : ¬ a = 0) : (1000000000000 / (if 0 ≤ lg_cmp a 0 then a else -a) : Int64).toInt = ((1000000000000 / a.toInt.natAbs : Nat) : Int) := by
  rw [Int64.toInt_div_of_ne_left _ _ (by decide), ab_I h, show (1000000000000 : Int64).toInt = ((1000000000000 : Nat) : Int) by decide]
  rfl
theorem mb_R {a b : Int64} (ha : bdd a) (hb : bdd b) : (mbC a b = true ∧ mulB a b = true) ∨ (mbC a b = false ∧ mulB a b = false ∧ bdd (a * b)) := by
  unfold mbC mulB
  by_cases a0 : lg_cmp a 0 = 0
  · have e : a = 0 := (lg0 a).mp a0
    subst e
    right
    refine ⟨by simp [a0], by simp [a0], ?_⟩
    rw [Int64.zero_mul]
    exact (bd01 (Or.inl rfl)).1
  · have ane : ¬ a = 0 := fun q => a0 ((lg0 a).mpr q)
    have anz : a.toInt ≠ 0 := fun q => ane (Int64.toInt_inj.mp (q.trans i64_0.symm))
    have hA : 0 < a.toInt.natAbs := by omega
    have e1 : lg_cmp (if 0 ≤ lg_cmp b 0 then b else -b) (1000000000000 / (if 0 ≤ lg_cmp a 0 then a else -a)) ≤ 0 ↔ b.toInt.natAbs ≤ 1000000000000 / a.toInt.natAbs := by
      rw [lg_cmp_le, Int64.le_iff_toInt_le, ab_I hb, dv_I ha ane]
      omega
    have e2 : 0 < lg_cmp (if 0 ≤ lg_cmp b 0 then b else -b) (1000000000000 / (if 0 ≤ lg_cmp a 0 then a else -a)) ↔ ¬ b.toInt.natAbs ≤ 1000000000000 / a.toInt.natAbs := by
      rw [lg_cmp_gt, Int64.lt_iff_toInt_lt, ab_I hb, dv_I ha ane]
      omega
    by_cases c : b.toInt.natAbs ≤ 1000000000000 / a.toInt.natAbs
    · right
      refine ⟨by simp [a0, e1.mpr c], ?_, ?_⟩
      · have : ¬ 0 < lg_cmp (if 0 ≤ lg_cmp b 0 then b else -b) (1000000000000 / (if 0 ≤ lg_cmp a 0 then a else -a)) := fun q => (e2.mp q) c
        rw [decide_eq_false this]
        simp
      · have hm : a.toInt.natAbs * b.toInt.natAbs ≤ 1000000000000 := Nat.le_trans (Nat.mul_le_mul_left _ c) (Nat.mul_div_le _ _)
        rw [← Int.natAbs_mul] at hm
        have hm2 : -1000000000000 ≤ a.toInt * b.toInt ∧ a.toInt * b.toInt ≤ 1000000000000 := by
          generalize a.toInt * b.toInt = q at hm
          omega
        unfold bdd
        rw [Int64.toInt_mul, Int.bmod_eq_of_le (by omega) (by omega)]
        exact hm2
    · left
      have b0 : ¬ lg_cmp b 0 = 0 := by
        intro q
        have : b = 0 := (lg0 b).mp q
        subst this
        apply c
        rw [i64_0]
        exact Nat.zero_le _
      refine ⟨?_, ?_⟩
      · rw [decide_eq_false a0, decide_eq_false (fun q => c (e1.mp q))]; rfl
      · rw [decide_eq_false a0, decide_eq_false b0, decide_eq_true (e2.mpr c)]; rfl
theorem dvb {a b : Int64} (ha : bdd a) : bdd (a / b) := by
  have hm : a ≠ Int64.minValue := by
    intro e
    subst e
    have : Int64.minValue.toInt = -9223372036854775808 := by decide
    unfold bdd at ha
    omega
  unfold bdd at ha ⊢
  rw [Int64.toInt_div_of_ne_left _ _ hm]
  have h1 := Int.natAbs_tdiv a.toInt b.toInt
  have h2 := Nat.div_le_self a.toInt.natAbs b.toInt.natAbs
  have h3 : (a.toInt.tdiv b.toInt).natAbs ≤ a.toInt.natAbs := by rw [h1]; exact h2
  clear h1 h2
  generalize a.toInt.tdiv b.toInt = q at *
  omega
theorem if_10 {c : Prop} [Decidable c] : (if (if c then (0 : Int32) else 1) = 0 then (0 : Int64) else 1) = if c then 0 else 1 := by
  by_cases h : c
  · rw [if_pos h, if_pos h, if_pos rfl]
  · rw [if_neg h, if_neg h, if_neg (by decide)]
theorem if_bd {c : Prop} [Decidable c] : bdd (if c then (0 : Int64) else 1) := by
  by_cases h : c
  · rw [if_pos h]; exact (bd01 (Or.inl rfl)).1
  · rw [if_neg h]; exact (bd01 (Or.inr rfl)).1
theorem op_R {c k : Int32} (h : opm c k) {a b : Int64} (ha : bdd a) (hb : bdd b) : (lg_cmp (cmbC (c - 10000) a b) mnL = 0 ∧ ¬ (opP k a b 0).2 = 0) ∨ (¬ lg_cmp (cmbC (c - 10000) a b) mnL = 0 ∧ (opP k a b 0).2 = 0 ∧ cmbC (c - 10000) a b = (opP k a b 0).1 ∧ bdd (cmbC (c - 10000) a b)) := by
  have fin : ∀ x : Int64, bdd x → cmbC (c - 10000) a b = x → opP k a b 0 = (x, 0) → (lg_cmp (cmbC (c - 10000) a b) mnL = 0 ∧ ¬ (opP k a b 0).2 = 0) ∨ (¬ lg_cmp (cmbC (c - 10000) a b) mnL = 0 ∧ (opP k a b 0).2 = 0 ∧ cmbC (c - 10000) a b = (opP k a b 0).1 ∧ bdd (cmbC (c - 10000) a b)) := by
    intro x hx e1 e2
    rw [e1, e2]
    exact Or.inr ⟨bd_m hx, rfl, rfl, hx⟩
  have sumc : ∀ x : Int64, cmbC (c - 10000) a b = bdC x → opP k a b 0 = (if bndE 0 x = 0 then x else 0, bndE 0 x) → (lg_cmp (cmbC (c - 10000) a b) mnL = 0 ∧ ¬ (opP k a b 0).2 = 0) ∨ (¬ lg_cmp (cmbC (c - 10000) a b) mnL = 0 ∧ (opP k a b 0).2 = 0 ∧ cmbC (c - 10000) a b = (opP k a b 0).1 ∧ bdd (cmbC (c - 10000) a b)) := by
    intro x e1 e2
    rcases bd_R x with ⟨q1, q2⟩ | ⟨q1, q2, q3⟩
    · rw [e1, e2, q1, q2]
      exact Or.inl ⟨by decide, by show ¬ (1 : Int32) = 0; decide⟩
    · refine fin x q3 (e1.trans q1) ?_
      rw [e2, q2, if_pos rfl]
  rcases h with ⟨rfl, rfl⟩ | ⟨rfl, rfl⟩ | ⟨rfl, rfl⟩ | ⟨rfl, rfl⟩ | ⟨rfl, rfl⟩ | ⟨rfl, rfl⟩ | ⟨rfl, rfl⟩ | ⟨rfl, rfl⟩ | ⟨rfl, rfl⟩ | ⟨rfl, rfl⟩ | ⟨rfl, rfl⟩ | ⟨rfl, rfl⟩
  · refine fin (if lg_cmp a 0 = 0 then 0 else if lg_cmp b 0 = 0 then 0 else 1) ?_ ?_ ?_
    · by_cases c : lg_cmp a 0 = 0
      · rw [if_pos c]; exact (bd01 (Or.inl rfl)).1
      · rw [if_neg c]; exact if_bd
    · rw [show (10014 : Int32) - 10000 = 14 by decide, cmb_14]
    · unfold opP; rw [if_neg (by decide), if_pos rfl]
  · refine fin (if ¬ lg_cmp a 0 = 0 then 1 else if lg_cmp b 0 = 0 then 0 else 1) ?_ ?_ ?_
    · by_cases c : lg_cmp a 0 = 0
      · rw [if_neg (fun q => q c)]; exact if_bd
      · rw [if_pos c]; exact (bd01 (Or.inr rfl)).1
    · rw [show (10013 : Int32) - 10000 = 13 by decide, cmb_13]
    · unfold opP; rw [if_neg (by decide), if_neg (by decide), if_pos rfl]
  · refine fin (if 0 ≤ lg_cmp a b then 0 else 1) if_bd ?_ ?_
    · rw [show (10028 : Int32) - 10000 = 28 by decide, cmb_28]
    · have e1 : opP 5 a b 0 = (if cmpE 5 a b = 0 then 0 else 1, 0) := by unfold opP; rw [if_neg (by decide), if_neg (by decide), if_neg (by decide), if_neg (by decide), if_neg (by decide), if_neg (by decide), if_neg (by decide)]
      rw [e1]
      unfold cmpE
      rw [if_pos rfl, if_10]
  · refine fin (if 0 < lg_cmp a b then 0 else 1) if_bd ?_ ?_
    · rw [show (10029 : Int32) - 10000 = 29 by decide, cmb_29]
    · have e1 : opP 6 a b 0 = (if cmpE 6 a b = 0 then 0 else 1, 0) := by unfold opP; rw [if_neg (by decide), if_neg (by decide), if_neg (by decide), if_neg (by decide), if_neg (by decide), if_neg (by decide), if_neg (by decide)]
      rw [e1]
      unfold cmpE
      rw [if_neg (by decide : ¬ (6 : Int32) = 5), if_pos rfl, if_10]
  · refine fin (if ¬ lg_cmp a b = 0 then 0 else 1) if_bd ?_ ?_
    · rw [show (10030 : Int32) - 10000 = 30 by decide, cmb_30]
    · have e1 : opP 7 a b 0 = (if cmpE 7 a b = 0 then 0 else 1, 0) := by unfold opP; rw [if_neg (by decide), if_neg (by decide), if_neg (by decide), if_neg (by decide), if_neg (by decide), if_neg (by decide), if_neg (by decide)]
      rw [e1]
      unfold cmpE
      rw [if_neg (by decide : ¬ (7 : Int32) = 5), if_neg (by decide : ¬ (7 : Int32) = 6), if_pos rfl, if_10]
  · refine fin (if lg_cmp a b = 0 then 0 else 1) if_bd ?_ ?_
    · rw [show (10031 : Int32) - 10000 = 31 by decide, cmb_31]
    · have e1 : opP 8 a b 0 = (if cmpE 8 a b = 0 then 0 else 1, 0) := by unfold opP; rw [if_neg (by decide), if_neg (by decide), if_neg (by decide), if_neg (by decide), if_neg (by decide), if_neg (by decide), if_neg (by decide)]
      rw [e1]
      unfold cmpE
      rw [if_neg (by decide : ¬ (8 : Int32) = 5), if_neg (by decide : ¬ (8 : Int32) = 6), if_neg (by decide : ¬ (8 : Int32) = 7), if_pos rfl, if_10]
  · refine fin (if lg_cmp a b < 0 then 0 else 1) if_bd ?_ ?_
    · rw [show (10032 : Int32) - 10000 = 32 by decide, cmb_32]
    · have e1 : opP 9 a b 0 = (if cmpE 9 a b = 0 then 0 else 1, 0) := by unfold opP; rw [if_neg (by decide), if_neg (by decide), if_neg (by decide), if_neg (by decide), if_neg (by decide), if_neg (by decide), if_neg (by decide)]
      rw [e1]
      unfold cmpE
      rw [if_neg (by decide : ¬ (9 : Int32) = 5), if_neg (by decide : ¬ (9 : Int32) = 6), if_neg (by decide : ¬ (9 : Int32) = 7), if_neg (by decide : ¬ (9 : Int32) = 8), if_pos rfl, if_10]
  · refine fin (if lg_cmp a b ≤ 0 then 0 else 1) if_bd ?_ ?_
    · rw [show (10033 : Int32) - 10000 = 33 by decide, cmb_33]
    · have e1 : opP 10 a b 0 = (if cmpE 10 a b = 0 then 0 else 1, 0) := by unfold opP; rw [if_neg (by decide), if_neg (by decide), if_neg (by decide), if_neg (by decide), if_neg (by decide), if_neg (by decide), if_neg (by decide)]
      rw [e1]
      unfold cmpE
      rw [if_neg (by decide : ¬ (10 : Int32) = 5), if_neg (by decide : ¬ (10 : Int32) = 6), if_neg (by decide : ¬ (10 : Int32) = 7), if_neg (by decide : ¬ (10 : Int32) = 8), if_neg (by decide : ¬ (10 : Int32) = 9), if_10]
  · refine sumc (a + b) ?_ ?_
    · rw [show (10024 : Int32) - 10000 = 24 by decide, cmb_24]
    · unfold opP; rw [if_neg (by decide), if_neg (by decide), if_neg (by decide), if_pos rfl]
  · refine sumc (a - b) ?_ ?_
    · rw [show (10025 : Int32) - 10000 = 25 by decide, cmb_25]
    · unfold opP; rw [if_neg (by decide), if_neg (by decide), if_neg (by decide), if_neg (by decide), if_pos rfl]
  · have e1 : opP 13 a b 0 = (if mulE 0 a b = 0 then a * b else 0, mulE 0 a b) := by
      unfold opP; rw [if_neg (by decide), if_neg (by decide), if_neg (by decide), if_neg (by decide), if_neg (by decide), if_pos rfl]
    have e2 : cmbC ((10026 : Int32) - 10000) a b = if mbC a b then mnL else bdC (a * b) := by rw [show (10026 : Int32) - 10000 = 26 by decide, cmb_26]
    have e3 : mulE 0 a b = if mulB a b = true then 1 else 0 := mulE_0 a b
    rcases mb_R ha hb with ⟨q1, q2⟩ | ⟨q1, q2, q3⟩
    · rw [e2, e1, e3, q1, q2, if_pos rfl]
      exact Or.inl ⟨by decide, by show ¬ (1 : Int32) = 0; decide⟩
    · refine fin (a * b) q3 ?_ ?_
      · rw [e2, q1, bdC_id q3]; rfl
      · rw [e1, e3, q2]; rfl
  · have e1 : opP 14 a b 0 = (if divE 0 b = 0 then a / b else 0, divE 0 b) := by
      unfold opP; rw [if_neg (by decide), if_neg (by decide), if_neg (by decide), if_neg (by decide), if_neg (by decide), if_neg (by decide), if_pos rfl]
    have e2 : cmbC ((10027 : Int32) - 10000) a b = if lg_cmp b 0 = 0 then mnL else bdC (a / b) := by rw [show (10027 : Int32) - 10000 = 27 by decide, cmb_27]
    have e3 : divE 0 b = if ¬ lg_cmp b 0 = 0 then 0 else 1 := divE_0 b
    by_cases c : lg_cmp b 0 = 0
    · have e4 : divE 0 b = 1 := by rw [e3, if_neg (fun q => q c)]
      rw [e2, e1, e4, if_pos c]
      exact Or.inl ⟨by decide, by show ¬ (1 : Int32) = 0; decide⟩
    · refine fin (a / b) (dvb ha) ?_ ?_
      · rw [e2, if_neg c, bdC_id (dvb ha)]
      · rw [e1, e3, if_pos c]; rfl
theorem opP_e (k : Int32) (a b : Int64) {e : Int32} (he : ¬ e = 0) : ¬ (opP k a b e).2 = 0 := by
  unfold opP bndE mulE divE
  rw [if_pos he, if_pos he, if_pos he, if_pos he]
  repeat' split
  all_goals first | exact he | (show ¬ (1 : Int32) = 0; decide)
theorem valP_e (km pt ot : Nat → Int32) (nm v : Nat → Int64) {e : Int32} (i : Nat) (he : ¬ e = 0) : ¬ (valP km pt ot nm v e i).2 = 0 := by
  unfold valP
  split
  · exact he
  · split
    · exact he
    · exact opP_e _ _ _ he
theorem i32_bd (x : Int32) : bdd x.toInt64 := by
  unfold bdd
  rw [y_i2l]
  have h1 := Int32.le_toInt x
  have h2 := Int32.toInt_lt x
  omega
theorem map_u {s : Nat → Int64} {k : Nat} {v : Int64} : ∀ {l : List Nat}, (∀ x ∈ l, x < k) → l.map (vp_updL s k v) = l.map s
  | [], _ => rfl
  | x :: l, h => by
    rw [List.map_cons, List.map_cons, map_u (fun z hz => h z (List.mem_cons_of_mem _ hz)), updL_n (Nat.ne_of_lt (h x List.mem_cons_self))]
theorem smV_s (km pt ot : Nat → Int32) (nm v0 : Nat → Int64) (a n : Nat) : smV km pt ot nm v0 a (n + 1) = (vp_updL (smV km pt ot nm v0 a n).1 (a + n) (valP km pt ot nm (smV km pt ot nm v0 a n).1 (smV km pt ot nm v0 a n).2 (a + n)).1, (valP km pt ot nm (smV km pt ot nm v0 a n).1 (smV km pt ot nm v0 a n).2 (a + n)).2) := rfl
theorem t9999 {x : Int32} (h1 : 0 ≤ x.toInt) (h2 : x.toInt ≤ 9999) : x < 10000 := by
  rw [t_lt, show (10000 : Int32).toInt = 10000 by decide]
  omega
theorem nam_n {j : Nat} (hj : j < 8) : nI (10016 + j) - 10000 = nI (16 + j) ∧ nI (16 + j) - 16 = nI j := by
  constructor
  · rw [t_eq, t_sub (by rw [t_nI (by omega), show (10000 : Int32).toInt = 10000 by decide]; omega) (by rw [t_nI (by omega), show (10000 : Int32).toInt = 10000 by decide]; omega), t_nI (by omega), t_nI (by omega), show (10000 : Int32).toInt = 10000 by decide]
    omega
  · rw [t_eq, t_sub (by rw [t_nI (by omega), show (16 : Int32).toInt = 16 by decide]; omega) (by rw [t_nI (by omega), show (16 : Int32).toInt = 16 by decide]; omega), t_nI (by omega), t_nI (by omega), show (16 : Int32).toInt = 16 by decide]
    omega
theorem opm_r {c k : Int32} (h : opm c k) : ¬ c < 10000 ∧ ¬ (16 ≤ c - 10000 ∧ c - 10000 ≤ 23) ∧ ¬ c - 10000 = 15 ∧ ¬ k = 0 ∧ ¬ k = 1 := by
  rcases h with ⟨rfl, rfl⟩ | ⟨rfl, rfl⟩ | ⟨rfl, rfl⟩ | ⟨rfl, rfl⟩ | ⟨rfl, rfl⟩ | ⟨rfl, rfl⟩ | ⟨rfl, rfl⟩ | ⟨rfl, rfl⟩ | ⟨rfl, rfl⟩ | ⟨rfl, rfl⟩ | ⟨rfl, rfl⟩ | ⟨rfl, rfl⟩ <;> decide
theorem ev_R {kc km pt ot : Nat → Int32} {a : Nat} {nm : Nat → Int64} (hnm : iN nm) (v0 : Nat → Int64) : ∀ (n : Nat) (l : List Nat), a + n ≤ 64 → skF kc km pt ot a n l → (¬ (smV km pt ot nm v0 a n).2 = 0 ∧ ∀ m, evL kc nm (n + m) a [] = mnL) ∨ ((smV km pt ot nm v0 a n).2 = 0 ∧ (∀ m, evL kc nm (n + m) a [] = evL kc nm m (a + n) (l.map (smV km pt ot nm v0 a n).1)) ∧ ∀ x ∈ l, bdd ((smV km pt ot nm v0 a n).1 x)) := by
  intro n
  induction n with
  | zero =>
    intro l _ h
    have : l = [] := h
    subst this
    exact Or.inr ⟨rfl, fun m => by rw [Nat.zero_add, Nat.add_zero]; rfl, fun x hx => absurd hx List.not_mem_nil⟩
  | succ n ih =>
    intro l hb h
    obtain ⟨l0, h0, hs⟩ := skF_s h
    obtain ⟨i1, i2⟩ := skF_in h0
    rw [smV_s]
    have ih' := ih l0 (by omega) h0
    generalize smV km pt ot nm v0 a n = s at ih' ⊢
    rcases ih' with ⟨q1, q2⟩ | ⟨q1, q2, q3⟩
    · left
      refine ⟨valP_e _ _ _ _ _ _ q1, fun m => ?_⟩
      rw [Nat.add_assoc]
      exact q2 _
    · rw [q1]
      have q2' : ∀ m, evL kc nm (n + 1 + m) a [] = evL kc nm (m + 1) (a + n) (l0.map s.1) := fun m => by
        rw [Nat.add_assoc, q2, Nat.add_comm 1 m]
      have l64 : ¬ 64 ≤ (l0.map s.1).length := by rw [List.length_map]; omega
      -- a leaf, or what is made of some
      have leaf : ∀ (v : Int64) (l1 : List Nat), (∀ x ∈ l1, x ∈ l0) → bdd v → valP km pt ot nm s.1 0 (a + n) = (v, 0) → l = (a + n) :: l1 → (∀ m, evL kc nm (m + 1) (a + n) (l0.map s.1) = evL kc nm m (a + n + 1) (v :: l1.map s.1)) → (¬ (vp_updL s.1 (a + n) (valP km pt ot nm s.1 0 (a + n)).1, (valP km pt ot nm s.1 0 (a + n)).2).2 = 0 ∧ ∀ m, evL kc nm (n + 1 + m) a [] = mnL) ∨ ((vp_updL s.1 (a + n) (valP km pt ot nm s.1 0 (a + n)).1, (valP km pt ot nm s.1 0 (a + n)).2).2 = 0 ∧ (∀ m, evL kc nm (n + 1 + m) a [] = evL kc nm m (a + (n + 1)) (l.map (vp_updL s.1 (a + n) (valP km pt ot nm s.1 0 (a + n)).1, (valP km pt ot nm s.1 0 (a + n)).2).1)) ∧ ∀ x ∈ l, bdd ((vp_updL s.1 (a + n) (valP km pt ot nm s.1 0 (a + n)).1, (valP km pt ot nm s.1 0 (a + n)).2).1 x)) := by
        intro v l1 hin hv e1 e2 e3
        rw [e1]
        right
        refine ⟨rfl, fun m => ?_, fun x hx => ?_⟩
        · rw [q2', e3, e2, List.map_cons]
          show _ = evL kc nm m (a + (n + 1)) (vp_updL s.1 (a + n) v (a + n) :: l1.map (vp_updL s.1 (a + n) v))
          rw [updL_s, map_u (fun x hx => (i1 x (hin x hx)).2), Nat.add_assoc]
        · rw [e2] at hx
          show bdd (vp_updL s.1 (a + n) v x)
          rcases List.mem_cons.mp hx with q | q
          · subst q; rw [updL_s]; exact hv
          · rw [updL_n (Nat.ne_of_lt (i1 x (hin x q)).2)]
            exact q3 x (hin x q)
      rcases hs with ⟨b1, b2, b3, b4, b5⟩ | ⟨j, hj, b1, b2, b3, b4⟩ | ⟨b1, b2, x, l1, e, b3, b4⟩ | ⟨b1, y, x, l1, e, b2, b3, b4⟩
      · refine leaf (kc (a + n)).toInt64 l0 (fun _ h => h) (i32_bd _) ?_ b5 (fun m => evL_num l64 (t9999 b1 b2))
        unfold valP
        rw [if_pos b3, b4]
      · obtain ⟨x, hx⟩ := hnm j hj
        have n1 : ¬ kc (a + n) < 10000 := by
          rw [b1, t_lt, t_nI (by omega), show (10000 : Int32).toInt = 10000 by decide]; omega
        have n2 : 16 ≤ kc (a + n) - 10000 ∧ kc (a + n) - 10000 ≤ 23 := by
          rw [b1, (nam_n hj).1]
          exact ⟨(nI_le' (a := 16) (by omega) (by omega)).mpr (by omega), (nI_le' (b := 23) (by omega) (by omega)).mpr (by omega)⟩
        refine leaf (nm j) l0 (fun _ h => h) (by rw [hx]; exact i32_bd _) ?_ b4 (fun m => ?_)
        · unfold valP
          rw [if_neg (by rw [b2]; decide), if_pos b2, b3, nI_t (by omega)]
        · rw [evL_nam l64 n1 n2, b1, (nam_n hj).1, (nam_n hj).2, nI_t (by omega)]
      · subst e
        have hx := (i1 x List.mem_cons_self)
        refine leaf (if ¬ lg_cmp (s.1 x) 0 = 0 then 0 else 1) l1 (fun _ h => List.mem_cons_of_mem _ h) if_bd ?_ b4 (fun m => ?_)
        · unfold valP
          rw [if_neg (by rw [b2]; decide), if_neg (by rw [b2]; decide), b2, b3, nI_t (by omega)]
          unfold opP
          rw [if_pos rfl]
        · rw [List.map_cons] at l64 ⊢
          rw [evL_not l64 (by rw [b1]; decide) (by rw [b1]; decide) (by rw [b1]; decide)]
      · subst e
        have hy := (i1 y List.mem_cons_self)
        have hx := (i1 x (List.mem_cons_of_mem _ List.mem_cons_self))
        obtain ⟨o1, o2, o3, o4, o5⟩ := opm_r b1
        have ev : valP km pt ot nm s.1 0 (a + n) = opP (km (a + n)) (s.1 x) (s.1 y) 0 := by
          unfold valP
          rw [if_neg o4, if_neg o5, b2, b3, nI_t (by omega), nI_t (by omega)]
        have es : ∀ m, evL kc nm (m + 1) (a + n) ((y :: x :: l1).map s.1) = if lg_cmp (cmbC (kc (a + n) - 10000) (s.1 x) (s.1 y)) mnL = 0 then mnL else evL kc nm m (a + n + 1) (cmbC (kc (a + n) - 10000) (s.1 x) (s.1 y) :: l1.map s.1) := by
          intro m
          rw [List.map_cons, List.map_cons] at l64 ⊢
          rw [evL_bin l64 o1 o2 o3]
        rcases op_R b1 (q3 x (List.mem_cons_of_mem _ List.mem_cons_self)) (q3 y List.mem_cons_self) with ⟨c1, c2⟩ | ⟨c1, c2, c3, c4⟩
        · left
          refine ⟨?_, fun m => ?_⟩
          · rw [ev]; exact c2
          · rw [q2', es, if_pos c1]
        · refine leaf _ l1 (fun _ h => List.mem_cons_of_mem _ (List.mem_cons_of_mem _ h)) c4 ?_ b4 (fun m => by rw [es, if_neg c1])
          rw [ev, c3]
          exact Prod.ext rfl c2
/-- the same law on both sides: the class's number w, the model's k -/
def LR (M : eg_H) (p : Nat) (w : Int32) (N : eg_H) (k : Nat) : Prop :=
  ∃ u a b : Nat, w = nI u ∧ u < 7 ∧ nI u < M.1 (3, p) 4 ∧ a < b ∧ b ≤ 64 ∧ M.1 (24, p) u = nI a ∧ M.1 (25, p) u = nI b ∧ N.1 (96, 0) k = nI a ∧ N.1 (97, 0) k = nI b ∧ skF (M.1 (23, p)) (N.1 (99, 0)) (N.1 (100, 0)) (N.1 (101, 0)) a (b - a) [b - 1]
theorem skF_KS {kc km pt ot : Nat → Int32} {a : Nat} : ∀ {n : Nat} {l : List Nat}, a + n ≤ 64 → skF kc km pt ot a n l → KS km pt ot a (a + n) := by
  intro n
  induction n with
  | zero => intro l _ _ i h1 h2; omega
  | succ n ih =>
    intro l hb h
    obtain ⟨l0, h0, hs⟩ := skF_s h
    obtain ⟨i1, i2⟩ := skF_in h0
    have ih' := ih (by omega) h0
    intro i h1 h2
    by_cases e : i = a + n
    · subst e
      rcases hs with ⟨b1, b2, b3, b4, b5⟩ | ⟨j, hj, b1, b2, b3, b4⟩ | ⟨b1, b2, x, l1, e, b3, b4⟩ | ⟨b1, y, x, l1, e, b2, b3, b4⟩
      · exact Or.inl b3
      · refine Or.inr (Or.inl ⟨b2, ?_⟩)
        rw [b3]; exact nI_in' hj (by omega)
      · subst e
        have hx := (i1 x List.mem_cons_self)
        refine Or.inr (Or.inr (Or.inr ⟨b2, ?_⟩))
        rw [b3, nI_t (by omega)]
        exact ⟨nI_in' (by omega) (by omega), by omega, by omega⟩
      · subst e
        have hy := (i1 y List.mem_cons_self)
        have hx := (i1 x (List.mem_cons_of_mem _ List.mem_cons_self))
        refine Or.inr (Or.inr (Or.inl ⟨(opm_r b1).2.2.2.2, ?_, ?_⟩))
        · rw [b2, nI_t (by omega)]
          exact ⟨nI_in' (by omega) (by omega), by omega, by omega⟩
        · rw [b3, nI_t (by omega)]
          exact ⟨nI_in' (by omega) (by omega), by omega, by omega⟩
    · exact ih' i h1 (by omega)
theorem LR.val {M N : eg_H} {p k : Nat} {w : Int32} (h : LR M p w N k) {nm : Nat → Int64} (hnm : iN nm) : (if valC M p nm w = mnL then none else some (valC M p nm w)) = (if (smV (N.1 (99, 0)) (N.1 (100, 0)) (N.1 (101, 0)) nm nm0 (N.1 (96, 0) k).toNatClampNeg ((N.1 (97, 0) k).toNatClampNeg - (N.1 (96, 0) k).toNatClampNeg)).2 = 0 then some ((smV (N.1 (99, 0)) (N.1 (100, 0)) (N.1 (101, 0)) nm nm0 (N.1 (96, 0) k).toNatClampNeg ((N.1 (97, 0) k).toNatClampNeg - (N.1 (96, 0) k).toNatClampNeg)).1 ((N.1 (97, 0) k).toNatClampNeg - 1)) else none) := by
  obtain ⟨u, a, b, e1, hu, hw, hab, hb, e3, e4, e5, e6, hs⟩ := h
  rw [e5, e6, nI_t (by omega), nI_t (by omega)]
  have ev : valC M p nm w = evL (M.1 (23, p)) nm (b - a) a [] := by
    unfold valC
    rw [e1, if_neg, nI_t (by omega), e3, e4, nI_t (by omega), nI_t (by omega)]
    exact fun q => q.elim (nI_pos (by omega)) (fun q => q hw)
  rw [ev]
  rcases ev_R hnm nm0 (b - a) _ (by omega) hs with ⟨q1, q2⟩ | ⟨q1, q2, q3⟩
  · have := q2 0
    rw [Nat.add_zero] at this
    rw [this, if_pos rfl, if_neg q1]
  · have := q2 0
    rw [Nat.add_zero] at this
    rw [this, if_pos q1]
    have e : evL (M.1 (23, p)) nm 0 (a + (b - a)) ([b - 1].map (smV (N.1 (99, 0)) (N.1 (100, 0)) (N.1 (101, 0)) nm nm0 a (b - a)).1) = (smV (N.1 (99, 0)) (N.1 (100, 0)) (N.1 (101, 0)) nm nm0 a (b - a)).1 (b - 1) := rfl
    rw [e, if_neg]
    intro q
    exact bd_m (q3 (b - 1) List.mem_cons_self) ((lgE _ _).mpr q)
