/-! EXPRESSIONS: signs that wait, values held, knots -/
def rk (t : Nat) : Nat := if t = 13 then 1 else if t = 14 then 2 else if t = 15 then 3 else if t = 24 ∨ t = 25 then 5 else if t = 26 ∨ t = 27 then 6 else if 28 ≤ t ∧ t ≤ 33 then 4 else 0
def wmt (t : Nat) : Nat := if t = 34 then 0 else if t = 15 then 2 else if t = 14 then 3 else if t = 13 then 4 else if t = 24 then 11 else if t = 25 then 12 else if t = 26 then 13 else if t = 27 then 14 else t - 23
def vsb (t : Nat) : Bool := t == 13 || t == 14 || t == 15 || (24 ≤ t && t ≤ 34)
def rkI (l0 : Int32) : Int32 := (if l0 < (13 : Int32) then (if l0 < (11 : Int32) then (if l0 < (5 : Int32) then (if (¬ l0 = (2 : Int32)) then (if (¬ l0 = (3 : Int32)) then (if (¬ l0 = (4 : Int32)) then (0 : Int32) else (1 : Int32)) else (2 : Int32)) else (3 : Int32)) else (4 : Int32)) else (5 : Int32)) else (6 : Int32))
theorem rk_m0 : ∀ t, t < 35 → vsb t = true → rkI (nI (wmt t)) = nI (rk t) ∧ wmt t < 15 ∧ (wmt t = 2 ↔ t = 15) ∧ (t = 15 ∨ t = 34 ∨ ¬ wmt t = 2) ∧ (rk t = 0 ↔ t = 34) ∧ rk t ≤ 6 ∧ (rk t = 3 ↔ t = 15) := by decide +kernel
theorem vsb_l {t : Nat} (h : vsb t = true) : t < 35 := by
  unfold vsb at h
  simp only [Bool.or_eq_true, beq_iff_eq, Bool.and_eq_true, decide_eq_true_eq] at h
  omega
theorem rk_m {t : Nat} (N : eg_H) (h : vsb t = true) : fX11_rank N (nI (wmt t)) = nI (rk t) := (rk_m0 t (vsb_l h) h).1
theorem opm_w {t : Nat} (h : vsb t = true) (h1 : t ≠ 15) (h2 : t ≠ 34) : opm (nI (10000 + t)) (nI (wmt t)) := by
  have c : t = 13 ∨ t = 14 ∨ t = 24 ∨ t = 25 ∨ t = 26 ∨ t = 27 ∨ t = 28 ∨ t = 29 ∨ t = 30 ∨ t = 31 ∨ t = 32 ∨ t = 33 := by
    unfold vsb at h
    simp only [Bool.or_eq_true, beq_iff_eq, Bool.and_eq_true, decide_eq_true_eq] at h
    omega
  rcases c with c | c | c | c | c | c | c | c | c | c | c | c
  · rw [c]; exact Or.inr (Or.inl ⟨rfl, rfl⟩)
  · rw [c]; exact Or.inl ⟨rfl, rfl⟩
  · rw [c]; exact Or.inr (Or.inr (Or.inr (Or.inr (Or.inr (Or.inr (Or.inr (Or.inr (Or.inl ⟨rfl, rfl⟩))))))))
  · rw [c]; exact Or.inr (Or.inr (Or.inr (Or.inr (Or.inr (Or.inr (Or.inr (Or.inr (Or.inr (Or.inl ⟨rfl, rfl⟩)))))))))
  · rw [c]; exact Or.inr (Or.inr (Or.inr (Or.inr (Or.inr (Or.inr (Or.inr (Or.inr (Or.inr (Or.inr (Or.inl ⟨rfl, rfl⟩))))))))))
  · rw [c]; exact Or.inr (Or.inr (Or.inr (Or.inr (Or.inr (Or.inr (Or.inr (Or.inr (Or.inr (Or.inr (Or.inr (⟨rfl, rfl⟩)))))))))))
  · rw [c]; exact Or.inr (Or.inr (Or.inl ⟨rfl, rfl⟩))
  · rw [c]; exact Or.inr (Or.inr (Or.inr (Or.inl ⟨rfl, rfl⟩)))
  · rw [c]; exact Or.inr (Or.inr (Or.inr (Or.inr (Or.inl ⟨rfl, rfl⟩))))
  · rw [c]; exact Or.inr (Or.inr (Or.inr (Or.inr (Or.inr (Or.inl ⟨rfl, rfl⟩)))))
  · rw [c]; exact Or.inr (Or.inr (Or.inr (Or.inr (Or.inr (Or.inr (Or.inl ⟨rfl, rfl⟩))))))
  · rw [c]; exact Or.inr (Or.inr (Or.inr (Or.inr (Or.inr (Or.inr (Or.inr (Or.inl ⟨rfl, rfl⟩)))))))
theorem rankC {κ : eg_K} {d : Nat} (M : eg_H) {t : Nat} (ht : t ≤ 40) : eg_S κ gC mtX6_rankOf d [vI (nI t)] M (eQI κ gC (fun x X => x = nI (rk t) ∧ X = M)) := by
  have e := fun c (hc : c < 1000) => (nIq ht c hc)
  refine eg_S.of rfl (Nat.le_of_ble_eq_true rfl) (vX6_rankOf_0 M (nI t) ⟨fun a1 a2 a3 a4 a5 a6 a7 b1 b2 b3 b4 b5 b6 => vX6_rankOf_113 M ⟨?_, rfl⟩, fun z => ⟨?_, rfl⟩, fun z => ⟨?_, rfl⟩, fun z => ⟨?_, rfl⟩, fun z => ⟨?_, rfl⟩, fun z => ⟨?_, rfl⟩, fun z => ⟨?_, rfl⟩, fun z => ⟨?_, rfl⟩, fun z => vX6_rankOf_106 M ⟨?_, rfl⟩, fun z => vX6_rankOf_106 M ⟨?_, rfl⟩, fun z => vX6_rankOf_106 M ⟨?_, rfl⟩, fun z => vX6_rankOf_106 M ⟨?_, rfl⟩, fun z => vX6_rankOf_106 M ⟨?_, rfl⟩, fun z => vX6_rankOf_106 M ⟨?_, rfl⟩⟩)
  · have c1 : ¬ t = 13 := fun z => a1 ((e 13 (by omega)).mpr z)
    have c2 : ¬ t = 14 := fun z => a2 ((e 14 (by omega)).mpr z)
    have c3 : ¬ t = 15 := fun z => a3 ((e 15 (by omega)).mpr z)
    have c4 : ¬ t = 24 := fun z => a4 ((e 24 (by omega)).mpr z)
    have c5 : ¬ t = 25 := fun z => a5 ((e 25 (by omega)).mpr z)
    have c6 : ¬ t = 26 := fun z => a6 ((e 26 (by omega)).mpr z)
    have c7 : ¬ t = 27 := fun z => a7 ((e 27 (by omega)).mpr z)
    have d1 : ¬ t = 28 := fun z => b1 ((e 28 (by omega)).mpr z)
    have d2 : ¬ t = 29 := fun z => b2 ((e 29 (by omega)).mpr z)
    have d3 : ¬ t = 30 := fun z => b3 ((e 30 (by omega)).mpr z)
    have d4 : ¬ t = 31 := fun z => b4 ((e 31 (by omega)).mpr z)
    have d5 : ¬ t = 32 := fun z => b5 ((e 32 (by omega)).mpr z)
    have d6 : ¬ t = 33 := fun z => b6 ((e 33 (by omega)).mpr z)
    unfold rk
    rw [if_neg c1, if_neg c2, if_neg c3, if_neg (by omega), if_neg (by omega), if_neg (by omega)]
    rfl
  · rw [(e 13 (by omega)).mp z]; rfl
  · rw [(e 14 (by omega)).mp z]; rfl
  · rw [(e 15 (by omega)).mp z]; rfl
  · rw [(e 24 (by omega)).mp z]; rfl
  · rw [(e 25 (by omega)).mp z]; rfl
  · rw [(e 26 (by omega)).mp z]; rfl
  · rw [(e 27 (by omega)).mp z]; rfl
  · rw [(e 28 (by omega)).mp z]; rfl
  · rw [(e 29 (by omega)).mp z]; rfl
  · rw [(e 30 (by omega)).mp z]; rfl
  · rw [(e 31 (by omega)).mp z]; rfl
  · rw [(e 32 (by omega)).mp z]; rfl
  · rw [(e 33 (by omega)).mp z]; rfl
/-- the signs that wait, the newest first -/
def stk (f g : Nat → Int32) : List Nat → Prop
  | [] => True
  | t :: L => (f L.length = nI t ∧ g L.length = nI (wmt t) ∧ vsb t = true) ∧ stk f g L
def hst (g : Nat → Int32) : List Nat → Prop
  | [] => True
  | x :: l => g l.length = nI x ∧ hst g l
theorem stk_cong {f g f' g' : Nat → Int32} : ∀ {L : List Nat}, (∀ i, i < L.length → f' i = f i ∧ g' i = g i) → stk f g L → stk f' g' L
  | [], _, _ => trivial
  | t :: L, he, h => by
    obtain ⟨e1, e2⟩ := he L.length (Nat.lt_succ_self _)
    refine ⟨by rw [e1, e2]; exact h.1, stk_cong (fun i hi => he i (Nat.lt_succ_of_lt hi)) h.2⟩
theorem hst_cong {g g' : Nat → Int32} : ∀ {l : List Nat}, (∀ i, i < l.length → g' i = g i) → hst g l → hst g' l
  | [], _, _ => trivial
  | t :: l, he, h => ⟨by rw [he l.length (Nat.lt_succ_self _)]; exact h.1, hst_cong (fun i hi => he i (Nat.lt_succ_of_lt hi)) h.2⟩
def bin : List Nat → Nat
  | [] => 0
  | t :: L => bin L + if t = 15 ∨ t = 34 then 0 else 1
def nop : List Nat → Nat
  | [] => 0
  | t :: L => nop L + if t = 34 then 0 else 1
def lev : List Nat → Nat
  | [] => 0
  | t :: L => lev L + if t = 34 then 1 else 0
def drp (r : Nat) : List Nat → List Nat
  | [] => []
  | t :: L => if rk t < r then t :: L else drp r L
def agr (rc rm : Nat) : List Nat → Prop
  | [] => True
  | t :: L => (rk t < rc ↔ rk t < rm) ∧ (¬ rk t < rc → agr rc rm L)
theorem agr_rf (r : Nat) : ∀ L, agr r r L
  | [] => trivial
  | _ :: L => ⟨Iff.rfl, fun _ => agr_rf r L⟩
theorem len_e (L : List Nat) : L.length = nop L + lev L := by
  induction L with
  | nil => rfl
  | cons t L ih =>
    show L.length + 1 = (nop L + if t = 34 then 0 else 1) + (lev L + if t = 34 then 1 else 0)
    by_cases c : t = 34
    · rw [if_pos c, if_pos c]; omega
    · rw [if_neg c, if_neg c]; omega
def core (q a : Nat) (M N : eg_H) (L l : List Nat) (k : Nat) : Prop := (M.1 (6, 0) 10 = nI L.length ∧ N.1 (60, 0) 43 = nI L.length ∧ stk (M.1 (36, 0)) (N.1 (102, 0)) L ∧ lev L ≤ 8) ∧ (M.1 (3, q) 3 = nI k ∧ N.1 (60, 0) 22 = nI k ∧ a ≤ k ∧ k + nop L ≤ 64) ∧ skF (M.1 (23, q)) (fun i => N.1 (99, 0) (i + 64)) (fun i => N.1 (100, 0) (i + 64)) (fun i => N.1 (101, 0) (i + 64)) a (k - a) l ∧ N.1 (60, 0) 44 = nI l.length ∧ hst (N.1 (103, 0)) l
theorem grow_sk {kc km pt ot kc' km' pt' ot' : Nat → Int32} {a k : Nat} {l0 l : List Nat} (ha : a ≤ k) (h : skF kc km pt ot a (k - a) l0) (he : ∀ i, i < k → kc' i = kc i ∧ km' i = km i ∧ pt' i = pt i ∧ ot' i = ot i) (hs : stp kc' km' pt' ot' k l0 l) : skF kc' km' pt' ot' a (k + 1 - a) l := by
  have e : k + 1 - a = (k - a) + 1 := by omega
  rw [e]
  exact ⟨l0, skF_cong (fun i x y => he i (by omega)) h, by rw [show a + (k - a) = k by omega]; exact hs⟩
/-- one knot more, on either side -/
def gk (M : eg_H) (q k : Nat) (x : Int32) : eg_H := sI (sI M (23, q) k x) (3, q) 3 (nI (k + 1))
def gr (N : eg_H) (k h : Nat) (x y z : Int32) : eg_H := sI (sI (sI (sI (sI (sI N (99, 0) (64 + k) x) (100, 0) (64 + k) y) (101, 0) (64 + k) z) (103, 0) h (nI k)) (60, 0) 44 (nI (h + 1))) (60, 0) 22 (nI (k + 1))
theorem gk_e {M : eg_H} {q k : Nat} (x : Int32) (hk : k < 64) (e : M.1 (3, q) 3 = nI k) : gX3_addKnot M q x ∧ fX3_addKnot M q x = gk M q k x := by
  have n64 : ¬ (64 : Int32) ≤ nI k := fun z => by
    have := (nI_le' (a := 64) (by omega) (by omega)).mp z
    omega
  unfold gX3_addKnot fX3_addKnot gk
  rw [e, nI_t (by omega), sI_ne (kd_ne (by omega)), e, if_neg n64, (nAl k).2.1]
  exact ⟨fun _ => nI_in' hk (by omega), rfl⟩
theorem gr_e {N : eg_H} {k h : Nat} (x y z : Int32) (hk : k < 64) (hh : h < 96) (e22 : N.1 (60, 0) 22 = nI k) (e44 : N.1 (60, 0) 44 = nI h) {κ : eg_K} {d : Nat} : eg_S κ gM mtX11_grown d [vR (60, 0), vI x, vI y, vI z] N (eQV κ gM (fun X => X = gr N k h x y z)) := by
  have i64 : (64 : Int32) + nI k = nI (64 + k) := by show nI 64 + nI k = _; rw [nI_add]
  have g : vp_in (nI (64 + k)) 128 := nI_in' (by omega) (by omega)
  have n60 : ∀ r, r ≠ 60 → ((60, 0) : eg_R) ≠ (r, 0) := fun r hr => kd_ne (Ne.symm hr)
  refine eg_S.of rfl (Nat.le_of_ble_eq_true rfl) (vX11_grown_0 N x y z ?_)
  rw [e22, i64, nI_t (show 64 + k < 2147483648 by omega)]
  refine ⟨g, fun M2 e2 => ?_⟩
  have f2 : M2.1 (60, 0) = N.1 (60, 0) := by rw [e2, sI_ne (n60 _ (by omega))]
  rw [f2, e22, i64, nI_t (show 64 + k < 2147483648 by omega)]
  refine ⟨g, fun M4 e4 => ?_⟩
  have f4 : M4.1 (60, 0) = N.1 (60, 0) := by rw [e4, sI_ne (n60 _ (by omega)), f2]
  rw [f4, e22, i64, nI_t (show 64 + k < 2147483648 by omega)]
  refine ⟨g, fun M6 e6 => ?_⟩
  have f6 : M6.1 (60, 0) = N.1 (60, 0) := by rw [e6, sI_ne (n60 _ (by omega)), f4]
  rw [f6, e22, e44, nI_t (show h < 2147483648 by omega)]
  refine ⟨nI_in' hh (by omega), fun M8 e8 M9 e9 M10 e10 => ?_⟩
  have f8 : M8.1 (60, 0) = N.1 (60, 0) := by rw [e8, sI_ne (n60 _ (by omega)), f6]
  rw [f8, e44, (nAl h).2.1] at e9
  have f9 : M9.1 (60, 0) 22 = nI k := by rw [e9, sI_60, if_neg (by omega), f8, e22]
  rw [f9, (nAl k).2.1] at e10
  rw [e10, e9, e8, e6, e4, e2]
  rfl
