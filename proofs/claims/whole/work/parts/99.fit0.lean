/-! FITS: what holds -/
noncomputable def fitV (P : Prop) : Int32 := @ite Int32 P (Classical.propDecidable P) 1 0
theorem fitV_t {P : Prop} (h : P) : fitV P = 1 := by unfold fitV; rw [if_pos h]
theorem fitV_f {P : Prop} (h : ¬ P) : fitV P = 0 := by unfold fitV; rw [if_neg h]
theorem fitV_c {P Q : Prop} (h : P ↔ Q) : fitV P = fitV Q := by rw [propext h]
theorem fitV_01 (P : Prop) : fitV P = 0 ∨ fitV P = 1 := (Classical.em P).elim (fun h => Or.inr (fitV_t h)) (fun h => Or.inl (fitV_f h))
theorem fitV_0 {P : Prop} (h : fitV P = 0) : ¬ P := fun q => by rw [fitV_t q] at h; exact absurd h (by decide)
theorem fitV_n {P : Prop} (h : ¬ fitV P = 0) : P := Classical.byContradiction (fun q => h (fitV_f q))
theorem nar0 : vp_nar .boolean 0 = 0 := by decide
theorem nar1 : vp_nar .boolean 1 = 1 := by decide
def hl (st sec : Nat → Int32) : Nat → (Nat → Int32) → Nat → Int32
  | 0, f => f
  | k + 1, f => hl st sec k (if f k = 0 then f else if st k = -1 then upd f (sec k).toNatClampNeg 0 else f)
theorem hl_cong {st sec : Nat → Int32} {n : Nat} : ∀ (k : Nat) (f g : Nat → Int32), k ≤ n → (∀ j, j < n → f j = g j) → ∀ j, j < n → hl st sec k f j = hl st sec k g j
  | 0, f, g, _, h, j, hj => h j hj
  | k + 1, f, g, hk, h, j, hj => by
    show hl st sec k _ j = hl st sec k _ j
    refine hl_cong k _ _ (by omega) (fun i hi => ?_) j hj
    rw [← h k (by omega)]
    by_cases c : f k = 0
    · rw [if_pos c, if_pos c]; exact h i hi
    · rw [if_neg c, if_neg c]
      by_cases c2 : st k = -1
      · rw [if_pos c2, if_pos c2]; unfold upd; rw [h i hi]
      · rw [if_neg c2, if_neg c2]; exact h i hi
theorem hl_out {st sec : Nat → Int32} {n : Nat} (hs : ∀ k, k < n → st k = -1 → (sec k).toNatClampNeg < n) : ∀ (k : Nat) (f : Nat → Int32), k ≤ n → ∀ j, n ≤ j → hl st sec k f j = f j
  | 0, _, _, _, _ => rfl
  | k + 1, f, hk, j, hj => by
    show hl st sec k _ j = f j
    rw [hl_out hs k _ (by omega) j hj]
    by_cases c : f k = 0
    · rw [if_pos c]
    · rw [if_neg c]
      by_cases c2 : st k = -1
      · have := hs k (by omega) c2
        rw [if_pos c2, pk_un (by omega)]
      · rw [if_neg c2]
theorem nI_mm (k : Nat) : nI k + (-1) = nI k - 1 := (Int32.sub_eq_add_neg _ _).symm
/-- the counts on both sides -/
def ctS (M : eg_H) (c : Nat) (st sec : Nat → Int32) : Prop := c ≤ 40 ∧ M.1 (8, 0) 0 = nI c ∧ ∀ i, i < c → M.1 (44, 0) i = st i ∧ M.1 (45, 0) i = sec i
theorem sX8_markHolding {κ : eg_K} {d : Nat} (hd : 1 ≤ d) (M : eg_H) {c K : Nat} {st sec : Nat → Int32} (hS : ctS M c st sec) (hK : K ≤ c) (eK : fX8_knownCounts M = nI K) (h4 : ∀ i, i < c → st i = -1 → vp_in (sec i) i) : eg_S κ gC mtX8_markHolding d [vR (8, 0)] M (eQV κ gC (fun M1 => M1 = sW M (48, 0) (hl st sec K (cpT (fun i => if nI K ≤ nI i then 0 else 1) (M.1 (48, 0)) 40)))) := by
  obtain ⟨hc, _, hS⟩ := hS
  refine eg_S.of rfl (Nat.le_of_ble_eq_true rfl) (vX8_markHolding_0 hd M (fun x2 e2 => ?_))
  rw [e2, eK]
  have l39 : ∀ (k : Nat) (f : Nat → Int32), k ≤ K → hl st sec k f = hl st sec K (cpT (fun i => if nI K ≤ nI i then 0 else 1) (M.1 (48, 0)) 40) → eg_W κ gC mtX8_markHolding d (eQV κ gC (fun M1 => M1 = sW M (48, 0) (hl st sec K (cpT (fun i => if nI K ≤ nI i then 0 else 1) (M.1 (48, 0)) 40)))) 39 [(0, vR (8, 0)), (2, vI (nI k - 1))] [] (sW M (48, 0) f) := by
    intro k
    induction k with
    | zero =>
      intro f _ hf
      refine vX8_markHolding_39 _ _ ⟨fun _ => ?_, fun c => absurd (by decide) c⟩
      show sW M (48, 0) f = _
      rw [← hf]
      rfl
    | succ k ih =>
      intro f hk hf
      rw [nI_p]
      obtain ⟨a1, a2⟩ := hS k (by omega)
      refine vX8_markHolding_39 _ _ ⟨fun q => absurd q (nI_pos (by omega)), fun _ => ?_⟩
      rw [nI_t (by omega), sW_at, sW_ne _ _ (by decide), sW_ne _ _ (by decide), a1, a2]
      have hf' : hl st sec k (if f k = 0 then f else if st k = -1 then upd f (sec k).toNatClampNeg 0 else f) = hl st sec K (cpT (fun i => if nI K ≤ nI i then 0 else 1) (M.1 (48, 0)) 40) := hf
      refine ⟨nI_in' (by omega) (by omega), fun x3 e3 => ⟨fun c => ?_, fun c => ⟨fun c2 => ?_, fun c2 => ?_⟩⟩⟩
      · intro x5 e5
        rw [e5, nI_mm]
        rw [if_pos c] at hf'
        exact ih f (by omega) hf'
      · intro x7 e7
        rw [e7, nI_mm]
        rw [if_neg c, if_neg c2] at hf'
        exact ih f (by omega) hf'
      · rw [if_neg c, if_pos c2] at hf'
        have hv := h4 k (by omega) c2
        obtain ⟨ev, lv⟩ := nI_of' hv (by omega)
        rw [e3]
        refine ⟨fun q => ?_, fun _ => ⟨fun q => ?_, fun _ => ⟨?_, fun M13 e13 x14 e14 => ?_⟩⟩⟩
        · rw [ev] at q; exact absurd q (nI_pos (by omega))
        · rw [ev] at q; exact absurd q (nI_ge lv (by omega))
        · rw [ev]; exact nI_in' (by omega) (by omega)
        · rw [e14, nI_mm, e13, nar0, sI_sW]
          exact ih _ (by omega) hf'
  have f0 := eg_down (P := fun i => eg_W κ gC mtX8_markHolding d (eQV κ gC (fun M1 => M1 = sW M (48, 0) (hl st sec K (cpT (fun i => if nI K ≤ nI i then 0 else 1) (M.1 (48, 0)) 40)))) 7 [(0, vR (8, 0)), (1, vI (nI K)), (2, vI (nI i))] [] (sW M (48, 0) (cpT (fun i => if nI K ≤ nI i then 0 else 1) (M.1 (48, 0)) i))) 40 (fun i hi k => ?_) ?_
  · rw [cpT_0, sW_self] at f0
    exact f0
  · refine vX8_markHolding_7 _ _ _ ⟨fun q => absurd (show nI 40 ≤ nI i from q) (nI_ge hi (by decide)), fun _ x3 e3 => ⟨nI_in' (by omega) (by omega), fun M5 e5 x6 e6 => ?_⟩⟩
    have e : vp_nar .boolean x3 = (fun i => if nI K ≤ nI i then (0 : Int32) else 1) i := by
      rw [e3]
      show _ = if nI K ≤ nI i then (0 : Int32) else 1
      by_cases q : nI K ≤ nI i
      · rw [if_pos q]; exact nar0
      · rw [if_neg q]; exact nar1
    rw [e6, nI_1, e5, nI_t (by omega), e, sI_sW, cpT_s (fun i => if nI K ≤ nI i then (0 : Int32) else 1)]
    exact k
  · refine vX8_markHolding_7 _ _ _ ⟨fun _ x2 e2 => ?_, fun q => absurd (by decide) q⟩
    rw [e2]
    exact l39 K _ (Nat.le_refl _) rfl
/-! the class asks the tally -/
noncomputable def cnt (p : Nat → Prop) : Nat → Nat
  | 0 => 0
  | k + 1 => cnt p k + @ite Nat (p k) (Classical.propDecidable _) 1 0
theorem cnt_le (p : Nat → Prop) : ∀ n, cnt p n ≤ n
  | 0 => Nat.le_refl _
  | n + 1 => by
    have := cnt_le p n
    show cnt p n + @ite Nat (p n) (Classical.propDecidable _) 1 0 ≤ n + 1
    split <;> omega
theorem cnt_all (p : Nat → Prop) : ∀ n, n ≤ cnt p n → ∀ k, k < n → p k
  | 0, _, k, hk => absurd hk (Nat.not_lt_zero _)
  | n + 1, h, k, hk => by
    have h1 := cnt_le p n
    have h2 : n + 1 ≤ cnt p n + @ite Nat (p n) (Classical.propDecidable _) 1 0 := h
    by_cases c : p n
    · rw [if_pos c] at h2
      by_cases e : k = n
      · rw [e]; exact c
      · exact cnt_all p n (by omega) k (by omega)
    · rw [if_neg c] at h2
      omega
theorem cnt_mono {p q : Nat → Prop} (h : ∀ k, p k → q k) : ∀ n, cnt p n ≤ cnt q n
  | 0 => Nat.le_refl _
  | n + 1 => by
    have := cnt_mono h n
    show cnt p n + @ite Nat (p n) (Classical.propDecidable _) 1 0 ≤ cnt q n + @ite Nat (q n) (Classical.propDecidable _) 1 0
    by_cases c : p n
    · rw [if_pos c, if_pos (h n c)]; omega
    · rw [if_neg c]; omega
theorem cnt_s {p q : Nat → Prop} (h : ∀ k, p k → q k) {a : Nat} (ha : ¬ p a) (hb : q a) : ∀ n, a < n → cnt p n + 1 ≤ cnt q n
  | 0, hn => absurd hn (Nat.not_lt_zero _)
  | n + 1, hn => by
    show cnt p n + @ite Nat (p n) (Classical.propDecidable _) 1 0 + 1 ≤ cnt q n + @ite Nat (q n) (Classical.propDecidable _) 1 0
    by_cases e : a = n
    · subst e
      have := cnt_mono h a
      rw [if_neg ha, if_pos hb]
      omega
    · have := cnt_s h ha hb n (by omega)
      by_cases c : p n
      · rw [if_pos c, if_pos (h n c)]; omega
      · rw [if_neg c]; omega
/-- a count that is asked -/
def hdC (H st : Nat → Int32) (i : Nat) : Prop := ¬ H i = 0 ∧ ¬ st i = -1
theorem sX8_nextSecond {κ : eg_K} {d : Nat} (M : eg_H) {c : Nat} {st sec : Nat → Int32} (hS : ctS M c st sec) (hv : ∀ i, i < c → ¬ st i = -1 → vp_in (sec i) 3600) (t : Nat) (ht : t ≤ 3600) : eg_S κ gC mtX8_nextSecond d [vR (8, 0), vI (nI t)] M (eQI κ gC (fun r M1 => M1 = M ∧ ((r = -1 ∧ ∀ i, i < c → hdC (M.1 (48, 0)) st i → (sec i).toNatClampNeg < t) ∨ ∃ a, a < c ∧ hdC (M.1 (48, 0)) st a ∧ r = sec a ∧ t ≤ (sec a).toNatClampNeg ∧ ∀ i, i < c → hdC (M.1 (48, 0)) st i → t ≤ (sec i).toNatClampNeg → (sec a).toNatClampNeg ≤ (sec i).toNatClampNeg))) := by
  obtain ⟨hc, h80, hS⟩ := hS
  have key : ∀ (k i : Nat) (r : Int32), i + k = c → ((r = -1 ∧ ∀ j, j < i → hdC (M.1 (48, 0)) st j → (sec j).toNatClampNeg < t) ∨ ∃ a, a < i ∧ hdC (M.1 (48, 0)) st a ∧ r = sec a ∧ t ≤ (sec a).toNatClampNeg ∧ ∀ j, j < i → hdC (M.1 (48, 0)) st j → t ≤ (sec j).toNatClampNeg → (sec a).toNatClampNeg ≤ (sec j).toNatClampNeg) → eg_W κ gC mtX8_nextSecond d (eQI κ gC (fun r M1 => M1 = M ∧ ((r = -1 ∧ ∀ i, i < c → hdC (M.1 (48, 0)) st i → (sec i).toNatClampNeg < t) ∨ ∃ a, a < c ∧ hdC (M.1 (48, 0)) st a ∧ r = sec a ∧ t ≤ (sec a).toNatClampNeg ∧ ∀ i, i < c → hdC (M.1 (48, 0)) st i → t ≤ (sec i).toNatClampNeg → (sec a).toNatClampNeg ≤ (sec i).toNatClampNeg))) 4 [(0, vR (8, 0)), (1, vI (nI t)), (2, vI r), (3, vI (nI i))] [] M := by
    intro k
    induction k with
    | zero =>
      intro i r hi hr
      have ei : i = c := by omega
      subst ei
      exact vX8_nextSecond_4 M _ _ _ ⟨fun _ => ⟨rfl, hr⟩, fun q => absurd (by rw [h80]; exact nI_le (Nat.le_refl _) (by omega)) q⟩
    | succ k ih =>
      intro i r hi hr
      obtain ⟨a1, a2⟩ := hS i (by omega)
      refine vX8_nextSecond_4 M _ _ _ ⟨fun q => absurd (by rw [h80] at q; exact q) (nI_ge (by omega) (by omega)), fun _ => ?_⟩
      rw [nI_t (by omega), a1, a2]
      have skip : (hdC (M.1 (48, 0)) st i → (sec i).toNatClampNeg < t) → ((r = -1 ∧ ∀ j, j < i + 1 → hdC (M.1 (48, 0)) st j → (sec j).toNatClampNeg < t) ∨ ∃ a, a < i + 1 ∧ hdC (M.1 (48, 0)) st a ∧ r = sec a ∧ t ≤ (sec a).toNatClampNeg ∧ ∀ j, j < i + 1 → hdC (M.1 (48, 0)) st j → t ≤ (sec j).toNatClampNeg → (sec a).toNatClampNeg ≤ (sec j).toNatClampNeg) := by
        intro hs
        rcases hr with ⟨r1, r2⟩ | ⟨a, r1, r2, r3, r4, r5⟩
        · refine Or.inl ⟨r1, fun j hj q => ?_⟩
          by_cases e : j = i
          · subst e; exact hs q
          · exact r2 j (by omega) q
        · refine Or.inr ⟨a, by omega, r2, r3, r4, fun j hj q q2 => ?_⟩
          by_cases e : j = i
          · subst e; have := hs q; omega
          · exact r5 j (by omega) q q2
      refine ⟨nI_in' (by omega) (by omega), fun x3 e3 => ⟨fun c3 x5 e5 => ?_, fun c3 => ?_⟩⟩
      · rw [e5, nI_1]
        refine ih (i + 1) r (by omega) (skip (fun q => ?_))
        rw [e3, if_neg q.1, if_neg q.2] at c3
        obtain ⟨ev, lv⟩ := nI_of' (hv i (by omega) q.2) (by omega)
        by_cases q2 : sec i < nI t
        · rw [ev] at q2; exact (nI_lt' (by omega) (by omega)).mp q2
        · rw [if_neg q2] at c3; exact absurd c3 (by decide)
      · have hq : hdC (M.1 (48, 0)) st i ∧ ¬ sec i < nI t := by
          rw [e3] at c3
          by_cases q1 : M.1 (48, 0) i = 0
          · rw [if_pos q1] at c3; exact absurd rfl c3
          · rw [if_neg q1] at c3
            by_cases q2 : st i = -1
            · rw [if_pos q2] at c3; exact absurd rfl c3
            · rw [if_neg q2] at c3
              by_cases q3 : sec i < nI t
              · rw [if_pos q3] at c3; exact absurd rfl c3
              · exact ⟨⟨q1, q2⟩, q3⟩
        obtain ⟨ev, lv⟩ := nI_of' (hv i (by omega) hq.1.2) (by omega)
        have hti : t ≤ (sec i).toNatClampNeg := by
          have q2 := hq.2
          rw [ev] at q2
          exact Nat.not_lt.mp (fun z => q2 ((nI_lt' (by omega) (by omega)).mpr z))
        refine ⟨fun c4 x7 e7 x8 e8 => ?_, fun c4 => ⟨fun c5 x10 e10 => ?_, fun c5 x11 e11 x12 e12 => ?_⟩⟩
        · rw [e8, nI_1, e7]
          refine ih (i + 1) _ (by omega) (Or.inr ⟨i, by omega, hq.1, rfl, hti, fun j hj q q2 => ?_⟩)
          rcases hr with ⟨r1, r2⟩ | ⟨a, r1, r2, r3, r4, r5⟩
          · by_cases e : j = i
            · subst e; exact Nat.le_refl _
            · have := r2 j (by omega) q; omega
          · exfalso
            obtain ⟨ea, la⟩ := nI_of' (hv a (by omega) r2.2) (by omega)
            rw [r3, ea] at c4
            exact nI_ne_m1 (by omega) c4
        · rw [e10, nI_1]
          rcases hr with ⟨r1, r2⟩ | ⟨a, r1, r2, r3, r4, r5⟩
          · exact absurd r1 c4
          · refine ih (i + 1) r (by omega) (Or.inr ⟨a, by omega, r2, r3, r4, fun j hj q q2 => ?_⟩)
            by_cases e : j = i
            · subst e
              obtain ⟨ea, la⟩ := nI_of' (hv a (by omega) r2.2) (by omega)
              rw [r3, ea, ev] at c5
              exact (nI_le' (by omega) (by omega)).mp c5
            · exact r5 j (by omega) q q2
        · rw [e12, nI_1, e11]
          rcases hr with ⟨r1, r2⟩ | ⟨a, r1, r2, r3, r4, r5⟩
          · exact absurd r1 c4
          · refine ih (i + 1) _ (by omega) (Or.inr ⟨i, by omega, hq.1, rfl, hti, fun j hj q q2 => ?_⟩)
            by_cases e : j = i
            · subst e; exact Nat.le_refl _
            · obtain ⟨ea, la⟩ := nI_of' (hv a (by omega) r2.2) (by omega)
              have h5 := r5 j (by omega) q q2
              rw [r3, ea, ev] at c5
              have : ¬ (sec a).toNatClampNeg ≤ (sec i).toNatClampNeg := fun z => c5 ((nI_le' (by omega) (by omega)).mpr z)
              omega
  exact eg_S.of rfl (Nat.le_of_ble_eq_true rfl) (vX8_nextSecond_0 M _ (key c 0 (-1) (by omega) (Or.inl ⟨rfl, fun j hj => absurd hj (Nat.not_lt_zero _)⟩)))
/-- one count is so -/
def okC (Y lo hi st : Nat → Int32) (i : Nat) : Prop := ¬ Y (320 + 8 * (st i).toNatClampNeg) < lo i ∧ Y (320 + 8 * (st i).toNatClampNeg) ≤ hi i
theorem sX8_agrees {κ : eg_K} {d : Nat} (M : eg_H) {c s : Nat} {st sec lo hi Y : Nat → Int32} (hS : ctS M c st sec) (hs : s < 3600) (hv : ∀ i, i < c → ¬ st i = -1 → vp_in (sec i) 3600 ∧ vp_in (st i) 5 ∧ M.1 (46, 0) i = lo i ∧ M.1 (47, 0) i = hi i ∧ M.1 (4, 5 * 1 + (st i).toNatClampNeg) 0 = Y (320 + 8 * (st i).toNatClampNeg)) : eg_S κ gC mtX8_agrees d [vR (8, 0), vI (nI s), vR (7, 1)] M (eQI κ gC (fun r M1 => M1 = M ∧ ((r = 1 ∧ ∀ i, i < c → hdC (M.1 (48, 0)) st i → (sec i).toNatClampNeg = s → okC Y lo hi st i) ∨ (r = 0 ∧ ∃ i, i < c ∧ hdC (M.1 (48, 0)) st i ∧ (sec i).toNatClampNeg = s ∧ ¬ okC Y lo hi st i)))) := by
  obtain ⟨hc, h80, hS⟩ := hS
  have key : ∀ (k i : Nat), i + k = c → (∀ j, j < i → hdC (M.1 (48, 0)) st j → (sec j).toNatClampNeg = s → okC Y lo hi st j) → eg_W κ gC mtX8_agrees d (eQI κ gC (fun r M1 => M1 = M ∧ ((r = 1 ∧ ∀ i, i < c → hdC (M.1 (48, 0)) st i → (sec i).toNatClampNeg = s → okC Y lo hi st i) ∨ (r = 0 ∧ ∃ i, i < c ∧ hdC (M.1 (48, 0)) st i ∧ (sec i).toNatClampNeg = s ∧ ¬ okC Y lo hi st i)))) 2 [(0, vR (8, 0)), (1, vI (nI s)), (2, vR (7, 1)), (3, vI (nI i))] [] M := by
    intro k
    induction k with
    | zero =>
      intro i hi' hr
      have ei : i = c := by omega
      subst ei
      exact vX8_agrees_2 M _ (by omega) _ ⟨fun _ => ⟨rfl, Or.inl ⟨rfl, hr⟩⟩, fun q => absurd (by rw [h80]; exact nI_le (Nat.le_refl _) (by omega)) q⟩
    | succ k ih =>
      intro i hi' hr
      obtain ⟨a1, a2⟩ := hS i (by omega)
      have go : (hdC (M.1 (48, 0)) st i → (sec i).toNatClampNeg = s → okC Y lo hi st i) → ∀ x, x = nI i + 1 → eg_W κ gC mtX8_agrees d (eQI κ gC (fun r M1 => M1 = M ∧ ((r = 1 ∧ ∀ i, i < c → hdC (M.1 (48, 0)) st i → (sec i).toNatClampNeg = s → okC Y lo hi st i) ∨ (r = 0 ∧ ∃ i, i < c ∧ hdC (M.1 (48, 0)) st i ∧ (sec i).toNatClampNeg = s ∧ ¬ okC Y lo hi st i)))) 2 [(0, vR (8, 0)), (1, vI (nI s)), (2, vR (7, 1)), (3, vI x)] [] M := by
        intro q x e
        rw [e, nI_1]
        refine ih (i + 1) (by omega) (fun j hj => ?_)
        by_cases e : j = i
        · subst e; exact q
        · exact hr j (by omega)
      refine vX8_agrees_2 M _ (by omega) _ ⟨fun q => absurd (by rw [h80] at q; exact q) (nI_ge (by omega) (by omega)), fun _ => ?_⟩
      rw [nI_t (by omega), a1, a2]
      refine ⟨nI_in' (by omega) (by omega), fun c1 => go (fun q => absurd c1 q.1), fun c1 => ⟨fun c2 => go (fun q => absurd c2 q.2), fun c2 => ?_⟩⟩
      obtain ⟨v1, v2, v3, v4, v5⟩ := hv i (by omega) c2
      obtain ⟨ev, lv⟩ := nI_of' v1 (by omega)
      refine ⟨fun c3 => go (fun _ q => absurd (by rw [ev, q]) c3), fun c3 => ⟨v2, fun x10 e10 => ?_⟩⟩
      have es : (sec i).toNatClampNeg = s := by rw [c3, nI_t (by omega)]
      rw [v5] at e10
      rw [e10, v3, v4]
      refine ⟨fun c4 => ⟨rfl, Or.inr ⟨rfl, i, by omega, ⟨c1, c2⟩, es, fun q => q.1 c4⟩⟩, fun c4 => ⟨fun c5 => go (fun _ _ => ⟨c4, c5⟩), fun c5 => ⟨rfl, Or.inr ⟨rfl, i, by omega, ⟨c1, c2⟩, es, fun q => c5 q.2⟩⟩⟩⟩
  exact eg_S.of rfl (Nat.le_of_ble_eq_true rfl) (vX8_agrees_0 M _ (by omega) (key c 0 (by omega) (fun j hj => absurd hj (Nat.not_lt_zero _))))
