/-! WHAT IS TAKEN is counted twice alike; a station without a pan has no portions; who is out stays as they are -/
theorem sm_one {f : Nat → Int32} {a : Nat} (h : Int32) : ∀ {n : Nat}, a < n → sm (fun k => if k = a then f k + h else f k) n = sm f n + h
  | 0, ha => absurd ha (Nat.not_lt_zero _)
  | n + 1, ha => by
    show sm (fun k => if k = a then f k + h else f k) n + (if n = a then f n + h else f n) = sm f n + f n + h
    by_cases e : n = a
    · subst e
      rw [if_pos rfl, sm_cong (g := f) (fun k hk => if_neg (by omega)), Int32.add_assoc]
    · rw [if_neg e, sm_one h (by omega), Int32.add_assoc, Int32.add_assoc, Int32.add_comm h]
def kS (E : eg_E) (Y : Nat → Int32) : Prop := sm (fun s => Y (320 + 8 * s + 3)) (eN E) = sm (fun g => Y (20 + 20 * g + 5)) (eP E)
def zI (E : eg_E) (Y : Nat → Int32) : Prop := ∀ s, s < eN E → eD E s 2 = 0 → Y (320 + 8 * s) = 0
def kz (E : eg_E) (Y : Nat → Int32) : Prop := kS E Y ∧ zI E Y
theorem kz_of {E : eg_E} {Y Z : Nat → Int32} (h : kz E Y) (h1 : ∀ s, s < eN E → Z (320 + 8 * s + 3) = Y (320 + 8 * s + 3)) (h2 : ∀ g, g < eP E → Z (20 + 20 * g + 5) = Y (20 + 20 * g + 5)) (h3 : ∀ s, s < eN E → eD E s 2 = 0 → Z (320 + 8 * s) = Y (320 + 8 * s)) : kz E Z := by
  refine ⟨?_, fun s hs hz => by rw [h3 s hs hz]; exact h.2 s hs hz⟩
  unfold kS
  rw [sm_cong h1, sm_cong h2]
  exact h.1
theorem fillF_K {E : eg_E} {C : Nat} {Y : Nat → Int32} (hE : wE E) (hY : yI E C Y) (h : kz E Y) {s : Nat} (hs : s < eN E) : kz E (fillF E s Y) := by
  have hn := hE.1
  have hN := hE.2.1
  unfold fillF
  split
  · exact h
  · rename_i c
    refine kz_of h (fun a ha => ?_) (fun g hg => ?_) (fun a ha hz => ?_)
    · rw [pk_un (by omega), pk_un (by omega), pk_un (by omega), pk_un (by omega)]
    · rw [pk_un (by omega), pk_un (by omega), pk_un (by omega), pk_un (by omega)]
    · have e : a ≠ s := by
        intro e
        subst e
        rcases (hY.2.2.2.1 a ha).2 with q | q
        · exact c (Or.inl (by rw [q]; decide))
        · exact q.2 hz
      rw [pk_un (by omega), pk_un (by omega), pk_un (by omega), pk_un (by omega)]
theorem admF_K {E : eg_E} {Y : Nat → Int32} (hE : wE E) (h : kz E Y) (hq : (Y 1).toNatClampNeg < 16) {g : Nat} (hg : g < eP E) : kz E (admF E g Y) := by
  have hN := hE.2.1
  unfold admF
  split
  · unfold comeF
    refine kz_of h (fun a ha => ?_) (fun b hb => ?_) (fun a ha hz => ?_)
    · simp (disch := omega) only [pk_un]
    · simp (disch := omega) only [pk_un]
    · simp (disch := omega) only [pk_un]
  · exact h
theorem heapF_K {E : eg_E} {Y : Nat → Int32} (hE : wE E) (h : kz E Y) {g s : Nat} (hg : g < eP E) (hs : s < eN E) : kz E (heapF E g s Y) := by
  have hn := hE.1
  have hN := hE.2.1
  obtain ⟨h1, h2⟩ := h
  unfold heapF
  refine ⟨?_, fun a ha hz => ?_⟩
  · unfold kS at h1 ⊢
    have e1 : ∀ a, a < eN E → upd (upd (upd (upd (upd (upd Y (20 + 20 * g + 2) (Y (20 + 20 * g + 2) - heapH E Y g s)) (20 + 20 * g + 5) (Y (20 + 20 * g + 5) + heapH E Y g s)) (20 + 20 * g + 14 + s) (if Y (20 + 20 * g + 14 + s) ≤ heapH E Y g s then 0 else Y (20 + 20 * g + 14 + s) - heapH E Y g s)) (320 + 8 * s + 3) (Y (320 + 8 * s + 3) + heapH E Y g s)) (320 + 8 * s + 4) (Y (320 + 8 * s + 4) + (if eD E s 5 = 0 then 0 else if Y (320 + 8 * s + 1) < eD E s 5 then 0 else heapH E Y g s))) (320 + 8 * s) (Y (320 + 8 * s) - (if eD E s 2 = 0 then 0 else heapH E Y g s)) (320 + 8 * a + 3) = (fun k => if k = s then (fun k => Y (320 + 8 * k + 3)) k + heapH E Y g s else (fun k => Y (320 + 8 * k + 3)) k) a := by
      intro a ha
      dsimp only
      by_cases e : a = s
      · subst e; rw [if_pos rfl]; simp (disch := omega) only [pk_un, pk_us]
      · rw [if_neg e]; simp (disch := omega) only [pk_un]
    have e2 : ∀ b, b < eP E → upd (upd (upd (upd (upd (upd Y (20 + 20 * g + 2) (Y (20 + 20 * g + 2) - heapH E Y g s)) (20 + 20 * g + 5) (Y (20 + 20 * g + 5) + heapH E Y g s)) (20 + 20 * g + 14 + s) (if Y (20 + 20 * g + 14 + s) ≤ heapH E Y g s then 0 else Y (20 + 20 * g + 14 + s) - heapH E Y g s)) (320 + 8 * s + 3) (Y (320 + 8 * s + 3) + heapH E Y g s)) (320 + 8 * s + 4) (Y (320 + 8 * s + 4) + (if eD E s 5 = 0 then 0 else if Y (320 + 8 * s + 1) < eD E s 5 then 0 else heapH E Y g s))) (320 + 8 * s) (Y (320 + 8 * s) - (if eD E s 2 = 0 then 0 else heapH E Y g s)) (20 + 20 * b + 5) = (fun k => if k = g then (fun k => Y (20 + 20 * k + 5)) k + heapH E Y g s else (fun k => Y (20 + 20 * k + 5)) k) b := by
      intro a ha
      dsimp only
      by_cases e : a = g
      · subst e; rw [if_pos rfl]; simp (disch := omega) only [pk_un, pk_us]
      · rw [if_neg e]; simp (disch := omega) only [pk_un]
    rw [sm_cong e1, sm_cong e2, sm_one _ hs, sm_one _ hg, h1]
  · by_cases e : a = s
    · subst e
      rw [pk_us, if_pos hz, h2 a ha hz]
      decide
    · simp (disch := omega) only [pk_un]
      exact h2 a ha hz
theorem goToF_K {E : eg_E} {C : Nat} {Y : Nat → Int32} (hE : wE E) (hY : yI E C Y) (h : kz E Y) {g p : Nat} (hg : g < eP E) (hp : p < eN E) : kz E (goToF E g p Y) := by
  have hn := hE.1
  have hN := hE.2.1
  have hs := vp_lt (hY.2.1.1 p hp)
  unfold goToF skipF
  generalize (Y (360 + p)).toNatClampNeg = s at *
  have h1 : kz E (upd (upd Y (20 + 20 * g + 1) (nI p)) (20 + 20 * g + 10) 0) := kz_of h (fun a ha => by simp (disch := omega) only [pk_un]) (fun b hb => by simp (disch := omega) only [pk_un]) (fun a ha hz => by simp (disch := omega) only [pk_un])
  generalize upd (upd Y (20 + 20 * g + 1) (nI p)) (20 + 20 * g + 10) 0 = Y1 at *
  dsimp only
  split
  · exact kz_of h1 (fun a ha => by simp (disch := omega) only [pk_un]) (fun b hb => by simp (disch := omega) only [pk_un]) (fun a ha hz => by simp (disch := omega) only [pk_un])
  · split
    · exact kz_of (heapF_K hE h1 hg hs) (fun a ha => by simp (disch := omega) only [pk_un]) (fun b hb => by simp (disch := omega) only [pk_un]) (fun a ha hz => by simp (disch := omega) only [pk_un])
    · split
      · exact kz_of h1 (fun a ha => by simp (disch := omega) only [pk_un]) (fun b hb => by simp (disch := omega) only [pk_un]) (fun a ha hz => by simp (disch := omega) only [pk_un])
      · exact kz_of h1 (fun a ha => by simp (disch := omega) only [pk_un]) (fun b hb => by simp (disch := omega) only [pk_un]) (fun a ha hz => by simp (disch := omega) only [pk_un])
theorem sitF_o {E : eg_E} {Y : Nat → Int32} {i : Nat} (hq : (Y 1).toNatClampNeg < 16) (hg : (Y (2 + i)).toNatClampNeg < 15) {j : Nat} (hj : 20 ≤ j) (ho : j < 20 + 20 * (Y (2 + i)).toNatClampNeg ∨ 40 + 20 * (Y (2 + i)).toNatClampNeg ≤ j ∨ j = 20 + 20 * (Y (2 + i)).toNatClampNeg + 5) : sitF E i Y j = Y j := by
  obtain ⟨x6, x7, s2, b, e⟩ : ∃ x6 x7 s2 b, sitF E i Y = ool (upd (upd (upd (upd (upd (upd Y (20 + 20 * (Y (2 + i)).toNatClampNeg + 6) x6) (20 + 20 * (Y (2 + i)).toNatClampNeg + 7) x7) (20 + 20 * (Y (2 + i)).toNatClampNeg) s2) (20 + 20 * (Y (2 + i)).toNatClampNeg + 11) b) (20 + 20 * (Y (2 + i)).toNatClampNeg + 1) (-1)) (20 + 20 * (Y (2 + i)).toNatClampNeg + 2) (eC E (Y (2 + i)).toNatClampNeg 1)) i := ⟨_, _, _, _, rfl⟩
  rw [e]
  clear e
  generalize (Y (2 + i)).toNatClampNeg = g at *
  have e1 : (upd (upd (upd (upd (upd (upd Y (20 + 20 * g + 6) x6) (20 + 20 * g + 7) x7) (20 + 20 * g) s2) (20 + 20 * g + 11) b) (20 + 20 * g + 1) (-1)) (20 + 20 * g + 2) (eC E g 1)) 1 = Y 1 := by simp (disch := omega) only [pk_un]
  rw [ool_o (by rw [e1]; exact hq) (by omega)]
  simp (disch := omega) only [pk_un]
theorem goF_K {E : eg_E} {C : Nat} {Y : Nat → Int32} (hE : wE E) (hY : yI E C Y) (h : kz E Y) {i : Nat} (hi : i < (Y 1).toNatClampNeg) : kz E (goF E i Y).2 ∧ ∀ j, 20 ≤ j → j < 320 → (j < 20 + 20 * (Y (2 + i)).toNatClampNeg ∨ 40 + 20 * (Y (2 + i)).toNatClampNeg ≤ j) → (goF E i Y).2 j = Y j := by
  have hN := hE.2.1
  have hn := hE.1
  have hq := hY.q16 hE
  obtain ⟨hk1, hk2⟩ := hY.1.2.1 i hi
  have hg := vp_lt hk1
  unfold goF
  dsimp only
  split
  · refine ⟨kz_of h (fun a ha => ?_) (fun b hb => ?_) (fun a ha hz => ?_), fun j h1 h2 h4 => ?_⟩
    · dsimp only; simp (disch := omega) only [pk_un]
    · dsimp only; simp (disch := omega) only [pk_un]
    · dsimp only; simp (disch := omega) only [pk_un]
    · dsimp only; simp (disch := omega) only [pk_un]
  · split
    · have so : ∀ j, 20 ≤ j → (j < 20 + 20 * (Y (2 + i)).toNatClampNeg ∨ 40 + 20 * (Y (2 + i)).toNatClampNeg ≤ j ∨ j = 20 + 20 * (Y (2 + i)).toNatClampNeg + 5) → sitF E i Y j = Y j := fun j h1 h2 => sitF_o hq (by omega) h1 h2
      show kz E (sitF E i Y) ∧ ∀ j, 20 ≤ j → j < 320 → (j < 20 + 20 * (Y (2 + i)).toNatClampNeg ∨ 40 + 20 * (Y (2 + i)).toNatClampNeg ≤ j) → sitF E i Y j = Y j
      exact ⟨kz_of h (fun a ha => so _ (by omega) (by omega)) (fun b hb => so _ (by omega) (by omega)) (fun a ha hz => so _ (by omega) (by omega)), fun j h1 h2 h4 => so j h1 (by omega)⟩
    · rename_i c1 c2
      obtain ⟨p, ep, hp, _, _⟩ := nxF_r c2
      rw [ep, nI_t (by omega)]
      have hs : (Y (360 + p)).toNatClampNeg < 5 := by have := vp_lt (hY.2.1.1 p hp); omega
      exact ⟨goToF_K hE hY h hg hp, fun j h1 h2 h4 => goToF_o E _ p Y hs h2 (by omega)⟩
theorem walkF_K {E : eg_E} {C : Nat} (hE : wE E) (hC : C < 1000000) (a : Nat) (ha : a < 15) (v : Int32) : ∀ (n i : Nat) (Y : Nat → Int32), yI E C Y → kz E Y → kz E (walkF E n i Y) ∧ ((Y (20 + 20 * a) = 3 ∧ Y (20 + 20 * a + 4) = v) → walkF E n i Y (20 + 20 * a) = 3 ∧ walkF E n i Y (20 + 20 * a + 4) = v)
  | 0, _, _, _, h => ⟨h, fun q => q⟩
  | n + 1, i, Y, hY, h => by
    unfold walkF
    by_cases c : i < (Y 1).toNatClampNeg
    · rw [if_pos c]
      by_cases c3 : Y (20 + 20 * (Y (2 + i)).toNatClampNeg + 3) = 0
      · rw [if_pos c3]
        have h1 := (goF_I hE hC hY c).1
        obtain ⟨h2, h3⟩ := goF_K hE hY h c
        have st := (hY.1.2.1 i c).2
        have key : (Y (20 + 20 * a) = 3 ∧ Y (20 + 20 * a + 4) = v) → (goF E i Y).2 (20 + 20 * a) = 3 ∧ (goF E i Y).2 (20 + 20 * a + 4) = v := by
          intro q
          have : (Y (2 + i)).toNatClampNeg ≠ a := by
            intro e
            rw [e, q.1] at st
            exact absurd st (by decide)
          rw [h3 _ (by omega) (by omega) (by omega), h3 _ (by omega) (by omega) (by omega)]
          exact q
        split
        · exact ⟨(walkF_K hE hC a ha v n i _ h1 h2).1, fun q => (walkF_K hE hC a ha v n i _ h1 h2).2 (key q)⟩
        · exact ⟨(walkF_K hE hC a ha v n (i + 1) _ h1 h2).1, fun q => (walkF_K hE hC a ha v n (i + 1) _ h1 h2).2 (key q)⟩
      · rw [if_neg c3]
        exact walkF_K hE hC a ha v n (i + 1) _ hY h
    · rw [if_neg c]
      exact ⟨h, fun q => q⟩
theorem secF_K {E : eg_E} {C : Nat} {Y : Nat → Int32} (hE : wE E) (hC : C < 1000000) (hC2 : 119 ≤ C) (hY : yI E C Y) (h : kz E Y) (a : Nat) (ha : a < 15) (v : Int32) : kz E (secF E Y) ∧ ((Y (20 + 20 * a) = 3 ∧ Y (20 + 20 * a + 4) = v) → secF E Y (20 + 20 * a) = 3 ∧ secF E Y (20 + 20 * a + 4) = v) := by
  have hN := hE.2.1
  have hn := hE.1
  have F : ∀ n, n ≤ eN E → kz E (itr (fillF E) n Y) := by
    intro n
    induction n with
    | zero => exact fun _ => h
    | succ n ih => exact fun hn => fillF_K hE (fillA_I hE hC hY n (by omega)) (ih (by omega)) (by omega)
  have K1 := F (eN E) (Nat.le_refl _)
  have I1 := fillA_I hE hC hY (eN E) (Nat.le_refl _)
  have fx : ∀ j, j < 320 → itr (fillF E) (eN E) Y j = Y j := fun j hj => itr_hi (fun k Z => fillF_hi E k Z hj) _
  unfold secF
  dsimp only
  generalize itr (fillF E) (eN E) Y = Y0 at *
  have IO : ∀ n, n ≤ eP E → kz E (itr (admF E) n Y0) ∧ ((Y0 (20 + 20 * a) = 3 ∧ Y0 (20 + 20 * a + 4) = v) → itr (admF E) n Y0 (20 + 20 * a) = 3 ∧ itr (admF E) n Y0 (20 + 20 * a + 4) = v) := by
    intro n
    induction n with
    | zero => exact fun _ => ⟨K1, fun q => q⟩
    | succ n ih =>
      intro hn2
      have ih' := ih (by omega)
      have I := admA_I hE I1 n (by omega)
      rw [itr_s]
      refine ⟨admF_K hE ih'.1 (I.q16 hE) (by omega), fun q => ?_⟩
      have q2 := ih'.2 q
      have hq := I.q16 hE
      generalize itr (admF E) n Y0 = Z at *
      unfold admF
      split
      · rename_i c
        have e : n ≠ a := by
          intro e
          subst e
          rw [q2.1] at c
          rcases c.1 with c | c <;> exact absurd c (by decide)
        unfold comeF
        simp (disch := omega) only [pk_un]
        exact q2
      · exact q2
  have I2 := admA_I hE I1 (eP E) (Nat.le_refl _)
  obtain ⟨K2, k2⟩ := IO (eP E) (Nat.le_refl _)
  generalize itr (admF E) (eP E) Y0 = Y1 at *
  have I3 := (walkF_I hE hC (Y1 1).toNatClampNeg 0 Y1 I2).1
  obtain ⟨K3, k3⟩ := walkF_K hE hC a ha v (Y1 1).toNatClampNeg 0 Y1 I2 K2
  generalize walkF E (Y1 1).toNatClampNeg 0 Y1 = Y2 at *
  have T : ∀ n, n ≤ (Y2 1).toNatClampNeg → kz E (itr tkoF n Y2) ∧ itr tkoF n Y2 (20 + 20 * a) = Y2 (20 + 20 * a) ∧ itr tkoF n Y2 (20 + 20 * a + 4) = Y2 (20 + 20 * a + 4) := by
    intro n
    induction n with
    | zero => exact fun _ => ⟨K3, rfl, rfl⟩
    | succ n ih =>
      intro hn2
      have ih' := ih (by omega)
      obtain ⟨I, i1⟩ := tkoA_I hE I3 n (by omega)
      rw [itr_s]
      have hb := vp_lt (I.1.2.1 n (by rw [i1]; omega)).1
      generalize itr tkoF n Y2 = Z at *
      unfold tkoF
      refine ⟨kz_of ih'.1 (fun a ha => by simp (disch := omega) only [pk_un]) (fun b hb => by simp (disch := omega) only [pk_un]) (fun a ha hz => by simp (disch := omega) only [pk_un]), ?_, ?_⟩
      · simp (disch := omega) only [pk_un]; exact ih'.2.1
      · simp (disch := omega) only [pk_un]; exact ih'.2.2
  obtain ⟨K4, k4, k5⟩ := T _ (Nat.le_refl _)
  generalize itr tkoF (Y2 1).toNatClampNeg Y2 = Y3 at *
  have pp : ∀ n, n ≤ eN E → kz E (itr (pansF E) n Y3) := by
    intro n
    induction n with
    | zero => exact fun _ => K4
    | succ n ih =>
      intro hn2
      rw [itr_s]
      have ih' := ih (by omega)
      generalize itr (pansF E) n Y3 = Z at *
      unfold pansF
      split
      · exact ih'
      · dsimp only
        refine kz_of ih' (fun a ha => ?_) (fun b hb => ?_) (fun a ha hz => ?_)
        · rw [pk_un (by omega), pk_un (by omega)]
          split
          · rw [pk_un (by omega)]
          · rfl
        · rw [pk_un (by omega), pk_un (by omega)]
          split
          · rw [pk_un (by omega)]
          · rfl
        · rw [pk_un (by omega), pk_un (by omega)]
          split
          · rw [pk_un (by omega)]
          · rfl
  refine ⟨kz_of (pp _ (Nat.le_refl _)) (fun a ha => by rw [pk_un (by omega)]) (fun b hb => by rw [pk_un (by omega)]) (fun a ha hz => by rw [pk_un (by omega)]), fun q => ?_⟩
  have fin : ∀ j, 20 ≤ j → j < 320 → upd (itr (pansF E) (eN E) Y3) 0 (itr (pansF E) (eN E) Y3 0 + 1) j = Y3 j := by
    intro j h1 h2
    rw [pk_un (by omega)]
    exact itr_hi (fun k Z => pansF_hi E k Z h2) _
  rw [fin _ (by omega) (by omega), fin _ (by omega) (by omega), k4, k5]
  exact k3 (k2 (by rw [fx _ (by omega), fx _ (by omega)]; exact q))
theorem secN_K {E : eg_E} {C : Nat} {Y : Nat → Int32} (hE : wE E) (hC : C < 1000000) (hC2 : 119 ≤ C) (hY : yI E C Y) (h : kz E Y) (a : Nat) (ha : a < 15) (v : Int32) : ∀ n : Nat, (Y 0).toInt + n ≤ 3600 → kz E (secN E n Y) ∧ ((Y (20 + 20 * a) = 3 ∧ Y (20 + 20 * a + 4) = v) → secN E n Y (20 + 20 * a) = 3 ∧ secN E n Y (20 + 20 * a + 4) = v) := by
  intro n
  induction n with
  | zero => intro _; rw [secN_0]; exact ⟨h, fun q => q⟩
  | succ n ih =>
    intro hn
    have ih' := ih (by omega)
    rw [secN_s]
    obtain ⟨a1, a2⟩ := secF_K hE hC hC2 (secN_I hE hC hC2 hY n (by omega)).1 ih'.1 a ha v
    exact ⟨a1, fun q => a2 (ih'.2 q)⟩
theorem sm_zero {f : Nat → Int32} : ∀ {n : Nat}, (∀ k, k < n → f k = 0) → sm f n = 0
  | 0, _ => rfl
  | n + 1, h => by
    show sm f n + f n = 0
    rw [sm_zero (fun k hk => h k (by omega)), h n (by omega)]
    rfl
theorem bg_K {E : eg_E} {R Y : Nat → Int32} (hY : bgY E R Y) : kz E Y := by
  refine ⟨?_, fun s hs hz => ?_⟩
  · unfold kS
    rw [sm_zero (fun s hs => (hY.2.2.2.1 s hs).2.2.2.1), sm_zero (fun g hg => (hY.2.2.2.2 g hg).1.2.2.2.2.1)]
  · rw [(hY.2.2.2.1 s hs).1, hz]
/-! WHO IS THERE stands in the line -/
def lI (E : eg_E) (Y : Nat → Int32) : Prop := ∀ g, g < eP E → Y (20 + 20 * g) = 1 → ∃ k, k < (Y 1).toNatClampNeg ∧ Y (2 + k) = nI g
theorem lI_of {E : eg_E} {Y Z : Nat → Int32} (h : lI E Y) (hN : eP E < 16) (hq : (Y 1).toNatClampNeg < 16) (h1 : Z 1 = Y 1) (h2 : ∀ k, k < 16 → Z (2 + k) = Y (2 + k)) (h3 : ∀ g, g < 15 → Z (20 + 20 * g) = Y (20 + 20 * g)) : lI E Z := by
  intro g hg hs
  rw [h3 g (by omega)] at hs
  obtain ⟨k, hk, e⟩ := h g hg hs
  exact ⟨k, by rw [h1]; exact hk, by rw [h2 k (by omega)]; exact e⟩
theorem lI_hi {E : eg_E} {Y Z : Nat → Int32} (h : lI E Y) (hN : eP E < 16) (hq : (Y 1).toNatClampNeg < 16) (hz : ∀ j, 1 ≤ j → j < 320 → Z j = Y j) : lI E Z := lI_of h hN hq (hz 1 (by omega) (by omega)) (fun k hk => hz _ (by omega) (by omega)) (fun g hg => hz _ (by omega) (by omega))
theorem admF_L {E : eg_E} {Y : Nat → Int32} (h : lI E Y) (hN : eP E < 16) (q1 : Y 1 = nI (Y 1).toNatClampNeg) (hq : (Y 1).toNatClampNeg < 16) (g : Nat) : lI E (admF E g Y) := by
  unfold admF
  split
  · intro a ha
    unfold comeF
    generalize hm : (Y 1).toNatClampNeg = m at *
    have e1 : (Y 1 + 1).toNatClampNeg = m + 1 := by rw [q1, nI_1, nI_t (by omega)]
    rw [pk_us, e1]
    by_cases e : a = g
    · intro _
      exact ⟨m, by omega, by rw [pk_un (by omega), pk_us, e]⟩
    · simp (disch := omega) only [pk_un]
      intro hs
      obtain ⟨k, hk, ek⟩ := h a ha hs
      rw [hm] at hk
      exact ⟨k, by omega, by simp (disch := omega) only [pk_un]; exact ek⟩
  · exact h
theorem sitF_L {E : eg_E} {C : Nat} {Y : Nat → Int32} (hE : wE E) (hY : yI E C Y) (h : lI E Y) {i : Nat} (hi : i < (Y 1).toNatClampNeg) : lI E (sitF E i Y) := by
  have hN := hE.2.1
  have hg := vp_lt (hY.1.2.1 i hi).1
  have hq := hY.q16 hE
  have ei := (nI_of' (hY.1.2.1 i hi).1 (by omega)).1
  have hz := (sitF_I hE hY hi).2
  obtain ⟨x6, x7, s2, b, hs2, e⟩ : ∃ x6 x7 s2 b, s2 ≠ 1 ∧ sitF E i Y = ool (upd (upd (upd (upd (upd (upd Y (20 + 20 * (Y (2 + i)).toNatClampNeg + 6) x6) (20 + 20 * (Y (2 + i)).toNatClampNeg + 7) x7) (20 + 20 * (Y (2 + i)).toNatClampNeg) s2) (20 + 20 * (Y (2 + i)).toNatClampNeg + 11) b) (20 + 20 * (Y (2 + i)).toNatClampNeg + 1) (-1)) (20 + 20 * (Y (2 + i)).toNatClampNeg + 2) (eC E (Y (2 + i)).toNatClampNeg 1)) i := by
    have hst : ∀ c : Int32, (if c = 0 then (3 : Int32) else 2) ≠ 1 := fun c => by by_cases q : c = 0 <;> simp [q]
    exact ⟨_, _, _, _, hst _, rfl⟩
  rw [e] at hz ⊢
  clear e
  generalize (Y (2 + i)).toNatClampNeg = g at *
  have e1 : (upd (upd (upd (upd (upd (upd Y (20 + 20 * g + 6) x6) (20 + 20 * g + 7) x7) (20 + 20 * g) s2) (20 + 20 * g + 11) b) (20 + 20 * g + 1) (-1)) (20 + 20 * g + 2) (eC E g 1)) 1 = Y 1 := by simp (disch := omega) only [pk_un]
  have ek : ∀ k, k < 16 → (upd (upd (upd (upd (upd (upd Y (20 + 20 * g + 6) x6) (20 + 20 * g + 7) x7) (20 + 20 * g) s2) (20 + 20 * g + 11) b) (20 + 20 * g + 1) (-1)) (20 + 20 * g + 2) (eC E g 1)) (2 + k) = Y (2 + k) := fun k hk => by simp (disch := omega) only [pk_un]
  have es : ∀ a, a < 15 → a ≠ g → (upd (upd (upd (upd (upd (upd Y (20 + 20 * g + 6) x6) (20 + 20 * g + 7) x7) (20 + 20 * g) s2) (20 + 20 * g + 11) b) (20 + 20 * g + 1) (-1)) (20 + 20 * g + 2) (eC E g 1)) (20 + 20 * a) = Y (20 + 20 * a) := fun a ha hne => by simp (disch := omega) only [pk_un]
  have eg : (upd (upd (upd (upd (upd (upd Y (20 + 20 * g + 6) x6) (20 + 20 * g + 7) x7) (20 + 20 * g) s2) (20 + 20 * g + 11) b) (20 + 20 * g + 1) (-1)) (20 + 20 * g + 2) (eC E g 1)) (20 + 20 * g) = s2 := by simp (disch := omega) only [pk_un, pk_us]
  generalize upd (upd (upd (upd (upd (upd Y (20 + 20 * g + 6) x6) (20 + 20 * g + 7) x7) (20 + 20 * g) s2) (20 + 20 * g + 11) b) (20 + 20 * g + 1) (-1)) (20 + 20 * g + 2) (eC E g 1) = Z at *
  intro a ha
  rw [ool_o (by rw [e1]; exact hq) (by omega)]
  by_cases c : a = g
  · rw [c, eg]
    exact fun q => absurd q hs2
  · rw [es a (by omega) c]
    intro hs
    obtain ⟨k, hk, ekk⟩ := h a ha hs
    have hki : k ≠ i := by
      intro q
      rw [q, ei] at ekk
      exact c ((nI_eq' (by omega) (by omega)).mp ekk).symm
    by_cases c2 : i ≤ k
    · refine ⟨k - 1, by omega, ?_⟩
      rw [ool_k (by rw [e1]; omega), if_pos (by omega), show k - 1 + 1 = k by omega, ek k (by omega)]
      exact ekk
    · refine ⟨k, by omega, ?_⟩
      rw [ool_k (by rw [e1]; omega), if_neg (by omega), ek k (by omega)]
      exact ekk
theorem goF_L {E : eg_E} {C : Nat} {Y : Nat → Int32} (hE : wE E) (hY : yI E C Y) (h : lI E Y) {i : Nat} (hi : i < (Y 1).toNatClampNeg) : lI E (goF E i Y).2 := by
  have hN := hE.2.1
  have hn := hE.1
  have hS := sitF_L hE hY h hi
  have hq := hY.q16 hE
  obtain ⟨hk1, hk2⟩ := hY.1.2.1 i hi
  have hg := vp_lt hk1
  unfold goF
  dsimp only
  generalize (Y (2 + i)).toNatClampNeg = g at *
  split
  · refine lI_of h hN hq ?_ (fun k hk => ?_) (fun a ha => ?_)
    · dsimp only; rw [pk_un (by omega), pk_un (by omega)]
    · dsimp only; rw [pk_un (by omega), pk_un (by omega)]
    · dsimp only; rw [pk_un (by omega), pk_un (by omega)]
  · split
    · exact hS
    · rename_i c1 c2
      obtain ⟨p, ep, hp, _, _⟩ := nxF_r c2
      rw [ep, nI_t (by omega)]
      have hs : (Y (360 + p)).toNatClampNeg < 5 := by have := vp_lt (hY.2.1.1 p hp); omega
      exact lI_of h hN hq (goToF_o E g p Y hs (by omega) (by omega)) (fun k hk => goToF_o E g p Y hs (by omega) (by omega)) (fun a ha => goToF_o E g p Y hs (by omega) (by omega))
theorem walkF_L {E : eg_E} {C : Nat} (hE : wE E) (hC : C < 1000000) : ∀ (n i : Nat) (Y : Nat → Int32), yI E C Y → lI E Y → lI E (walkF E n i Y)
  | 0, _, _, _, h => h
  | n + 1, i, Y, hY, h => by
    unfold walkF
    by_cases c : i < (Y 1).toNatClampNeg
    · rw [if_pos c]
      by_cases c3 : Y (20 + 20 * (Y (2 + i)).toNatClampNeg + 3) = 0
      · rw [if_pos c3]
        have h1 := (goF_I hE hC hY c).1
        have h2 := goF_L hE hY h c
        split
        · exact walkF_L hE hC n i _ h1 h2
        · exact walkF_L hE hC n (i + 1) _ h1 h2
      · rw [if_neg c3]
        exact walkF_L hE hC n (i + 1) _ hY h
    · rw [if_neg c]
      exact h
theorem tkoA_L {E : eg_E} {C : Nat} {Y : Nat → Int32} (hE : wE E) (hY : yI E C Y) (h : lI E Y) (n : Nat) (hn : n ≤ (Y 1).toNatClampNeg) : lI E (itr tkoF n Y) ∧ yI E C (itr tkoF n Y) ∧ itr tkoF n Y 1 = Y 1 := by
  have hN := hE.2.1
  refine itr_inv (P := fun _ Z => lI E Z ∧ yI E C Z ∧ Z 1 = Y 1) ⟨h, hY, rfl⟩ (fun k Z hk hZ => ?_)
  obtain ⟨z1, z2, z3⟩ := hZ
  have hk' : k < (Z 1).toNatClampNeg := by rw [z3]; omega
  obtain ⟨i1, i2⟩ := tkoF_I hE z2 hk'
  have hb := vp_lt (z2.1.2.1 k hk').1
  refine ⟨?_, i1, i2.trans z3⟩
  refine lI_of z1 hN (z2.q16 hE) i2 (fun j hj => ?_) (fun a ha => ?_)
  · unfold tkoF
    rw [pk_un (by omega)]
  · unfold tkoF
    rw [pk_un (by omega)]
theorem secF_L {E : eg_E} {C : Nat} {Y : Nat → Int32} (hE : wE E) (hC : C < 1000000) (hY : yI E C Y) (h : lI E Y) : lI E (secF E Y) := by
  have hN := hE.2.1
  have I1 := fillA_I hE hC hY (eN E) (Nat.le_refl _)
  have O1 : lI E (itr (fillF E) (eN E) Y) := lI_hi h hN (hY.q16 hE) (fun j _ hj => itr_hi (fun k Z => fillF_hi E k Z hj) _)
  have IO : ∀ n, n ≤ eP E → lI E (itr (admF E) n (itr (fillF E) (eN E) Y)) := by
    intro n
    induction n with
    | zero => exact fun _ => O1
    | succ n ih =>
      intro hn
      have I := admA_I hE I1 n (by omega)
      exact admF_L (ih (by omega)) hN (nI_of' I.1.1 (by omega)).1 (I.q16 hE) n
  have I2 := admA_I hE I1 (eP E) (Nat.le_refl _)
  have O2 := IO (eP E) (Nat.le_refl _)
  unfold secF
  dsimp only
  generalize itr (admF E) (eP E) (itr (fillF E) (eN E) Y) = Y1 at *
  have I3 := (walkF_I hE hC (Y1 1).toNatClampNeg 0 Y1 I2).1
  have O3 := walkF_L hE hC (Y1 1).toNatClampNeg 0 Y1 I2 O2
  generalize walkF E (Y1 1).toNatClampNeg 0 Y1 = Y2 at *
  have O4 := tkoA_L hE I3 O3 _ (Nat.le_refl _)
  generalize itr tkoF (Y2 1).toNatClampNeg Y2 = Y3 at *
  refine lI_hi O4.1 hN (O4.2.1.q16 hE) (fun j h1 h2 => ?_)
  rw [pk_un (by omega)]
  exact itr_hi (fun k Z => pansF_hi E k Z h2) _
theorem secN_L {E : eg_E} {C : Nat} {Y : Nat → Int32} (hE : wE E) (hC : C < 1000000) (hC2 : 119 ≤ C) (hY : yI E C Y) (h : lI E Y) : ∀ n : Nat, (Y 0).toInt + n ≤ 3600 → lI E (secN E n Y) := by
  intro n
  induction n with
  | zero => intro _; rw [secN_0]; exact h
  | succ n ih =>
    intro hn
    rw [secN_s]
    exact secF_L hE hC (secN_I hE hC hC2 hY n (by omega)).1 (ih (by omega))
theorem bg_L {E : eg_E} {R Y : Nat → Int32} (hY : bgY E R Y) : lI E Y := by
  intro g hg hs
  rcases (hY.2.2.2.2 g hg).2.1 with q | q
  · rw [q.2.1] at hs; exact absurd hs (by decide)
  · rw [q.2] at hs; exact absurd hs (by decide)
