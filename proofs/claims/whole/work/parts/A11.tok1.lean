/-! WORDS AND NUMBERS READ -/
theorem lt6 {a : Nat} (h : a < 1000) : (6 : Int32) < nI a ↔ 6 < a := nI_lt' (a := 6) (by omega) (by omega)
theorem le6 {a : Nat} (h : a < 1000) : nI a ≤ (6 : Int32) ↔ a ≤ 6 := nI_le' (b := 6) (by omega) (by omega)
theorem sh31 : ∀ j, j < 6 → nI (5 * (5 - j)) &&& 31 = nI (5 * (5 - j)) := by decide +kernel
def wdK (L : Nat → Int32) (n : Nat) : Int32 := if fstL (lsF L n) cWs 0 = -1 then (if n ≤ 6 then 38 else 40) else fstL (lsF L n) cWs 0
theorem sX9_readWord {κ : eg_K} {d : Nat} (hd : 6 ≤ d) (M : eg_H) {n p q : Nat} (h1 : M.1 (9, 0) 1 = nI n) (hn : n ≤ 800) (h2 : M.1 (9, 0) 2 = nI p) (hpq : p < q ∧ q ≤ n) (hl : ∀ i, p ≤ i → i < q → ¬ M.1 (50, 0) i < 97 ∧ ¬ 122 < M.1 (50, 0) i) (hs : q = n ∨ (q < n ∧ ¬ (¬ M.1 (50, 0) q < 97 ∧ ¬ 122 < M.1 (50, 0) q))) : eg_S κ gC mtX9_readWord d [vR (9, 0)] M (eQV κ gC (fun X => X = sI (sI (sI M (9, 0) 3 (nI q)) (9, 0) 6 (pkC (fun i => M.1 (50, 0) (p + i)) (q - p))) (9, 0) 4 (wdK (fun i => M.1 (50, 0) (p + i)) (q - p)))) := by
  have k74 : eg_W κ gC mtX9_readWord d (eQV κ gC (fun X => X = sI (sI (sI M (9, 0) 3 (nI q)) (9, 0) 6 (pkC (fun i => M.1 (50, 0) (p + i)) (q - p))) (9, 0) 4 (wdK (fun i => M.1 (50, 0) (p + i)) (q - p)))) 74 [(0, vR (9, 0)), (1, vI (nI q)), (2, vI (pkC (fun i => M.1 (50, 0) (p + i)) (q - p)))] [] M := by
    refine vX9_readWord_74 (by omega) M _ _ (fun M1 e1 M2 e2 => ?_)
    have g2 : M2.1 (9, 0) 2 = nI p := by rw [e2, sI_9, if_neg (by decide), e1, sI_9, if_neg (by decide), h2]
    have g3 : M2.1 (9, 0) 3 = nI q := by rw [e2, sI_9, if_neg (by decide), e1, sI_9, if_pos rfl]
    have g50 : M2.1 (50, 0) = M.1 (50, 0) := by rw [e2, sI_ne (by decide), e1, sI_ne (by decide)]
    refine ⟨_, sX9_wordOfLanguage (by omega) M2 g2 g3 (by omega) (by omega), fun x3 M4 ⟨h3, h4⟩ => ?_⟩
    rw [g50] at h3
    rw [h4, g2, g3, nI_subn (by omega) (by omega)]
    refine ⟨fun c x7 e7 M8 e8 => ?_, fun c M10 e10 => ?_⟩
    · show M8 = _
      rw [e8, e7, e2, e1]
      unfold wdK
      rw [← h3, if_pos c]
      by_cases z : q - p ≤ 6
      · rw [if_pos z, if_neg (fun w => absurd ((lt6 (by omega)).mp w) (by omega))]
      · rw [if_neg z, if_pos ((lt6 (by omega)).mpr (by omega))]
    · show M10 = _
      rw [e10, e2, e1]
      unfold wdK
      rw [← h3, if_neg c]
  have key : ∀ m i, i + m = q → p ≤ i → eg_W κ gC mtX9_readWord d (eQV κ gC (fun X => X = sI (sI (sI M (9, 0) 3 (nI q)) (9, 0) 6 (pkC (fun i => M.1 (50, 0) (p + i)) (q - p))) (9, 0) 4 (wdK (fun i => M.1 (50, 0) (p + i)) (q - p)))) 7 [(0, vR (9, 0)), (1, vI (nI i)), (2, vI (pkC (fun i => M.1 (50, 0) (p + i)) (i - p)))] [] M := by
    intro m
    induction m with
    | zero =>
      intro i hi hp
      have ei : i = q := by omega
      subst ei
      refine vX9_readWord_7 M _ _ ?_
      rw [h1]
      rcases hs with hs | ⟨hs, hs2⟩
      · exact ⟨fun _ => k74, fun c => absurd (nI_le (by omega) (by omega)) c⟩
      · rw [nI_t (by omega)]
        refine ⟨fun c => absurd c (nI_ge hs (by omega)), fun _ => ⟨nI_in' (by omega) (by omega), fun _ => k74, fun c => ⟨fun _ => k74, fun c2 => absurd ⟨c, c2⟩ hs2⟩⟩⟩
    | succ m ih =>
      intro i hi hp
      obtain ⟨l1, l2⟩ := hl i hp (by omega)
      refine vX9_readWord_7 M _ _ ?_
      rw [h1, h2, nI_t (by omega), nI_subn hp (by omega)]
      refine ⟨fun c => absurd c (nI_ge (by omega) (by omega)), fun _ => ⟨nI_in' (by omega) (by omega), fun c => absurd c l1, fun _ => ⟨fun c => absurd c l2, fun _ x5 e5 => ?_⟩⟩⟩
      have nx := ih (i + 1) (by omega) (by omega)
      have ep : i + 1 - p = (i - p) + 1 := by omega
      rw [ep] at nx
      have eP : pkC (fun i => M.1 (50, 0) (p + i)) (i - p + 1) = if i - p < 6 then pkC (fun i => M.1 (50, 0) (p + i)) (i - p) ||| ((M.1 (50, 0) (p + (i - p)) - 97 + 1) <<< nI (5 * (5 - (i - p)))) else pkC (fun i => M.1 (50, 0) (p + i)) (i - p) := rfl
      rw [show p + (i - p) = i by omega] at eP
      rw [eP] at nx
      by_cases z : i - p < 6
      · have ex : x5 = nI (5 - (i - p)) := by
          rw [e5]
          exact nI_subn (a := 5) (by omega) (by omega)
        rw [if_pos z] at nx
        refine ⟨fun c => ?_, fun _ x8 e8 x9 e9 => ?_⟩
        · rw [ex] at c; exact absurd c (nI_pos (by omega))
        · rw [ex, (nMl (5 - (i - p))).1, sh31 (i - p) z] at e8
          rw [e9, nI_1, e8]
          exact nx
      · have ex : x5.toInt = 5 - ((i - p : Nat) : Int) := by
          rw [e5, t_sub (by rw [t_nI (by omega), show (5 : Int32).toInt = 5 by decide]; omega) (by rw [t_nI (by omega), show (5 : Int32).toInt = 5 by decide]; omega), t_nI (by omega), show (5 : Int32).toInt = 5 by decide]
        rw [if_neg z] at nx
        refine ⟨fun _ x7 e7 => ?_, fun c => ?_⟩
        · rw [e7, nI_1]; exact nx
        · exfalso
          apply c
          rw [t_lt, t_0, ex]
          omega
  refine eg_S.of rfl (Nat.le_of_ble_eq_true rfl) (vX9_readWord_0 M (fun x1 e1 => ?_))
  rw [e1, h2]
  have k0 := key (q - p) p (by omega) (Nat.le_refl _)
  rw [Nat.sub_self] at k0
  exact k0
/-- a number's digits -/
def nmF (B : Nat → Int32) : Nat → Int32
  | 0 => 0
  | j + 1 => if nmF B j ≤ 9999 then nmF B j * 10 + (B j - 48) else nmF B j
theorem nmF_b (B : Nat → Int32) : ∀ j, (∀ i, i < j → ¬ B i < 48 ∧ ¬ 57 < B i) → 0 ≤ (nmF B j).toInt ∧ (nmF B j).toInt ≤ 99999
  | 0, _ => by show 0 ≤ (0 : Int32).toInt ∧ _; rw [t_0]; exact ⟨by omega, by show (0 : Int32).toInt ≤ _; rw [t_0]; omega⟩
  | j + 1, h => by
    have ih := nmF_b B j (fun i hi => h i (by omega))
    obtain ⟨h1, h2⟩ := h j (by omega)
    have i48 : (48 : Int32).toInt = 48 := by decide
    have i57 : (57 : Int32).toInt = 57 := by decide
    have i9 : (9999 : Int32).toInt = 9999 := by decide
    have i10 : (10 : Int32).toInt = 10 := by decide
    rw [t_lt, i48] at h1
    rw [t_lt, i57] at h2
    show 0 ≤ (if nmF B j ≤ 9999 then nmF B j * 10 + (B j - 48) else nmF B j).toInt ∧ (if nmF B j ≤ 9999 then nmF B j * 10 + (B j - 48) else nmF B j).toInt ≤ 99999
    by_cases c : nmF B j ≤ 9999
    · rw [if_pos c]
      rw [t_le, i9] at c
      have e1 : (B j - 48).toInt = (B j).toInt - 48 := by rw [t_sub (by rw [i48]; omega) (by rw [i48]; omega), i48]
      have e2 : (nmF B j * 10).toInt = (nmF B j).toInt * 10 := by rw [t_mul (by rw [i10]; omega) (by rw [i10]; omega), i10]
      rw [t_add (by rw [e1, e2]; omega) (by rw [e1, e2]; omega), e1, e2]
      omega
    · rw [if_neg c]; exact ih
theorem nm_m (v b : Int32) : v * 10 + (b - 48) = 10 * v + b - 48 := by
  rw [Int32.mul_comm, Int32.sub_eq_add_neg, Int32.sub_eq_add_neg, Int32.add_assoc]
theorem sX9_readNumber {κ : eg_K} {d : Nat} (M : eg_H) {n p q : Nat} (h1 : M.1 (9, 0) 1 = nI n) (hn : n ≤ 800) (h2 : M.1 (9, 0) 2 = nI p) (hpq : p < q ∧ q ≤ n) (hl : ∀ i, p ≤ i → i < q → ¬ M.1 (50, 0) i < 48 ∧ ¬ 57 < M.1 (50, 0) i) (hs : q = n ∨ (q < n ∧ ¬ (¬ M.1 (50, 0) q < 48 ∧ ¬ 57 < M.1 (50, 0) q))) : eg_S κ gC mtX9_readNumber d [vR (9, 0)] M (eQV κ gC (fun X => X = sI (sI (sI M (9, 0) 3 (nI q)) (9, 0) 5 (nmF (fun i => M.1 (50, 0) (p + i)) (q - p))) (9, 0) 4 37)) := by
  have k69 : eg_W κ gC mtX9_readNumber d (eQV κ gC (fun X => X = sI (sI (sI M (9, 0) 3 (nI q)) (9, 0) 5 (nmF (fun i => M.1 (50, 0) (p + i)) (q - p))) (9, 0) 4 37)) 69 [(0, vR (9, 0)), (1, vI (nI q)), (2, vI (nmF (fun i => M.1 (50, 0) (p + i)) (q - p)))] [] M := by
    refine vX9_readNumber_69 M _ _ (fun M1 e1 M2 e2 M3 e3 => ?_)
    show M3 = _
    rw [e3, e2, e1]
  have key : ∀ m i, i + m = q → p ≤ i → eg_W κ gC mtX9_readNumber d (eQV κ gC (fun X => X = sI (sI (sI M (9, 0) 3 (nI q)) (9, 0) 5 (nmF (fun i => M.1 (50, 0) (p + i)) (q - p))) (9, 0) 4 37)) 7 [(0, vR (9, 0)), (1, vI (nI i)), (2, vI (nmF (fun i => M.1 (50, 0) (p + i)) (i - p)))] [] M := by
    intro m
    induction m with
    | zero =>
      intro i hi hp
      have ei : i = q := by omega
      subst ei
      refine vX9_readNumber_7 M _ _ ?_
      rw [h1]
      rcases hs with hs | ⟨hs, hs2⟩
      · exact ⟨fun _ => k69, fun c => absurd (nI_le (by omega) (by omega)) c⟩
      · rw [nI_t (by omega)]
        refine ⟨fun c => absurd c (nI_ge hs (by omega)), fun _ => ⟨nI_in' (by omega) (by omega), fun _ => k69, fun c => ⟨fun _ => k69, fun c2 => absurd ⟨c, c2⟩ hs2⟩⟩⟩
    | succ m ih =>
      intro i hi hp
      obtain ⟨l1, l2⟩ := hl i hp (by omega)
      refine vX9_readNumber_7 M _ _ ?_
      rw [h1, nI_t (by omega)]
      refine ⟨fun c => absurd c (nI_ge (by omega) (by omega)), fun _ => ⟨nI_in' (by omega) (by omega), fun c => absurd c l1, fun _ => ⟨fun c => absurd c l2, fun _ x5 e5 x6 e6 => ?_⟩⟩⟩
      have nx := ih (i + 1) (by omega) (by omega)
      rw [show i + 1 - p = (i - p) + 1 by omega] at nx
      have eP : nmF (fun i => M.1 (50, 0) (p + i)) (i - p + 1) = if nmF (fun i => M.1 (50, 0) (p + i)) (i - p) ≤ 9999 then nmF (fun i => M.1 (50, 0) (p + i)) (i - p) * 10 + (M.1 (50, 0) (p + (i - p)) - 48) else nmF (fun i => M.1 (50, 0) (p + i)) (i - p) := rfl
      rw [show p + (i - p) = i by omega] at eP
      rw [eP] at nx
      rw [e6, nI_1, e5]
      exact nx
  refine eg_S.of rfl (Nat.le_of_ble_eq_true rfl) (vX9_readNumber_0 M (fun x1 e1 => ?_))
  rw [e1, h2]
  have k0 := key (q - p) p (by omega) (Nat.le_refl _)
  rw [Nat.sub_self] at k0
  exact k0
/-- the model's number, from its first digit on -/
theorem tok_213 {κ : eg_K} {d : Nat} (hd : 1 ≤ d) (B : eg_H) {n p q : Nat} (h6 : B.1 (60, 0) 6 = nI n) (hn : n ≤ 800) (h7 : B.1 (60, 0) 7 = nI p) (h9 : B.1 (60, 0) 9 = 0) (hpq : p < q ∧ q ≤ n) (hl : ∀ i, p ≤ i → i < q → ¬ B.1 (61, 0) i < 48 ∧ ¬ 57 < B.1 (61, 0) i) (hs : q = n ∨ (q < n ∧ ¬ (¬ B.1 (61, 0) q < 48 ∧ ¬ 57 < B.1 (61, 0) q))) : eg_W κ gM mtX11_token d (eQV κ gM (fun X => X = sI (sI B (60, 0) 9 (nmF (fun i => B.1 (61, 0) (p + i)) (q - p))) (60, 0) 7 (nI q))) 213 [(0, vR (60, 0))] [] B := by
  have f6 : ∀ u v, (sI (sI B (60, 0) 9 u) (60, 0) 7 v).1 (60, 0) 6 = nI n := fun u v => by rw [sI_60, if_neg (by decide), sI_60, if_neg (by decide), h6]
  have f7 : ∀ u v, (sI (sI B (60, 0) 9 u) (60, 0) 7 v).1 (60, 0) 7 = v := fun u v => by rw [sI_60, if_pos rfl]
  have f9 : ∀ u v, (sI (sI B (60, 0) 9 u) (60, 0) 7 v).1 (60, 0) 9 = u := fun u v => by rw [sI_60, if_neg (by decide), sI_60, if_pos rfl]
  have f61 : ∀ u v, (sI (sI B (60, 0) 9 u) (60, 0) 7 v).1 (61, 0) = B.1 (61, 0) := fun u v => by rw [sI_ne (by decide), sI_ne (by decide)]
  have key : ∀ m i, i + m = q → p ≤ i → eg_W κ gM mtX11_token d (eQV κ gM (fun X => X = sI (sI B (60, 0) 9 (nmF (fun i => B.1 (61, 0) (p + i)) (q - p))) (60, 0) 7 (nI q))) 213 [(0, vR (60, 0))] [] (sI (sI B (60, 0) 9 (nmF (fun i => B.1 (61, 0) (p + i)) (i - p))) (60, 0) 7 (nI i)) := by
    intro m
    induction m with
    | zero =>
      intro i hi hp
      have ei : i = q := by omega
      subst ei
      obtain ⟨g, g1, g2⟩ := isDi_n (sI (sI B (60, 0) 9 (nmF (fun j => B.1 (61, 0) (p + j)) (i - p))) (60, 0) 7 (nI i)) (n := n) (i := i) (f6 _ _) hn hpq.2
      refine vX11_token_213 hd _ ?_
      rw [f7]
      refine ⟨g, fun x3 e3 => ⟨fun _ => rfl, fun c => absurd (e3.trans (g2 ?_)) c⟩⟩
      rw [f61]
      rintro ⟨z1, z2⟩
      rcases hs with hs | ⟨_, hs⟩
      · omega
      · exact hs z2
    | succ m ih =>
      intro i hi hp
      obtain ⟨g, g1, g2⟩ := isDi_n (sI (sI B (60, 0) 9 (nmF (fun j => B.1 (61, 0) (p + j)) (i - p))) (60, 0) 7 (nI i)) (n := n) (i := i) (f6 _ _) hn (by omega)
      have g1' := g1 (by rw [f61]; exact ⟨by omega, hl i hp (by omega)⟩)
      refine vX11_token_213 hd _ ?_
      rw [f7]
      refine ⟨g, fun x3 e3 => ⟨fun c => absurd (c.symm.trans (e3.trans g1')) (by decide), fun _ => ?_⟩⟩
      rw [f9, f61, nI_t (by omega)]
      refine ⟨fun _ => nI_in' (by omega) (by omega), fun x6 e6 M7 e7 M8 e8 => ?_⟩
      have nx := ih (i + 1) (by omega) (by omega)
      rw [show i + 1 - p = (i - p) + 1 by omega] at nx
      have eP : nmF (fun i => B.1 (61, 0) (p + i)) (i - p + 1) = if nmF (fun i => B.1 (61, 0) (p + i)) (i - p) ≤ 9999 then nmF (fun i => B.1 (61, 0) (p + i)) (i - p) * 10 + (B.1 (61, 0) (p + (i - p)) - 48) else nmF (fun i => B.1 (61, 0) (p + i)) (i - p) := rfl
      rw [show p + (i - p) = i by omega, nm_m, ← e6] at eP
      rw [eP] at nx
      have e77 : M7.1 (60, 0) 7 = nI i := by rw [e7, sI_60, if_neg (by decide), f7]
      rw [e77, nI_1, e7, sI_comm _ _ (show (7 : Nat) ≠ 9 by decide), sI_sI, sI_sI] at e8
      rw [e8]
      exact nx
  have k0 := key (q - p) p (by omega) (Nat.le_refl _)
  rw [Nat.sub_self, show nmF (fun i => B.1 (61, 0) (p + i)) 0 = 0 from rfl, sI_same (M := B) h9, sI_same h7] at k0
  exact k0
/-- the model's word, from its first letter on -/
theorem tok_90 {κ : eg_K} {d : Nat} (hd : 1 ≤ d) (B : eg_H) {n p q : Nat} (h6 : B.1 (60, 0) 6 = nI n) (hn : n ≤ 800) (h7 : B.1 (60, 0) 7 = nI p) (h10 : B.1 (60, 0) 10 = nI p) (hw : ∀ i, i < 121 → B.1 (64, 0) i = wdM i) (hpq : p < q ∧ q ≤ n) (hl : ∀ i, p ≤ i → i < q → ¬ B.1 (61, 0) i < 97 ∧ ¬ 122 < B.1 (61, 0) i) (hs : q = n ∨ (q < n ∧ ¬ (¬ B.1 (61, 0) q < 97 ∧ ¬ 122 < B.1 (61, 0) q))) {f kd wh : Int32} (hf : f = fstL (lsF (fun i => B.1 (61, 0) (p + i)) (q - p)) mWs 0) (hk : kd = if f < 0 then (if q - p ≤ 6 then 2 else 6) else 1) (hwh : wh = if kd = 2 then pkM (fun i => B.1 (61, 0) (p + i)) (q - p) 6 else f) : eg_W κ gM mtX11_token d (eQV κ gM (fun X => X = sI (sI (sI B (60, 0) 7 (nI q)) (60, 0) 8 kd) (60, 0) 9 wh)) 90 [(0, vR (60, 0))] [] B := by
  have f7 : ∀ v, (sI B (60, 0) 7 v).1 (60, 0) 7 = v := fun v => by rw [sI_60, if_pos rfl]
  have fo : ∀ v k, k ≠ 7 → (sI B (60, 0) 7 v).1 (60, 0) k = B.1 (60, 0) k := fun v k h => by rw [sI_60, if_neg h]
  have fr : ∀ v (r : eg_R), r ≠ (60, 0) → (sI B (60, 0) 7 v).1 r = B.1 r := fun v r h => sI_ne h
  have key : ∀ m i, i + m = q → p ≤ i → eg_W κ gM mtX11_token d (eQV κ gM (fun X => X = sI (sI (sI B (60, 0) 7 (nI q)) (60, 0) 8 kd) (60, 0) 9 wh)) 90 [(0, vR (60, 0))] [] (sI B (60, 0) 7 (nI i)) := by
    intro m
    induction m with
    | zero =>
      intro i hi hp
      have ei : i = q := by omega
      subst ei
      obtain ⟨g, g1, g2⟩ := isSm_n (sI B (60, 0) 7 (nI i)) (n := n) (i := i) (by rw [fo _ _ (by decide)]; exact h6) hn hpq.2
      refine vX11_token_90 hd _ ?_
      rw [f7, fo _ _ (by decide), h10]
      refine ⟨g, fun x3 e3 => ⟨fun _ => ?_, fun c => absurd (e3.trans (g2 ?_)) c⟩⟩
      · refine ⟨_, sX11_wordAt (sI B (60, 0) 7 (nI i)) (by omega) (by omega) (by rw [fr _ _ (by decide)]; exact hw), fun x5 M6 ⟨e5, e6⟩ M8 e8 x9 e9 M10 e10 => ?_⟩
        rw [fr _ _ (by decide), ← hf] at e5
        rw [e6, e5] at e8
        have a7 : M8.1 (60, 0) 7 = nI i := by rw [e8, sI_60, if_neg (by decide), f7]
        have a9 : M8.1 (60, 0) 9 = f := by rw [e8, sI_60, if_pos rfl]
        have a10 : M8.1 (60, 0) 10 = nI p := by rw [e8, sI_60, if_neg (by decide), fo _ _ (by decide), h10]
        have ek : x9 = kd := by
          rw [e9, a7, a9, a10, nI_subn (by omega) (by omega), hk]
          by_cases z : f < 0
          · rw [if_pos z, if_pos z]
            by_cases y : i - p ≤ 6
            · rw [if_pos y, if_pos ((le6 (by omega)).mpr y)]
            · rw [if_neg y, if_neg (fun w => y ((le6 (by omega)).mp w))]
          · rw [if_neg z, if_neg z]
        rw [ek, e8] at e10
        have b8 : M10.1 (60, 0) 8 = kd := by rw [e10, sI_60, if_pos rfl]
        have b7 : M10.1 (60, 0) 7 = nI i := by rw [e10, sI_60, if_neg (by decide), sI_60, if_neg (by decide), f7]
        have b10 : M10.1 (60, 0) 10 = nI p := by rw [e10, sI_60, if_neg (by decide), sI_60, if_neg (by decide), fo _ _ (by decide), h10]
        have b61 : M10.1 (61, 0) = B.1 (61, 0) := by rw [e10, sI_ne (by decide), sI_ne (by decide), sI_ne (by decide)]
        rw [b8, b7, b10]
        refine ⟨fun c => ?_, fun c => ⟨_, sX11_packed M10 (by omega) (by omega), fun x12 M13 ⟨e12, e13⟩ M15 e15 => ?_⟩⟩
        · show M10 = _
          rw [hwh, if_neg c, e10, sI_comm _ _ (show (9 : Nat) ≠ 8 by decide)]
        · show M15 = _
          rw [b61] at e12
          rw [e15, e13, e12, e10, hwh, if_pos c, sI_comm _ _ (show (9 : Nat) ≠ 8 by decide), sI_sI]
      · rw [fr _ _ (by decide)]
        rintro ⟨z1, z2⟩
        rcases hs with hs | ⟨_, hs⟩
        · omega
        · exact hs z2
    | succ m ih =>
      intro i hi hp
      obtain ⟨g, g1, g2⟩ := isSm_n (sI B (60, 0) 7 (nI i)) (n := n) (i := i) (by rw [fo _ _ (by decide)]; exact h6) hn (by omega)
      have g1' := g1 (by rw [fr _ _ (by decide)]; exact ⟨by omega, hl i hp (by omega)⟩)
      refine vX11_token_90 hd _ ?_
      rw [f7]
      refine ⟨g, fun x3 e3 => ⟨fun c => absurd (c.symm.trans (e3.trans g1')) (by decide), fun _ M18 e18 => ?_⟩⟩
      rw [nI_1, sI_sI] at e18
      rw [e18]
      exact ih (i + 1) (by omega) (by omega)
  have k0 := key (q - p) p (by omega) (Nat.le_refl _)
  rw [sI_same h7] at k0
  exact k0
