/-! THE CLASS'S LAWS -/
abbrev mnL : Int64 := -9223372036854775808
def bdC (x : Int64) : Int64 := if 0 < lg_cmp x 1000000000000 then mnL else if 0 ≤ lg_cmp x (-1000000000000) then x else mnL
def mbC (a b : Int64) : Bool := !decide (lg_cmp a 0 = 0) && !decide (lg_cmp (if 0 ≤ lg_cmp b 0 then b else -b) (1000000000000 / (if 0 ≤ lg_cmp a 0 then a else -a)) ≤ 0)
def cmbC (k : Int32) (a b : Int64) : Int64 :=
  if k = 13 then (if ¬ lg_cmp a 0 = 0 then 1 else if lg_cmp b 0 = 0 then 0 else 1)
  else if k = 14 then (if lg_cmp a 0 = 0 then 0 else if lg_cmp b 0 = 0 then 0 else 1)
  else if k = 24 then bdC (a + b)
  else if k = 25 then bdC (a - b)
  else if k = 26 then (if mbC a b then mnL else bdC (a * b))
  else if k = 27 then (if lg_cmp b 0 = 0 then mnL else bdC (a / b))
  else if k = 28 then (if 0 ≤ lg_cmp a b then 0 else 1)
  else if k = 29 then (if 0 < lg_cmp a b then 0 else 1)
  else if k = 30 then (if ¬ lg_cmp a b = 0 then 0 else 1)
  else if k = 31 then (if lg_cmp a b = 0 then 0 else 1)
  else if k = 32 then (if lg_cmp a b < 0 then 0 else 1)
  else if k = 33 then (if lg_cmp a b ≤ 0 then 0 else 1)
  else mnL
theorem cmb_13 (a b : Int64) : cmbC 13 a b = (if ¬ lg_cmp a 0 = 0 then 1 else if lg_cmp b 0 = 0 then 0 else 1) := by
  unfold cmbC
  rw [if_pos rfl]
theorem cmb_14 (a b : Int64) : cmbC 14 a b = (if lg_cmp a 0 = 0 then 0 else if lg_cmp b 0 = 0 then 0 else 1) := by
  unfold cmbC
  rw [if_neg (by decide), if_pos rfl]
theorem cmb_24 (a b : Int64) : cmbC 24 a b = bdC (a + b) := by
  unfold cmbC
  rw [if_neg (by decide), if_neg (by decide), if_pos rfl]
theorem cmb_25 (a b : Int64) : cmbC 25 a b = bdC (a - b) := by
  unfold cmbC
  rw [if_neg (by decide), if_neg (by decide), if_neg (by decide), if_pos rfl]
theorem cmb_26 (a b : Int64) : cmbC 26 a b = (if mbC a b then mnL else bdC (a * b)) := by
  unfold cmbC
  rw [if_neg (by decide), if_neg (by decide), if_neg (by decide), if_neg (by decide), if_pos rfl]
theorem cmb_27 (a b : Int64) : cmbC 27 a b = (if lg_cmp b 0 = 0 then mnL else bdC (a / b)) := by
  unfold cmbC
  rw [if_neg (by decide), if_neg (by decide), if_neg (by decide), if_neg (by decide), if_neg (by decide), if_pos rfl]
theorem cmb_28 (a b : Int64) : cmbC 28 a b = (if 0 ≤ lg_cmp a b then 0 else 1) := by
  unfold cmbC
  rw [if_neg (by decide), if_neg (by decide), if_neg (by decide), if_neg (by decide), if_neg (by decide), if_neg (by decide), if_pos rfl]
theorem cmb_29 (a b : Int64) : cmbC 29 a b = (if 0 < lg_cmp a b then 0 else 1) := by
  unfold cmbC
  rw [if_neg (by decide), if_neg (by decide), if_neg (by decide), if_neg (by decide), if_neg (by decide), if_neg (by decide), if_neg (by decide), if_pos rfl]
theorem cmb_30 (a b : Int64) : cmbC 30 a b = (if ¬ lg_cmp a b = 0 then 0 else 1) := by
  unfold cmbC
  rw [if_neg (by decide), if_neg (by decide), if_neg (by decide), if_neg (by decide), if_neg (by decide), if_neg (by decide), if_neg (by decide), if_neg (by decide), if_pos rfl]
theorem cmb_31 (a b : Int64) : cmbC 31 a b = (if lg_cmp a b = 0 then 0 else 1) := by
  unfold cmbC
  rw [if_neg (by decide), if_neg (by decide), if_neg (by decide), if_neg (by decide), if_neg (by decide), if_neg (by decide), if_neg (by decide), if_neg (by decide), if_neg (by decide), if_pos rfl]
theorem cmb_32 (a b : Int64) : cmbC 32 a b = (if lg_cmp a b < 0 then 0 else 1) := by
  unfold cmbC
  rw [if_neg (by decide), if_neg (by decide), if_neg (by decide), if_neg (by decide), if_neg (by decide), if_neg (by decide), if_neg (by decide), if_neg (by decide), if_neg (by decide), if_neg (by decide), if_pos rfl]
theorem cmb_33 (a b : Int64) : cmbC 33 a b = (if lg_cmp a b ≤ 0 then 0 else 1) := by
  unfold cmbC
  rw [if_neg (by decide), if_neg (by decide), if_neg (by decide), if_neg (by decide), if_neg (by decide), if_neg (by decide), if_neg (by decide), if_neg (by decide), if_neg (by decide), if_neg (by decide), if_neg (by decide), if_pos rfl]
theorem ng0 {a : Int64} (h : -a = 0) : a = 0 := by
  have := congrArg (fun z => -z) h
  simpa using this
theorem sX3_combined {κ : eg_K} {d : Nat} (M : eg_H) (k : Int32) (a b : Int64) : eg_S κ gC mtX3_combined d [vI k, vL a, vL b] M (eQL κ gC (fun r M1 => r = cmbC k a b ∧ M1 = M)) := by
  refine eg_S.of rfl (Nat.le_of_ble_eq_true rfl) (vX3_combined_0 M k a b ?_)
  have e296 : ∀ x, cmbC k a b = bdC x → eg_W κ gC mtX3_combined d (eQL κ gC (fun r M1 => r = cmbC k a b ∧ M1 = M)) 296 [(5, vL x)] [] M := fun x hx => vX3_combined_296 M x (fun y hy => ⟨by rw [hy, hx, bdC], rfl⟩)
  have e266 : k = 26 → mbC a b = false → eg_W κ gC mtX3_combined d (eQL κ gC (fun r M1 => r = cmbC k a b ∧ M1 = M)) 266 [(1, vL a), (3, vL b)] [] M := fun hk hm => vX3_combined_266 M a b (fun y hy => e296 _ (by rw [hk, hy, cmb_26, hm, if_neg (by decide)]))
  refine ⟨?_, ?_, ?_, ?_, ?_, ?_, ?_, ?_, ?_, ?_, ?_, ?_, ?_⟩
  · intro h1 h2 h3 h4 h5 h6 h7 h8 h9 h10 h11 h12
    exact vX3_combined_292 M ⟨by unfold cmbC; rw [if_neg h1, if_neg h2, if_neg h3, if_neg h4, if_neg h5, if_neg h6, if_neg h7, if_neg h8, if_neg h9, if_neg h10, if_neg h11, if_neg h12], rfl⟩
  · intro hk x hx; rw [hx, hk, cmb_13]; exact ⟨rfl, rfl⟩
  · intro hk x hx; rw [hx, hk, cmb_14]; exact ⟨rfl, rfl⟩
  · intro hk x hx; exact e296 _ (by rw [hx, hk, cmb_24])
  · intro hk x hx; exact e296 _ (by rw [hx, hk, cmb_25])
  · intro hk
    refine ⟨fun c => e266 hk (by unfold mbC; rw [decide_eq_true c]; rfl), fun c x11 h11 x12 h12 => ⟨?_, fun c2 => e266 hk (by rw [h11, h12] at c2; unfold mbC; rw [decide_eq_true c2, Bool.not_true, Bool.and_false]), fun c2 => ⟨?_, rfl⟩⟩⟩
    · rw [h12]
      have ha : ¬ a = 0 := fun q => c ((lg0 a).mpr q)
      split
      · exact ha
      · intro q
        exact ha (ng0 q)
    · rw [h11, h12] at c2
      have hm : mbC a b = true := by
        unfold mbC
        rw [decide_eq_false c, decide_eq_false c2]
        rfl
      rw [hk, cmb_26, hm, if_pos rfl]
  · intro hk
    refine ⟨fun c => ⟨fun q => c ((lg0 b).mpr q), fun x hx => e296 _ ?_⟩, fun c => ⟨?_, rfl⟩⟩
    · rw [hx, hk, cmb_27, if_neg c]
    · rw [hk, cmb_27, if_pos c]
  · intro hk x hx; rw [hx, hk, cmb_28]; exact ⟨rfl, rfl⟩
  · intro hk x hx; rw [hx, hk, cmb_29]; exact ⟨rfl, rfl⟩
  · intro hk x hx; rw [hx, hk, cmb_30]; exact ⟨rfl, rfl⟩
  · intro hk x hx; rw [hx, hk, cmb_31]; exact ⟨rfl, rfl⟩
  · intro hk x hx; rw [hx, hk, cmb_32]; exact ⟨rfl, rfl⟩
  · intro hk x hx; rw [hx, hk, cmb_33]; exact ⟨rfl, rfl⟩
/-- a law's value: the knots from i on, n of them, what stands on the stack -/
def evL (kn : Nat → Int32) (nm : Nat → Int64) : Nat → Nat → List Int64 → Int64
  | 0, _, l => (match l with | [x] => x | _ => mnL)
  | n + 1, i, l =>
    if 64 ≤ l.length then mnL
    else if kn i < 10000 then evL kn nm n (i + 1) ((kn i).toInt64 :: l)
    else if 16 ≤ kn i - 10000 ∧ kn i - 10000 ≤ 23 then evL kn nm n (i + 1) (nm (kn i - 10000 - 16).toNatClampNeg :: l)
    else if kn i - 10000 = 15 ∧ 0 < l.length then (match l with
      | x :: l1 => evL kn nm n (i + 1) ((if ¬ lg_cmp x 0 = 0 then 0 else 1) :: l1)
      | [] => mnL)
    else (match l with
      | b :: a :: l1 => if lg_cmp (cmbC (kn i - 10000) a b) mnL = 0 then mnL else evL kn nm n (i + 1) (cmbC (kn i - 10000) a b :: l1)
      | _ => evL kn nm n (i + 1) l)
def valC (M : eg_H) (p : Nat) (nm : Nat → Int64) (w : Int32) : Int64 := if w < 0 ∨ ¬ w < M.1 (3, p) 4 then mnL else evL (M.1 (23, p)) nm ((M.1 (25, p) w.toNatClampNeg).toNatClampNeg - (M.1 (24, p) w.toNatClampNeg).toNatClampNeg) (M.1 (24, p) w.toNatClampNeg).toNatClampNeg []
def gvC (M : eg_H) (p : Nat) (w : Int32) : Prop := ¬ w < 0 → w < M.1 (3, p) 4 → vp_in w 7 ∧ vp_in (M.1 (24, p) w.toNatClampNeg) 65 ∧ vp_in (M.1 (25, p) w.toNatClampNeg) 65
/-- the row st holds the stack l -/
def stL (st : Nat → Int64) : List Int64 → Prop
  | [] => True
  | x :: l => st l.length = x ∧ stL st l
theorem updL_s (f : Nat → Int64) (k : Nat) (x : Int64) : vp_updL f k x k = x := if_pos rfl
theorem updL_n {f : Nat → Int64} {k j : Nat} {x : Int64} (h : j ≠ k) : vp_updL f k x j = f j := if_neg h
theorem stL_u {st : Nat → Int64} {k : Nat} {x : Int64} : ∀ {l : List Int64}, l.length ≤ k → stL st l → stL (vp_updL st k x) l
  | [], _, _ => trivial
  | y :: l, hk, h => by
    have hk2 : l.length + 1 ≤ k := hk
    exact ⟨(updL_n (by omega)).trans h.1, stL_u (by omega) h.2⟩
theorem nI_p (k : Nat) : nI (k + 1) - 1 = nI k := by
  have e : nI (k + 1) = nI k + 1 := ((nAl k).2.1).symm
  rw [e]
  exact Int32.add_sub_cancel _ _
theorem nI_p2 (k : Nat) : nI (k + 1) + (-1) = nI k := by
  have e := nI_p k
  rw [Int32.sub_eq_add_neg] at e
  exact e
section
variable {kn : Nat → Int32} {nm : Nat → Int64} {n i : Nat} {l : List Int64}
theorem evL_full (h : 64 ≤ l.length) : evL kn nm (n + 1) i l = mnL := if_pos h
theorem evL_num (h : ¬ 64 ≤ l.length) (h2 : kn i < 10000) : evL kn nm (n + 1) i l = evL kn nm n (i + 1) ((kn i).toInt64 :: l) := (if_neg h).trans (if_pos h2)
theorem evL_nam (h : ¬ 64 ≤ l.length) (h2 : ¬ kn i < 10000) (h3 : 16 ≤ kn i - 10000 ∧ kn i - 10000 ≤ 23) : evL kn nm (n + 1) i l = evL kn nm n (i + 1) (nm (kn i - 10000 - 16).toNatClampNeg :: l) := (if_neg h).trans ((if_neg h2).trans (if_pos h3))
theorem evL_not {x : Int64} (h : ¬ 64 ≤ (x :: l).length) (h2 : ¬ kn i < 10000) (h3 : ¬ (16 ≤ kn i - 10000 ∧ kn i - 10000 ≤ 23)) (h4 : kn i - 10000 = 15) : evL kn nm (n + 1) i (x :: l) = evL kn nm n (i + 1) ((if ¬ lg_cmp x 0 = 0 then 0 else 1) :: l) := by
  rw [evL, if_neg h, if_neg h2, if_neg h3, if_pos ⟨h4, Nat.succ_pos _⟩]
theorem evL_bin {a b : Int64} (h : ¬ 64 ≤ (b :: a :: l).length) (h2 : ¬ kn i < 10000) (h3 : ¬ (16 ≤ kn i - 10000 ∧ kn i - 10000 ≤ 23)) (h4 : ¬ kn i - 10000 = 15) : evL kn nm (n + 1) i (b :: a :: l) = if lg_cmp (cmbC (kn i - 10000) a b) mnL = 0 then mnL else evL kn nm n (i + 1) (cmbC (kn i - 10000) a b :: l) := by
  rw [evL, if_neg h, if_neg h2, if_neg h3, if_neg (fun q => h4 q.1)]
theorem evL_skip (h : l.length ≤ 1) (h2 : ¬ kn i < 10000) (h3 : ¬ (16 ≤ kn i - 10000 ∧ kn i - 10000 ≤ 23)) (h4 : ¬ (kn i - 10000 = 15 ∧ 0 < l.length)) : evL kn nm (n + 1) i l = evL kn nm n (i + 1) l := by
  rcases l with _ | ⟨x, _ | ⟨y, l⟩⟩
  · rw [evL, if_neg (by decide), if_neg h2, if_neg h3, if_neg h4]
  · rw [evL, if_neg (by show ¬ 64 ≤ 1; decide), if_neg h2, if_neg h3, if_neg h4]
  · exact absurd h (by show ¬ l.length + 1 + 1 ≤ 1; omega)
end
theorem sX3_value {κ : eg_K} {d : Nat} (hd : 1 ≤ d) (M : eg_H) {p : Nat} (hp : p < 2) (w : Int32) (hg : gvC M p w) : eg_S κ gC mtX3_value d [vR (3, p), vI w] M (eQL κ gC (fun r M1 => r = valC M p (M.2.1 (26, p)) w ∧ ∃ st, M1 = sU M (27, p) st)) := by
  refine eg_S.of rfl (Nat.le_of_ble_eq_true rfl) (vX3_value_0 M hp w ?_)
  refine ⟨fun c => ⟨?_, M.2.1 (27, p), (sU_self _ _).symm⟩, fun c => ⟨fun c2 => ?_, fun c2 => ⟨?_, M.2.1 (27, p), (sU_self _ _).symm⟩⟩⟩
  · unfold valC; rw [if_pos (Or.inl c)]
  · obtain ⟨h1, h2, h3⟩ := hg c c2
    refine ⟨h1, fun x4 e4 => ?_⟩
    have hv : valC M p (M.2.1 (26, p)) w = evL (M.1 (23, p)) (M.2.1 (26, p)) ((M.1 (25, p) w.toNatClampNeg).toNatClampNeg - (M.1 (24, p) w.toNatClampNeg).toNatClampNeg) (M.1 (24, p) w.toNatClampNeg).toNatClampNeg [] := by
      unfold valC
      rw [if_neg (fun q => q.elim c (fun q => q c2))]
    rw [hv, e4]
    obtain ⟨es, hs⟩ := nI_of' h2 (by omega)
    obtain ⟨ee, he⟩ := nI_of' h3 (by omega)
    generalize ew : w.toNatClampNeg = ww at *
    generalize (M.1 (25, p) ww).toNatClampNeg = b at *
    generalize (M.1 (24, p) ww).toNatClampNeg = a at *
    rw [es]
    have n64 : (64 : Int32) = nI 64 := rfl
    have key : ∀ (n i : Nat) (l : List Int64) (st : Nat → Int64), n = b - i → i ≤ 64 → l.length ≤ 64 → stL st l →
        eg_W κ gC mtX3_value d (eQL κ gC (fun r M1 => r = evL (M.1 (23, p)) (M.2.1 (26, p)) n i l ∧ ∃ st, M1 = sU M (27, p) st)) 25 [(0, vR (3, p)), (1, vI w), (2, vI (nI l.length)), (3, vI (nI i))] [] (sU M (27, p) st) := by
      intro n
      induction n with
      | zero =>
        intro i l st hn hi hl hst
        refine vX3_value_25 _ hp _ _ _ ⟨h1, fun _ => ⟨fun _ => nI_in' (n := 0) (by omega) (by omega), fun x hx => ⟨?_, _, rfl⟩⟩, fun c3 => ?_⟩
        · rw [hx, sU_at]
          rcases l with _ | ⟨x, _ | ⟨y, l⟩⟩
          · rfl
          · show (if ¬ nI 1 = 1 then mnL else st 0) = x
            rw [if_neg (fun q => q rfl)]
            exact hst.1
          · show (if ¬ nI (l.length + 1 + 1) = 1 then mnL else st 0) = mnL
            have hl2 : l.length + 1 + 1 ≤ 64 := hl
            rw [if_pos (show ¬ nI (l.length + 1 + 1) = (1 : Int32) from fun q => absurd ((nI_eq' (b := 1) (by omega) (by omega)).mp q) (by omega))]
        · rw [sU_i, ew, ee, nI_le' (by omega) (by omega)] at c3
          exact absurd (show b ≤ i by omega) c3
      | succ n ih =>
        intro i l st hn hi hl hst
        have c3 : ¬ nI b ≤ nI i := by rw [nI_le' (by omega) (by omega)]; omega
        have c4 : ¬ (64 : Int32) ≤ nI i := by rw [n64, nI_le' (by omega) (by omega)]; omega
        have ih' := fun l st hl hst => ih (i + 1) l st (by omega) (by omega) hl hst
        refine vX3_value_25 _ hp _ _ _ ⟨h1, fun q => absurd ?_ c3, fun _ => ⟨fun q => absurd q c4, fun _ => ⟨nI_in' (by omega) (by omega), ?_⟩⟩⟩
        · rw [sU_i, ew, ee] at q; exact q
        intro x13 e13 x14 e14
        rw [sU_i, nI_t (by omega)] at e13
        rw [e13] at e14
        have hl1 : nI l.length + 1 = nI (l.length + 1) := (nAl _).2.1
        have hi1 : nI i + 1 = nI (i + 1) := (nAl _).2.1
        have hlt : ∀ {m : Nat}, m < 65 → (nI m < (64 : Int32) ↔ m < 64) := fun {m} hm => nI_lt' (b := 64) (by omega) (by omega)
        have t166 : l.length < 64 → ¬ M.1 (23, p) i < 10000 → ¬ (16 ≤ M.1 (23, p) i - 10000 ∧ M.1 (23, p) i - 10000 ≤ 23) → ¬ (M.1 (23, p) i - 10000 = 15 ∧ 0 < l.length) → eg_W κ gC mtX3_value d (eQL κ gC (fun r M1 => r = evL (M.1 (23, p)) (M.2.1 (26, p)) (n + 1) i l ∧ ∃ st, M1 = sU M (27, p) st)) 166 [(0, vR (3, p)), (1, vI w), (2, vI (nI l.length)), (3, vI (nI i)), (5, vI x14)] [] (sU M (27, p) st) := by
          intro c5 c6 c7 c8
          refine vX3_value_166 hd _ hp _ _ _ _ ⟨fun c9 x2 e2 => ?_, fun c9 => ?_⟩
          · have c9' : l.length ≤ 1 := (nI_le' (b := 1) (by omega) (by omega)).mp c9
            rw [evL_skip c9' c6 c7 c8, e2, hi1]
            exact ih' l st hl hst
          · rcases l with _ | ⟨vb, _ | ⟨va, l⟩⟩
            · exact absurd ((nI_le' (a := 0) (b := 1) (by omega) (by omega)).mpr (by omega)) c9
            · exact absurd ((nI_le' (a := 1) (b := 1) (by omega) (by omega)).mpr (by omega)) c9
            · have hl2 : l.length + 1 + 1 < 64 := c5
              have hst1 : st (l.length + 1) = vb := hst.1
              have hst2 : st l.length = va := hst.2.1
              rw [evL_bin (by show ¬ 64 ≤ l.length + 1 + 1; omega) c6 c7 (fun q => c8 ⟨q, Nat.succ_pos _⟩)]
              intro x3 e3
              have e3' : x3 = nI (l.length + 1) := by rw [e3]; exact nI_p2 (l.length + 1)
              rw [e3', nI_p, nI_t (by omega), nI_t (by omega)]
              refine ⟨nI_in' (by omega) (by omega), nI_in' (by omega) (by omega), ?_⟩
              rw [sU_at, hst1, hst2, e14]
              refine ⟨_, sX3_combined _ _ _ _, fun x6 M7 h67 => ?_⟩
              obtain ⟨e6, e7⟩ := h67
              intro M9 e9
              have e9' : M9 = sU M (27, p) (vp_updL st l.length x6) := by rw [e9, e7, sL_eq, sU_at, sU_sU]
              rw [e9', sU_at, updL_s, e6]
              refine ⟨fun c10 x11 e11 => ?_, fun c10 => ⟨(if_pos c10).symm, _, rfl⟩⟩
              rw [if_neg c10, e11, hi1]
              exact ih' (cmbC _ va vb :: l) _ (by show l.length + 1 ≤ 64; omega) ⟨updL_s _ _ _, stL_u (Nat.le_refl _) hst.2.2⟩
        have t126 : l.length < 64 → ¬ M.1 (23, p) i < 10000 → ¬ (16 ≤ M.1 (23, p) i - 10000 ∧ M.1 (23, p) i - 10000 ≤ 23) → eg_W κ gC mtX3_value d (eQL κ gC (fun r M1 => r = evL (M.1 (23, p)) (M.2.1 (26, p)) (n + 1) i l ∧ ∃ st, M1 = sU M (27, p) st)) 126 [(0, vR (3, p)), (1, vI w), (2, vI (nI l.length)), (3, vI (nI i)), (5, vI x14)] [] (sU M (27, p) st) := by
          intro c5 c6 c7
          refine vX3_value_126 _ hp _ _ _ _ ⟨fun c8 => t166 c5 c6 c7 (fun q => c8 (e14.trans q.1)), fun c8 => ⟨fun c9 => t166 c5 c6 c7 (fun q => ?_), fun c9 => ?_⟩⟩
          · exact absurd ((nI_le' (b := 0) (by omega) (by omega)).mp c9) (by omega)
          · rcases l with _ | ⟨x, l⟩
            · exact absurd ((nI_le' (a := 0) (b := 0) (by omega) (by omega)).mpr (by omega)) c9
            · have hl2 : l.length + 1 < 64 := c5
              have hst1 : st l.length = x := hst.1
              rw [evL_not (by show ¬ 64 ≤ l.length + 1; omega) c6 c7 (e14.symm.trans c8)]
              have e1 : nI (x :: l).length - 1 = nI l.length := nI_p _
              rw [e1, nI_t (by omega), sU_at, hst1]
              refine ⟨nI_in' (by omega) (by omega), fun x4 e4 M5 e5 x6 e6 => ?_⟩
              rw [e6, hi1, e5, sL_eq, sU_at, sU_sU, e4]
              exact ih' (_ :: l) _ (by show l.length + 1 ≤ 64; omega) ⟨updL_s _ _ _, stL_u (Nat.le_refl _) hst.2⟩
        refine ⟨fun c5 => ⟨fun c6 => ⟨fun c7 => ?_, fun c7 => ⟨fun c8 => ?_, fun c8 => ?_⟩⟩, fun c6 => ?_⟩, fun c5 => ⟨?_, _, rfl⟩⟩
        · have c5' := (hlt (by omega)).mp c5
          rw [e13] at c6
          rw [e14] at c7
          exact t126 c5' (by rw [Int32.not_lt]; exact c6) (fun q => absurd q.1 (by rw [Int32.not_le]; exact c7))
        · have c5' := (hlt (by omega)).mp c5
          rw [e13] at c6
          rw [e14] at c8
          exact t126 c5' (by rw [Int32.not_lt]; exact c6) (fun q => absurd q.2 (by rw [Int32.not_le]; exact c8))
        · have c5' := (hlt (by omega)).mp c5
          rw [e13] at c6
          rw [e14] at c7 c8 ⊢
          have c7' : 16 ≤ M.1 (23, p) i - 10000 := Int32.not_lt.mp c7
          have c8' : M.1 (23, p) i - 10000 ≤ 23 := Int32.not_lt.mp c8
          have hk : vp_in (M.1 (23, p) i - 10000 - 16) 8 := by
            have a1 := t_le.mp c7'
            have a2 := t_le.mp c8'
            have b1 : (16 : Int32).toInt = 16 := by decide
            have b2 : (23 : Int32).toInt = 23 := by decide
            rw [t_in, t_sub (by omega) (by omega)]
            omega
          refine ⟨hk, nI_in' c5' (by omega), fun M21 e21 x22 e22 x23 e23 => ?_⟩
          rw [evL_nam (by omega) (by rw [Int32.not_lt]; exact c6) ⟨c7', c8'⟩, e22, e23, hl1, hi1, e21, sL_eq, sU_at, sU_sU, nI_t (by omega), sU_ne _ _ (by intro e; cases e)]
          exact ih' (_ :: l) _ (by show l.length + 1 ≤ 64; omega) ⟨updL_s _ _ _, stL_u (Nat.le_refl _) hst⟩
        · have c5' := (hlt (by omega)).mp c5
          rw [e13] at c6 ⊢
          refine ⟨nI_in' c5' (by omega), fun M25 e25 x26 e26 x27 e27 => ?_⟩
          rw [evL_num (by omega) (Int32.not_le.mp c6), e26, e27, hl1, hi1, e25, sL_eq, sU_at, sU_sU, nI_t (by omega)]
          exact ih' (_ :: l) _ (by show l.length + 1 ≤ 64; omega) ⟨updL_s _ _ _, stL_u (Nat.le_refl _) hst⟩
        · exact (evL_full (Nat.not_lt.mp (fun q => c5 ((hlt (by omega)).mpr q)))).symm
    have := key (b - a) a [] (M.2.1 (27, p)) rfl (by omega) (by decide) trivial
    rw [sU_self] at this
    exact this
  · unfold valC; rw [if_pos (Or.inr c2)]
