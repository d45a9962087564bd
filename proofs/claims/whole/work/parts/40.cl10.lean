/-- all steps along the line are calm -/
def walkS (E : eg_E) : Nat → Nat → (Nat → Int32) → Prop
  | 0, _, _ => True
  | n + 1, i, Y =>
    if i < (Y 1).toNatClampNeg then
      (if Y (20 + 20 * (Y (2 + i)).toNatClampNeg + 3) = 0 then (blk E i Y ∨ (¬ blk E i Y ∧ wat E i Y)) ∧ walkS E n (i + 1) (goF E i Y).2
      else walkS E n (i + 1) Y)
    else True
theorem goF_st {E : eg_E} {i : Nat} {Y : Nat → Int32} (hE : wE E) (h : blk E i Y ∨ (¬ blk E i Y ∧ wat E i Y)) : (goF E i Y).1 = false := by
  by_cases c : blk E i Y
  · have : goF E i Y = (false, _) := if_pos c
    rw [this]
  · rcases h with q | q
    · exact absurd q c
    · obtain ⟨p, s, e, hp, _⟩ := q.2
      have hn := hE.1
      have c2 : ¬ nxF Y (eN E) (Y (2 + i)).toNatClampNeg < 0 := by rw [e]; exact nI_pos (by omega)
      have : goF E i Y = (false, _) := (if_neg c).trans (if_neg c2)
      rw [this]
theorem yI.q16 {E : eg_E} {C : Nat} {Y : Nat → Int32} (hE : wE E) (hY : yI E C Y) : (Y 1).toNatClampNeg < 16 := by
  have h1 := vp_lt hY.1.1
  have h2 := hE.2.1
  omega
theorem yI.qe {E : eg_E} {C : Nat} {Y : Nat → Int32} (hE : wE E) (hY : yI E C Y) : Y 1 = nI (Y 1).toNatClampNeg := by
  have h2 := hE.2.1
  exact (nI_of' hY.1.1 (by omega)).1
section
variable {κ : eg_K} {d : Nat} {M : eg_H} {t p : Nat} {nm st : Nat → Int64} {Z : Nat → Int32}
theorem sX7_walkAll (hd : 5 ≤ d) (ht : t < 4) (hW : cW M p) (hT : M.2.2 (7, t) 0 = (5, p)) {C : Nat} (hC : C < 1000000) {Y : Nat → Int32} (hY : yI (cE M p) C Y) (hR : RY (cE M p) Z Y) : eg_S κ gC mtX7_walkAll d [vR (7, t)] (TX M t p nm st Z) (eQV κ gC (fun M1 => ∃ n1 s1 Z1, M1 = TX M t p n1 s1 Z1 ∧ RY (cE M p) Z1 (walkF (cE M p) (Y 1).toNatClampNeg 0 Y) ∧ (¬ Z1 18 = 0 → ¬ Z 18 = 0 ∧ walkS (cE M p) (Y 1).toNatClampNeg 0 Y))) := by
  have hE := hW.2.2.2.2.1
  have hN := (cP_e hW).2
  have hPP : eP (cE M p) = cP M p := rfl
  have key : ∀ (n i : Nat) (Y : Nat → Int32) (nm st : Nat → Int64) (Z : Nat → Int32), n < 16 → yI (cE M p) C Y → RY (cE M p) Z Y → i < 16 → ∀ Q : eg_H → Prop, (∀ M1, (∃ n1 s1 Z1, M1 = TX M t p n1 s1 Z1 ∧ RY (cE M p) Z1 (walkF (cE M p) n i Y) ∧ (¬ Z1 18 = 0 → ¬ Z 18 = 0 ∧ walkS (cE M p) n i Y)) → Q M1) → eg_W κ gC mtX7_walkAll d (eQV κ gC Q) 7 [(0, vR (7, t)), (1, vI (nI i)), (2, vI (nI n))] [] (TX M t p nm st Z) := by
    intro n
    induction n with
    | zero =>
      intro i Y nm st Z _ hY hR hi Q hQ
      refine vX7_walkAll_7 (by omega) _ ht _ _ ⟨fun _ => hQ _ ⟨nm, st, Z, rfl, hR, fun q => ⟨q, trivial⟩⟩, fun c => absurd (Int32.le_refl _) c⟩
    | succ n ih =>
      intro i Y nm st Z hn hY hR hi Q hQ
      have hq := hY.q16 hE
      have qe := hY.qe hE
      have hx : nI (n + 1) + -1 = nI n := nI_p2 n
      refine vX7_walkAll_7 (by omega) _ ht _ _ ⟨fun c => ?_, fun _ => ⟨fun c => ?_, fun c => ?_⟩⟩
      · exact absurd ((nI_le' (b := 0) (by omega) (by omega)).mp c) (by omega)
      · rw [T7_6, hR.q, qe] at c
        have c' := (nI_le' (by omega) (by omega)).mp c
        have w : walkF (cE M p) (n + 1) i Y = Y := if_neg (by omega)
        have w2 : walkS (cE M p) (n + 1) i Y = True := if_neg (by omega)
        rw [w, w2] at hQ
        exact hQ _ ⟨nm, st, Z, rfl, hR, fun q => ⟨q, trivial⟩⟩
      · rw [T7_6, hR.q, qe] at c
        have c' : i < (Y 1).toNatClampNeg := Nat.not_le.mp (fun q => c ((nI_le' (by omega) (by omega)).mpr q))
        obtain ⟨hk1, hk2⟩ := hY.1.2.1 i c'
        obtain ⟨eg, hg⟩ := nI_of' hk1 (by omega)
        have ezk : Z (2 + i) = nI (Y (2 + i)).toNatClampNeg := by rw [hR.k c']; exact eg
        have b3 := hR.g 3 hg (by omega)
        have w : walkF (cE M p) (n + 1) i Y = if Y (20 + 20 * (Y (2 + i)).toNatClampNeg + 3) = 0 then (if (goF (cE M p) i Y).1 then walkF (cE M p) n i (goF (cE M p) i Y).2 else walkF (cE M p) n (i + 1) (goF (cE M p) i Y).2) else walkF (cE M p) n (i + 1) Y := if_pos c'
        have w2 : walkS (cE M p) (n + 1) i Y = if Y (20 + 20 * (Y (2 + i)).toNatClampNeg + 3) = 0 then (blk (cE M p) i Y ∨ (¬ blk (cE M p) i Y ∧ wat (cE M p) i Y)) ∧ walkS (cE M p) n (i + 1) (goF (cE M p) i Y).2 else walkS (cE M p) n (i + 1) Y := if_pos c'
        rw [w, w2] at hQ
        clear w w2
        have hg15 : (Y (2 + i)).toNatClampNeg < 15 := by omega
        rw [nI_t (by omega), T43 _ _ _ _ _ _ (by omega), ezk, nI_t (by omega), T2_4 _ _ _ _ _ _ (by omega), b3, hx, (nAl i).2.1]
        refine ⟨nI_in' (by omega) (by omega), nI_in' (by omega) (by omega), fun c2 => ⟨fun c3 => absurd rfl c3, fun _ x8 e8 x9 e9 => ?_⟩, fun c2 => ⟨_, sX7_walk (by omega) ht hW hT hY hR c' c2, fun x10 M11 hw => ?_⟩⟩
        · rw [if_neg c2, if_neg c2] at hQ
          rw [e8, e9]
          exact ih (i + 1) Y nm st Z (by omega) hY hR (by omega) Q hQ
        · obtain ⟨n1, s1, Z1, em, er, eR, ec⟩ := hw
          have hgi := goF_I hE hC hY c'
          rw [if_pos c2, if_pos c2] at hQ
          subst em
          intro x13 e13
          by_cases cg : (goF (cE M p) i Y).1 = true
          · rw [if_pos cg] at er hQ
            rw [er, if_neg (by decide)] at e13
            refine ⟨fun _ x15 e15 => ?_, fun q => absurd (e13.symm.trans q) (by decide)⟩
            rw [e15]
            refine ih i _ n1 s1 Z1 (by omega) hgi.1 eR hi Q (fun M1 ⟨n2, s2, Z2, e2, r2, c3⟩ => hQ M1 ⟨n2, s2, Z2, e2, r2, fun q => ?_⟩)
            have c4 := c3 q
            have c5 := ec c4.1
            have c6 := goF_st hE c5.2
            rw [c6] at cg
            exact absurd cg (by decide)
          · rw [if_neg cg] at er hQ
            rw [er, if_pos rfl] at e13
            refine ⟨fun q => absurd e13 q, fun _ x16 e16 x17 e17 => ?_⟩
            rw [e16, e17]
            refine ih (i + 1) _ n1 s1 Z1 (by omega) hgi.1 eR (by omega) Q (fun M1 ⟨n2, s2, Z2, e2, r2, c3⟩ => hQ M1 ⟨n2, s2, Z2, e2, r2, fun q => ?_⟩)
            have c4 := c3 q
            have c5 := ec c4.1
            exact ⟨c5.1, c5.2, c4.2⟩
  refine eg_S.of rfl (Nat.le_of_ble_eq_true rfl) (vX7_walkAll_0 _ ht (fun x1 e1 => ?_))
  rw [T7_6, hR.q, hY.qe hE] at e1
  rw [e1]
  exact key _ 0 Y nm st Z (hY.q16 hE) hY hR (by omega) _ (fun _ h => h)
theorem tko_0 {k : Nat} {Y : Nat → Int32} (h : Y (20 + 20 * (Y (2 + k)).toNatClampNeg + 3) ≤ 0) : tkoF k Y = Y := by
  unfold tkoF
  rw [if_pos h, Int32.sub_zero, upd_id]
theorem sX7_takeOn (ht : t < 4) (hW : cW M p) {C : Nat} {Y : Nat → Int32} (hY : yI (cE M p) C Y) (hR : RY (cE M p) Z Y) : eg_S κ gC mtX7_takeOn d [vR (7, t)] (TX M t p nm st Z) (eQV κ gC (fun M1 => ∃ Z1, M1 = TX M t p nm st Z1 ∧ RY (cE M p) Z1 (itr tkoF (Y 1).toNatClampNeg Y) ∧ (¬ Z1 18 = 0 → ¬ Z 18 = 0 ∧ ∀ k, k < (Y 1).toNatClampNeg → ¬ itr tkoF k Y (20 + 20 * (itr tkoF k Y (2 + k)).toNatClampNeg + 3) = 1))) := by
  have hE := hW.2.2.2.2.1
  have hN := (cP_e hW).2
  have hPP : eP (cE M p) = cP M p := rfl
  have hq := hY.q16 hE
  have qe := hY.qe hE
  refine eg_S.of rfl (Nat.le_of_ble_eq_true rfl) (vX7_takeOn_0 _ ht ?_)
  refine eg_down (P := fun i => ∀ Z1, RY (cE M p) Z1 (itr tkoF i Y) → (¬ Z1 18 = 0 → ¬ Z 18 = 0 ∧ ∀ k, k < i → ¬ itr tkoF k Y (20 + 20 * (itr tkoF k Y (2 + k)).toNatClampNeg + 3) = 1) → eg_W κ gC mtX7_takeOn d (eQV κ gC (fun M1 => ∃ Z1, M1 = TX M t p nm st Z1 ∧ RY (cE M p) Z1 (itr tkoF (Y 1).toNatClampNeg Y) ∧ (¬ Z1 18 = 0 → ¬ Z 18 = 0 ∧ ∀ k, k < (Y 1).toNatClampNeg → ¬ itr tkoF k Y (20 + 20 * (itr tkoF k Y (2 + k)).toNatClampNeg + 3) = 1))) 2 [(0, vR (7, t)), (1, vI (nI i))] [] (TX M t p nm st Z1)) (Y 1).toNatClampNeg (fun i hi k Z1 r1 c1 => ?_) (fun Z1 r1 c1 => ?_) Z hR (fun q => ⟨q, fun k hk => absurd hk (Nat.not_lt_zero _)⟩)
  · obtain ⟨hYi, hY1⟩ := tkoA_I hE hY i (by omega)
    have hes : itr tkoF (i + 1) Y = tkoF i (itr tkoF i Y) := rfl
    rw [hes] at k
    have hi' : i < (itr tkoF i Y 1).toNatClampNeg := by rw [hY1]; exact hi
    obtain ⟨hk1, hk2⟩ := hYi.1.2.1 i hi'
    obtain ⟨eg, hg⟩ := nI_of' hk1 (by omega)
    have ezk : Z1 (2 + i) = nI (itr tkoF i Y (2 + i)).toNatClampNeg := by rw [r1.k hi']; exact eg
    have b3 := r1.g 3 hg (by omega)
    have hti := (hYi.2.2.1 _ hg).2.2.2.1
    have t0 := fun h => tko_0 (k := i) (Y := itr tkoF i Y) h
    have t1 : tkoF i (itr tkoF i Y) = upd (itr tkoF i Y) (20 + 20 * (itr tkoF i Y (2 + i)).toNatClampNeg + 3) (itr tkoF i Y (20 + 20 * (itr tkoF i Y (2 + i)).toNatClampNeg + 3) - (if itr tkoF i Y (20 + 20 * (itr tkoF i Y (2 + i)).toNatClampNeg + 3) ≤ 0 then 0 else 1)) := rfl
    have cc : ∀ x : Int32, (¬ x = 0 → (¬ Z1 18 = 0 ∧ ¬ itr tkoF i Y (20 + 20 * (itr tkoF i Y (2 + i)).toNatClampNeg + 3) = 1)) → (¬ x = 0 → ¬ Z 18 = 0 ∧ ∀ k, k < i + 1 → ¬ itr tkoF k Y (20 + 20 * (itr tkoF k Y (2 + k)).toNatClampNeg + 3) = 1) := by
      intro x hx q
      obtain ⟨a, b⟩ := hx q
      obtain ⟨a1, a2⟩ := c1 a
      refine ⟨a1, fun k hk => ?_⟩
      by_cases e : k = i
      · rw [e]; exact b
      · exact a2 k (by omega)
    have hq1 : (itr tkoF i Y 1).toNatClampNeg < 16 := by rw [hY1]; exact hq
    refine vX7_takeOn_2 _ ht _ ?_
    rw [T7_6, r1.q, hY1, qe, nI_t (show (Y 1).toNatClampNeg < 2147483648 by omega), nI_t (show i < 2147483648 by omega), T43 _ _ _ _ _ _ (by omega), ezk]
    generalize (itr tkoF i Y (2 + i)).toNatClampNeg = g at *
    have hg15 : g < 15 := by omega
    rw [nI_t (by omega), T2_4 _ _ _ _ _ _ (by omega), b3, W2_4 _ _ _ _ _ _ (by omega), (nAl i).2.1]
    refine ⟨fun c => absurd c (nI_ge hi (by omega)), fun _ => ⟨nI_in' (by omega) (by omega), nI_in' (by omega) (by omega), fun c x5 e5 => ?_, fun c M6 e6 x7 e7 M8 e8 x9 e9 => ?_⟩⟩
    · rw [e5]
      rw [t0 c] at k
      refine k Z1 r1 (cc _ (fun q => ⟨q, fun q2 => ?_⟩))
      rw [q2] at c
      exact absurd c (by decide)
    · subst e6
      rw [T7_7, T2_4 _ _ _ _ _ _ (by omega), pk_un (by omega), pk_us] at e7
      rw [W7_7] at e8
      rw [e8, e9]
      rw [t1, if_neg c] at k
      refine k _ (RY_calm (RY_u r1 hE hq1 (by unfold spj; omega) _) hE (by rw [pk_un (by omega)]; exact hq1) _) (cc _ (fun q => ?_))
      rw [pk_us, e7] at q
      by_cases q1 : Z1 18 = 0
      · rw [if_pos q1] at q; exact absurd rfl q
      · rw [if_neg q1] at q
        refine ⟨q1, fun q2 => ?_⟩
        rw [q2, if_pos (by decide)] at q
        exact absurd rfl q
  · refine vX7_takeOn_2 _ ht _ ?_
    have hY1 := (tkoA_I hE hY (Y 1).toNatClampNeg (Nat.le_refl _)).2
    rw [T7_6, r1.q, hY1, qe, nI_t (by omega)]
    exact ⟨fun _ => ⟨Z1, rfl, r1, c1⟩, fun c => absurd (Int32.le_refl _) c⟩
end
