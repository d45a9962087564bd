/-- one has left the line: class and model -/
theorem sit_R {E : eg_E} {Z Y : Nat → Int32} (hE : wE E) (hR : RY E Z Y) {i g : Nat} (hq : (Y 1).toNatClampNeg < 16) (q1 : Y 1 = nI (Y 1).toNatClampNeg) (hi : i < (Y 1).toNatClampNeg) (hg : g < eP E) (h1 : Y (20 + 20 * g) = 1) (h3 : Y (20 + 20 * g + 3) = 0) (x6 x7 s2 b11 z : Int32) (hs : s2 = 3 ∨ (s2 = 2 ∧ b11 = Y 0 + eO E 1)) :
    RY E (stZ (upd (upd (upd (upd Z (20 + 20 * g + 6) x6) (20 + 20 * g + 7) x7) (20 + 20 * g) s2) (20 + 20 * g + 11) b11) i g z) (ool (upd (upd (upd (upd (upd (upd Y (20 + 20 * g + 6) x6) (20 + 20 * g + 7) x7) (20 + 20 * g) s2) (20 + 20 * g + 11) (Y 0 + eO E 1)) (20 + 20 * g + 1) (-1)) (20 + 20 * g + 2) z) i) := by
  have hn := hE.1
  have hN := hE.2.1
  have hl := hR.l hg h1
  -- the arrays ahead of the stepping out
  have uz1 : (upd (upd (upd (upd Z (20 + 20 * g + 6) x6) (20 + 20 * g + 7) x7) (20 + 20 * g) s2) (20 + 20 * g + 11) b11) 1 = Y 1 := by simp (disch := omega) only [pk_un]; exact hR.q
  have uy1 : (upd (upd (upd (upd (upd (upd Y (20 + 20 * g + 6) x6) (20 + 20 * g + 7) x7) (20 + 20 * g) s2) (20 + 20 * g + 11) (Y 0 + eO E 1)) (20 + 20 * g + 1) (-1)) (20 + 20 * g + 2) z) 1 = Y 1 := by simp (disch := omega) only [pk_un]
  have zk : ∀ k, k < 15 → (upd (upd (upd (upd Z (20 + 20 * g + 6) x6) (20 + 20 * g + 7) x7) (20 + 20 * g) s2) (20 + 20 * g + 11) b11) (2 + k) = Z (2 + k) := fun k hk => by simp (disch := omega) only [pk_un]
  have yk : ∀ k, k < 15 → (upd (upd (upd (upd (upd (upd Y (20 + 20 * g + 6) x6) (20 + 20 * g + 7) x7) (20 + 20 * g) s2) (20 + 20 * g + 11) (Y 0 + eO E 1)) (20 + 20 * g + 1) (-1)) (20 + 20 * g + 2) z) (2 + k) = Y (2 + k) := fun k hk => by simp (disch := omega) only [pk_un]
  have zj : ∀ j, 18 ≤ j ∨ j = 0 → stZ (upd (upd (upd (upd Z (20 + 20 * g + 6) x6) (20 + 20 * g + 7) x7) (20 + 20 * g) s2) (20 + 20 * g + 11) b11) i g z j = upd (upd (upd (upd (upd (upd (upd (upd Z (20 + 20 * g + 6) x6) (20 + 20 * g + 7) x7) (20 + 20 * g) s2) (20 + 20 * g + 11) b11) (20 + 20 * g + 1) (-1)) (20 + 20 * g + 2) z) (20 + 20 * g + 3) 0) (20 + 20 * g + 10) 0 j := by
    intro j hj
    have := ool_o (Y := upd (upd (upd (upd Z (20 + 20 * g + 6) x6) (20 + 20 * g + 7) x7) (20 + 20 * g) s2) (20 + 20 * g + 11) b11) (i := i) (j := j) (by rw [uz1]; exact hq) hj
    unfold stZ
    generalize upd (upd (upd (upd Z (20 + 20 * g + 6) x6) (20 + 20 * g + 7) x7) (20 + 20 * g) s2) (20 + 20 * g + 11) b11 = W at *
    unfold upd
    rw [this]
  have yj : ∀ j, 18 ≤ j ∨ j = 0 → ool (upd (upd (upd (upd (upd (upd Y (20 + 20 * g + 6) x6) (20 + 20 * g + 7) x7) (20 + 20 * g) s2) (20 + 20 * g + 11) (Y 0 + eO E 1)) (20 + 20 * g + 1) (-1)) (20 + 20 * g + 2) z) i j = upd (upd (upd (upd (upd (upd Y (20 + 20 * g + 6) x6) (20 + 20 * g + 7) x7) (20 + 20 * g) s2) (20 + 20 * g + 11) (Y 0 + eO E 1)) (20 + 20 * g + 1) (-1)) (20 + 20 * g + 2) z j := fun j hj => ool_o (by rw [uy1]; exact hq) hj
  have y1' : ool (upd (upd (upd (upd (upd (upd Y (20 + 20 * g + 6) x6) (20 + 20 * g + 7) x7) (20 + 20 * g) s2) (20 + 20 * g + 11) (Y 0 + eO E 1)) (20 + 20 * g + 1) (-1)) (20 + 20 * g + 2) z) i 1 = Y 1 - 1 := by rw [ool_1, uy1]
  have z1' : stZ (upd (upd (upd (upd Z (20 + 20 * g + 6) x6) (20 + 20 * g + 7) x7) (20 + 20 * g) s2) (20 + 20 * g + 11) b11) i g z 1 = Y 1 - 1 := by
    unfold stZ
    rw [pk_un (by omega), pk_un (by omega), pk_un (by omega), pk_un (by omega), ool_1, uz1]
  have m1 : (Y 1 - 1).toNatClampNeg + 1 = (Y 1).toNatClampNeg := by
    obtain ⟨m, hm⟩ : ∃ m, (Y 1).toNatClampNeg = m + 1 := ⟨(Y 1).toNatClampNeg - 1, by omega⟩
    rw [hm] at q1 hq
    rw [hm, q1, nI_p, nI_t (by omega)]
  refine ⟨?_, ?_, fun k hk => ?_, fun r hr => ?_, fun s f hs2 hf => ?_, fun b f hb hf => ?_, fun b hb => ?_⟩
  · rw [zj 0 (Or.inr rfl), yj 0 (Or.inr rfl)]
    simp (disch := omega) only [pk_un]
    exact hR.s
  · rw [z1', y1']
  · rw [y1'] at hk
    have hk2 : k + 1 < (Y 1).toNatClampNeg := by omega
    have e1 := ool_k (Y := upd (upd (upd (upd Z (20 + 20 * g + 6) x6) (20 + 20 * g + 7) x7) (20 + 20 * g) s2) (20 + 20 * g + 11) b11) (i := i) (k := k) (by rw [uz1]; exact hk2)
    have e2 := ool_k (Y := upd (upd (upd (upd (upd (upd Y (20 + 20 * g + 6) x6) (20 + 20 * g + 7) x7) (20 + 20 * g) s2) (20 + 20 * g + 11) (Y 0 + eO E 1)) (20 + 20 * g + 1) (-1)) (20 + 20 * g + 2) z) (i := i) (k := k) (by rw [uy1]; exact hk2)
    rw [e2, yk _ (by omega), yk _ (by omega)]
    unfold stZ
    rw [pk_un (by omega), pk_un (by omega), pk_un (by omega), pk_un (by omega), e1, zk _ (by omega), zk _ (by omega), hR.k hk2, hR.k (by omega)]
  · rw [zj _ (by omega), yj _ (by omega)]
    simp (disch := omega) only [pk_un]
    exact hR.r hr
  · rw [zj _ (by omega), yj _ (by omega)]
    simp (disch := omega) only [pk_un]
    exact hR.p f hs2 hf
  · rw [zj _ (by omega), yj _ (by omega)]
    by_cases e : b = g
    · subst e
      by_cases f1 : f = 6
      · subst f1; simp (disch := omega) only [pk_un, pk_us]
      by_cases f2 : f = 7
      · subst f2; simp (disch := omega) only [pk_un, pk_us]
      by_cases f3 : f = 1
      · subst f3; simp (disch := omega) only [pk_un, pk_us]
      by_cases f4 : f = 2
      · subst f4; simp (disch := omega) only [pk_un, pk_us]
      by_cases f5 : f = 3
      · subst f5; simp (disch := omega) only [pk_un, pk_us]; exact h3.symm
      simp (disch := omega) only [pk_un]
      exact hR.g f hb hf
    · simp (disch := omega) only [pk_un]
      exact hR.g f hb hf
  · refine ⟨?_, ?_⟩
    · unfold RG
      rw [zj _ (by omega), zj _ (by omega), zj _ (by omega), yj _ (by omega), yj _ (by omega), yj _ (by omega), yj _ (by omega)]
      by_cases e : b = g
      · subst e
        simp (disch := omega) only [pk_un, pk_us]
        refine Or.inl ⟨trivial, hl.2.1, fun c => ?_, fun c => ?_, fun c => ?_⟩
        · rcases hs with q | q
          · rw [q] at c; exact absurd c (by decide)
          · rw [q.1] at c; exact absurd c (by decide)
        · rcases hs with q | q
          · rw [q] at c; exact absurd c (by decide)
          · exact q.2
        · rcases hs with q | q
          · rw [q] at c; exact absurd c (by decide)
          · rw [q.1] at c; exact absurd c (by decide)
      · simp (disch := omega) only [pk_un]
        exact hR.G hb
    · rw [zj _ (by omega)]
      by_cases e : b = g
      · subst e
        rw [pk_us]
        exact Or.inl rfl
      · simp (disch := omega) only [pk_un]
        exact hR.b hb
/-- what the class eats -/
theorem eat_R (v : Int64) (plate : Int32) (x : Int64) (h0 : 0 ≤ plate.toInt) (hx : x = if lg_cmp v mnL = 0 then plate.toInt64 else if lg_cmp v plate.toInt64 ≤ 0 then v else plate.toInt64) : (if 0 ≤ lg_cmp x 0 then x else 0) = clamp (if v = mnL then plate.toInt64 else v) plate.toInt64 := by
  unfold clamp
  simp only [lgE] at hx
  have hp : 0 ≤ lg_cmp plate.toInt64 0 := by rw [lg_cmp_ge, Int64.le_iff_toInt_le, y_i2l, i64_0]; exact h0
  have hpp : lg_cmp plate.toInt64 plate.toInt64 ≤ 0 := by rw [lg_cmp_le]; exact Int64.le_refl _
  by_cases c : v = mnL
  · rw [if_pos c] at hx
    rw [if_pos c, hx, if_pos hp, if_pos hpp, if_pos hp]
  · rw [if_neg c] at hx
    rw [if_neg c]
    by_cases c2 : lg_cmp v plate.toInt64 ≤ 0
    · rw [if_pos c2] at hx
      rw [hx, if_pos c2]
    · rw [if_neg c2] at hx
      rw [hx, if_pos hp, if_neg c2, if_pos]
      rw [lg_cmp_le, Int64.le_iff_toInt_le, y_i2l] at c2
      rw [lg_cmp_ge, Int64.le_iff_toInt_le, i64_0]
      omega
section
variable {κ : eg_K} {d : Nat} {M : eg_H} {t p : Nat} {nm st : Nat → Int64} {Z : Nat → Int32}
theorem stZ_18 (Z : Nat → Int32) (i g : Nat) (z : Int32) (h : (Z 1).toNatClampNeg < 16) : stZ Z i g z 18 = Z 18 := by
  unfold stZ
  rw [pk_un (by omega), pk_un (by omega), pk_un (by omega), pk_un (by omega)]
  exact ool_o h (Or.inl (by omega))
theorem sX7_leaveLine (hd : 3 ≤ d) (ht : t < 4) (hW : cW M p) (hT : M.2.2 (7, t) 0 = (5, p)) {C : Nat} {Y : Nat → Int32} (hY : yI (cE M p) C Y) (hR : RY (cE M p) Z Y) {i : Nat} (hi : i < (Y 1).toNatClampNeg) (h3 : Y (20 + 20 * (Y (2 + i)).toNatClampNeg + 3) = 0) : eg_S κ gC mtX7_leaveLine d [vR (7, t), vI (nI i)] (TX M t p nm st Z) (eQV κ gC (fun M1 => ∃ n1 s1 Z1, M1 = TX M t p n1 s1 Z1 ∧ Z1 18 = Z 18 ∧ RY (cE M p) Z1 (sitF (cE M p) i Y))) := by
  have hn := (cN_e hW).2
  have hN := (cP_e hW).2
  have hp2 := hW.1
  have hE := hW.2.2.2.2.1
  have hq0 := vp_lt hY.1.1
  have hPP : eP (cE M p) = cP M p := rfl
  have hq : (Y 1).toNatClampNeg < 16 := by omega
  have q1 := (nI_of' hY.1.1 (by omega)).1
  obtain ⟨hk1, hk2⟩ := hY.1.2.1 i hi
  obtain ⟨eg, hg⟩ := nI_of' hk1 (by omega)
  have ezk : Z (2 + i) = nI (Y (2 + i)).toNatClampNeg := by rw [hR.k hi]; exact eg
  have esit : sitF (cE M p) i Y = _ := rfl
  unfold sitF at esit ⊢
  simp only [] at esit ⊢
  clear esit
  generalize (Y (2 + i)).toNatClampNeg = g at *
  have hg' : g < cP M p := hg
  have hgI := hY.2.2.1 g hg
  have e1 : eC (cE M p) g 1 = M.1 (0, 15 * p + g) 2 := eC_c hg' 1
  have b2 := hR.g 2 hg (by omega)
  have b6 := hR.g 6 hg (by omega)
  have b7 := hR.g 7 hg (by omega)
  have bw : sm (fun k => Z (20 + 20 * g + 14 + k)) 5 = sm (fun k => Y (34 + 20 * g + k)) 5 := sm_cong (fun k hk => by rw [hR.w hg hk, show 34 + 20 * g + k = 20 + 20 * g + 14 + k by omega])
  have eo1 : eO (cE M p) 1 = M.1 (5, p) 5 := rfl
  have hpl : 0 ≤ (eC (cE M p) g 1 - Y (20 + 20 * g + 2)).toInt := by
    have hz := hE.2.2.2.1 g hg
    have h2 := hgI.2.2.1
    rw [t_sub (by omega) (by omega)]
    omega
  generalize hag : (if sm (fun k => Y (34 + 20 * g + k)) 5 ≤ 0 then (0 : Int32) else if eO (cE M p) 1 ≤ 0 then 0 else if eC (cE M p) g 1 - Y (20 + 20 * g + 2) ≤ 0 then 0 else 1) = ag
  suffices main : ∀ Q : eg_H → Prop, (∀ M1, (∃ n1 s1 Z1, M1 = TX M t p n1 s1 Z1 ∧ Z1 18 = Z 18 ∧ RY (cE M p) Z1 (ool (upd (upd (upd (upd (upd (upd Y (20 + 20 * g + 6) (Y (20 + 20 * g + 6) + (clamp (lawD (cE M p) 2 (nmY nm0 Y (eC (cE M p) g 1) g (sm (fun k => Y (34 + 20 * g + k)) 5).toInt64 0 0) (eC (cE M p) g 1 - Y (20 + 20 * g + 2)).toInt64) (eC (cE M p) g 1 - Y (20 + 20 * g + 2)).toInt64).toInt32)) (20 + 20 * g + 7) (Y (20 + 20 * g + 7) + (eC (cE M p) g 1 - Y (20 + 20 * g + 2) - (clamp (lawD (cE M p) 2 (nmY nm0 Y (eC (cE M p) g 1) g (sm (fun k => Y (34 + 20 * g + k)) 5).toInt64 0 0) (eC (cE M p) g 1 - Y (20 + 20 * g + 2)).toInt64) (eC (cE M p) g 1 - Y (20 + 20 * g + 2)).toInt64).toInt32))) (20 + 20 * g) (if ag = 0 then 3 else 2)) (20 + 20 * g + 11) (Y 0 + eO (cE M p) 1)) (20 + 20 * g + 1) (-1)) (20 + 20 * g + 2) (eC (cE M p) g 1)) i)) → Q M1) → eg_S κ gC mtX7_leaveLine d [vR (7, t), vI (nI i)] (TX M t p nm st Z) (eQV κ gC Q) by
    exact main _ (fun _ h => h)
  intro Q hQ
  refine eg_S.of rfl (Nat.le_of_ble_eq_true rfl) (vX7_leaveLine_0 (by omega) _ ht _ ?_)
  rw [nI_t (by omega), T43 _ _ _ _ _ _ (by omega), ezk]
  refine ⟨nI_in' (by omega) (by omega), fun x2 e2 => ?_⟩
  subst e2
  refine ⟨nI_in' (by omega) (by omega), p, hp2, hT, fun x5 e5 => ⟨_, sX7_describe0 (by omega) ht hW hT hg', fun M6 e6 => ?_⟩⟩
  subst e6
  rw [nI_t (by omega), T0, T2_2 _ _ _ _ _ _ (by omega), b2, ← e1] at e5
  refine ⟨p, hp2, hT, nI_in' (n := 2) (by omega) (by omega), ?_⟩
  have c2 : (2 : Int32).toNatClampNeg = 2 := by decide
  rw [T35, c2]
  refine ⟨_, sX3_vTX (by omega) hW (by omega), fun x10 M11 ⟨e10, s1, e11⟩ x13 e13 x14 e14 => ?_⟩
  subst e11
  have ev : lawD (cE M p) 2 (nmY nm0 Y (eC (cE M p) g 1) g (sm (fun k => Y (34 + 20 * g + k)) 5).toInt64 0 0) (eC (cE M p) g 1 - Y (20 + 20 * g + 2)).toInt64 = if x10 = mnL then (eC (cE M p) g 1 - Y (20 + 20 * g + 2)).toInt64 else x10 := by
    unfold lawD
    rw [eL_c M p (by omega), lC_cong (nm1 := nmZ (cE M p) nm Z g (sm (fun k => Z (20 + 20 * g + 14 + k)) 5).toInt64 0 0), lC_d, e10]
    intro j hj
    unfold nmZ nmY
    rw [b2, hR.q, hR.s, (hR.l hg hk2).2.1, bw]
    exact nmC_8 _ _ _ _ _ _ _ _ _ _ j hj
  rw [← e5] at ev hpl hQ hag
  have eh : x14 = clamp (lawD (cE M p) 2 (nmY nm0 Y (eC (cE M p) g 1) g (sm (fun k => Y (34 + 20 * g + k)) 5).toInt64 0 0) x5.toInt64) x5.toInt64 := by
    rw [ev, e14]
    exact eat_R _ _ _ hpl e13
  rw [← eh] at hQ
  have out : ∀ (s2 b11 : Int32), s2 = (if ag = 0 then 3 else 2) → (s2 = 3 ∨ (s2 = 2 ∧ b11 = Y 0 + eO (cE M p) 1)) → ∀ n1 s1 Zx, Zx = (upd (upd (upd (upd Z (20 + 20 * g + 6) (Y (20 + 20 * g + 6) + x14.toInt32)) (20 + 20 * g + 7) (Y (20 + 20 * g + 7) + (x5 - x14.toInt32))) (20 + 20 * g) s2) (20 + 20 * g + 11) b11) → eCV κ gC mtX7_stepOut d [vR (7, t), vI (nI i)] (TX M t p n1 s1 Zx) Q := by
    intro s2 b11 hs0 hs n1 s1 Zx eZx
    subst eZx
    have u1 : (upd (upd (upd (upd Z (20 + 20 * g + 6) (Y (20 + 20 * g + 6) + x14.toInt32)) (20 + 20 * g + 7) (Y (20 + 20 * g + 7) + (x5 - x14.toInt32))) (20 + 20 * g) s2) (20 + 20 * g + 11) b11) 1 = Y 1 := by simp (disch := omega) only [pk_un]; exact hR.q
    refine ⟨_, sX7_stepOut (q := (Y 1).toNatClampNeg) (g := g) (by omega) ht hp2 hT hq ?_ hi (by omega) ?_, fun M1 em => hQ M1 ⟨n1, s1, _, em, ?_, ?_⟩⟩
    · rw [u1]; exact q1
    · simp (disch := omega) only [pk_un]; exact ezk
    · rw [stZ_18 _ _ _ _ (by rw [u1]; exact hq)]
      simp (disch := omega) only [pk_un]
    · rw [← e1, ← hs0]
      exact sit_R hE hR hq q1 hi hg hk2 h3 _ _ _ _ _ hs
  intro M15 e15 M16 e16
  rw [nI_t (by omega), T2_9 _ _ _ _ _ _ (by omega), W2_9 _ _ _ _ _ _ (by omega), b6] at e15
  subst e15
  rw [nI_t (by omega), T2_10 _ _ _ _ _ _ (by omega), W2_10 _ _ _ _ _ _ (by omega), pk_un (by omega), b7] at e16
  subst e16
  have k156 : ag = 0 → eg_W κ gC mtX7_leaveLine d (eQV κ gC Q) 156 [(0, vR (7, t)), (1, vI (nI i)), (3, vR (2, 15 * t + g))] [] (TX M t p (nmZ (cE M p) nm Z g (sm (fun k => Z (20 + 20 * g + 14 + k)) 5).toInt64 0 0) s1 (upd (upd Z (20 + 20 * g + 6) (Y (20 + 20 * g + 6) + x14.toInt32)) (20 + 20 * g + 7) (Y (20 + 20 * g + 7) + (x5 - x14.toInt32)))) := by
    intro ha
    refine vX7_leaveLine_156 (by omega) _ ht _ (by omega) (fun x1 ex M2 e2 => ⟨fun _ M4 e4 => ?_, fun c => absurd rfl c⟩)
    rw [W2_0 _ _ _ _ _ _ (by omega), ex, if_pos rfl] at e2
    rw [e2, W2_6 _ _ _ _ _ _ (by omega)] at e4
    rw [e4]
    exact out 3 (-1) (by rw [if_pos ha]) (Or.inl rfl) _ _ _ rfl
  rw [nI_t (by omega)]
  refine ⟨p, hp2, hT, fun c => k156 ?_, fun c => ⟨fun c2 => k156 ?_, fun c2 x21 e21 x22 e22 x23 e23 M24 e24 => ?_⟩⟩
  · rw [T5, ← eo1] at c
    rw [← hag, if_pos c]
    by_cases q : sm (fun k => Y (34 + 20 * g + k)) 5 ≤ 0
    · rw [if_pos q]
    · rw [if_neg q]
  · rw [T5, ← eo1] at c
    rw [← hag, if_neg c, if_pos c2]
    by_cases q : sm (fun k => Y (34 + 20 * g + k)) 5 ≤ 0
    · rw [if_pos q]
    · rw [if_neg q]
  · rw [T5, ← eo1] at c
    have ew : x21 = sm (fun k => Y (34 + 20 * g + k)) 5 := by
      rw [e21, ← bw]
      refine sm_cong (fun k hk => ?_)
      rw [T22 _ _ _ _ _ _ (by omega) hk]
      simp (disch := omega) only [pk_un]
    have ea : x22 = ag := by
      rw [← hag, e22, ew, if_neg c, if_neg c2]
    rw [W2_0 _ _ _ _ _ _ (by omega), e23, ea] at e24
    rw [ea, e24]
    refine ⟨fun c3 M26 e26 => ?_, fun c3 M29 e29 => ?_⟩
    · rw [W2_6 _ _ _ _ _ _ (by omega)] at e26
      rw [e26]
      exact out _ (-1) rfl (Or.inl (if_pos c3)) _ _ _ rfl
    · rw [T7_1, T5, W2_6 _ _ _ _ _ _ (by omega), pk_un (by omega), pk_un (by omega), pk_un (by omega), hR.s, ← eo1] at e29
      rw [e29]
      exact out _ _ rfl (Or.inr ⟨if_neg c3, rfl⟩) _ _ _ rfl
end
