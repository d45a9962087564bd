theorem RY_u {E : eg_E} {Z Y : Nat → Int32} (h : RY E Z Y) (hE : wE E) (hq : (Y 1).toNatClampNeg < 16) {i : Nat} (hi : ¬ spj i) (x : Int32) : RY E (upd Z i x) (upd Y i x) := by
  refine RY_of h hE hq (fun j hj hs => ?_) (fun j hj hs => ?_)
  · by_cases e : j = i
    · subst e; exact Or.inl (by rw [pk_us, pk_us])
    · exact Or.inr ⟨pk_un e, pk_un e⟩
  · have e : j ≠ i := fun e => hi (e ▸ hs)
    exact ⟨pk_un e, pk_un e⟩
theorem goY1_I {E : eg_E} {C : Nat} {Y : Nat → Int32} (hE : wE E) (h : yI E C Y) {g p : Nat} (hg : g < eP E) (hp : p < eN E) : yI E C (upd (upd Y (20 + 20 * g + 1) (nI p)) (20 + 20 * g + 10) 0) := by
  have hn := hE.1
  have hN := hE.2.1
  refine h.ch1 hE hg (fun j hj e => ?_) ?_
  · by_cases e1 : j = 20 + 20 * g + 10
    · omega
    · rw [pk_un e1] at e
      have := upd_ne' e
      omega
  · have h2 := h.2.2.1 g hg
    unfold gI at h2 ⊢
    simp (disch := omega) only [pk_un, pk_us]
    refine ⟨⟨by rw [t_nI (by omega)]; omega, by rw [t_nI (by omega)]; omega⟩, fun _ => Or.inl rfl, h2.2.2.1, h2.2.2.2.1, fun k hk => ?_⟩
    have h3 := h2.2.2.2.2 k hk
    simp (disch := omega) only [pk_un]
    exact h3
/-- held up by the one ahead -/
def blk (E : eg_E) (i : Nat) (Y : Nat → Int32) : Prop :=
  eO E 0 = 0 ∧ 0 < i ∧ (nxF Y (eN E) (Y (2 + i)).toNatClampNeg < 0 ∨ ¬ nxF Y (eN E) (Y (2 + i)).toNatClampNeg ≤ Y (20 + 20 * (Y (1 + i)).toNatClampNeg + 1))
/-- stands at the next place and waits there -/
def wat (E : eg_E) (i : Nat) (Y : Nat → Int32) : Prop :=
  ∃ p s, nxF Y (eN E) (Y (2 + i)).toNatClampNeg = nI p ∧ p < eN E ∧ s = (Y (360 + p)).toNatClampNeg ∧ ¬ (¬ eD E s 2 = 0 ∧ Y (320 + 8 * s) = 0) ∧ eD E s 1 ≤ sm (tkF (upd (upd Y (20 + 20 * (Y (2 + i)).toNatClampNeg + 1) (nI p)) (20 + 20 * (Y (2 + i)).toNatClampNeg + 10) 0) (nI p)) (Y 1).toNatClampNeg ∧ ∀ nm, eL E 1 nm = none
section
variable {κ : eg_K} {d : Nat} {M : eg_H} {t p : Nat} {nm st : Nat → Int64} {Z : Nat → Int32}
theorem qW_R {E : eg_E} {C : Nat} {Z Y : Nat → Int32} (hE : wE E) (hY : yI E C Y) (hR : RY E Z Y) : qW Z := by
  have hN := hE.2.1
  have h0 := vp_lt hY.1.1
  refine ⟨?_, fun k hk => ?_⟩
  · rw [hR.q]
    exact fun q => hY.1.1 (q.imp_right (fun r => by omega))
  · rw [hR.q] at hk
    rw [hR.k hk]
    exact fun q => (hY.1.2.1 k hk).1 (q.imp_right (fun r => by omega))
theorem tk_R {E : eg_E} {C : Nat} {Z Y : Nat → Int32} (hE : wE E) (hY : yI E C Y) (hR : RY E Z Y) (x : Int32) : sm (tkF Z x) (Z 1).toNatClampNeg = sm (tkF Y x) (Y 1).toNatClampNeg := by
  rw [hR.q]
  refine sm_cong (fun k hk => ?_)
  have hg := vp_lt (hY.1.2.1 k hk).1
  unfold tkF
  rw [hR.k hk]
  generalize (Y (2 + k)).toNatClampNeg = g at hg ⊢
  have h3 := hR.g 3 hg (by omega)
  have h1 := hR.g 1 hg (by omega)
  rw [show 23 + 20 * g = 20 + 20 * g + 3 by omega, show 21 + 20 * g = 20 + 20 * g + 1 by omega, h3, h1]
theorem goW_TX (M : eg_H) (t p : Nat) (nm st : Nat → Int64) (Z : Nat → Int32) {g s : Nat} (hg : g < 15) (hs : s < 5) : fX2_goWithout (TX M t p nm st Z) (15 * t + g) (nI s) = TX M t p nm st (skipF g s Z) := by
  unfold fX2_goWithout skipF
  rw [nI_t (by omega), W22 _ _ _ _ _ _ hg hs, T2_11 _ _ _ _ _ _ hg, W2_11 _ _ _ _ _ _ hg, pk_un (by omega)]
theorem skip_R {E : eg_E} {Z Y : Nat → Int32} (h : RY E Z Y) (hE : wE E) (hq : (Y 1).toNatClampNeg < 16) {g s : Nat} (hg : g < eP E) (hs : s < eN E) : RY E (skipF g s Z) (skipF g s Y) := by
  have hn := hE.1
  have hN := hE.2.1
  unfold skipF
  rw [h.g 8 hg (by omega)]
  have h1 := RY_u h hE hq (i := 20 + 20 * g + 14 + s) (by unfold spj; omega) 0
  exact RY_u h1 hE (by rw [pk_un (by omega)]; exact hq) (by unfold spj; omega) _
/-- what a walk leaves -/
def wkP (M : eg_H) (t p : Nat) (Z Y : Nat → Int32) (i : Nat) (r : Int32) (M1 : eg_H) : Prop :=
  ∃ n1 s1 Z1, M1 = TX M t p n1 s1 Z1 ∧ r = (if (goF (cE M p) i Y).1 then 1 else 0) ∧ RY (cE M p) Z1 (goF (cE M p) i Y).2 ∧ (¬ Z1 18 = 0 → ¬ Z 18 = 0 ∧ (blk (cE M p) i Y ∨ (¬ blk (cE M p) i Y ∧ wat (cE M p) i Y)))
theorem sX7_walk (hd : 4 ≤ d) (ht : t < 4) (hW : cW M p) (hT : M.2.2 (7, t) 0 = (5, p)) {C : Nat} {Y : Nat → Int32} (hY : yI (cE M p) C Y) (hR : RY (cE M p) Z Y) {i : Nat} (hi : i < (Y 1).toNatClampNeg) (h3 : Y (20 + 20 * (Y (2 + i)).toNatClampNeg + 3) = 0) : eg_S κ gC mtX7_walk d [vR (7, t), vI (nI i)] (TX M t p nm st Z) (eQI κ gC (fun r M1 => wkP M t p Z Y i r M1)) := by
  have hn := (cN_e hW).2
  have enn := (cN_e hW).1
  have hN := (cP_e hW).2
  have hp2 := hW.1
  have hE := hW.2.2.2.2.1
  have hq0 := vp_lt hY.1.1
  have hPP : eP (cE M p) = cP M p := rfl
  have hNN : eN (cE M p) = cN M p := rfl
  have hq : (Y 1).toNatClampNeg < 16 := by omega
  obtain ⟨hk1, hk2⟩ := hY.1.2.1 i hi
  obtain ⟨eg, hg⟩ := nI_of' hk1 (by omega)
  have ezk : Z (2 + i) = nI (Y (2 + i)).toNatClampNeg := by rw [hR.k hi]; exact eg
  have hg15 : (Y (2 + i)).toNatClampNeg < 15 := by omega
  -- the step as it is told
  have go1 : blk (cE M p) i Y → goF (cE M p) i Y = (false, upd (upd Y (20 + 20 * (Y (2 + i)).toNatClampNeg + 1) (if Y (20 + 20 * (Y (1 + i)).toNatClampNeg + 1) ≤ Y (20 + 20 * (Y (2 + i)).toNatClampNeg + 1) then Y (20 + 20 * (Y (2 + i)).toNatClampNeg + 1) else Y (20 + 20 * (Y (1 + i)).toNatClampNeg + 1))) (20 + 20 * (Y (2 + i)).toNatClampNeg + 4) (Y (20 + 20 * (Y (2 + i)).toNatClampNeg + 4) + 1)) := fun c => if_pos c
  have go2 : ¬ blk (cE M p) i Y → nxF Y (cN M p) (Y (2 + i)).toNatClampNeg < 0 → goF (cE M p) i Y = (true, sitF (cE M p) i Y) := fun c c2 => (if_neg c).trans (if_pos c2)
  have go3 : ¬ blk (cE M p) i Y → ¬ nxF Y (cN M p) (Y (2 + i)).toNatClampNeg < 0 → goF (cE M p) i Y = (false, goToF (cE M p) (Y (2 + i)).toNatClampNeg (nxF Y (cN M p) (Y (2 + i)).toNatClampNeg).toNatClampNeg Y) := fun c c2 => (if_neg c).trans (if_neg c2)
  have hblk : blk (cE M p) i Y ↔ eO (cE M p) 0 = 0 ∧ 0 < i ∧ (nxF Y (cN M p) (Y (2 + i)).toNatClampNeg < 0 ∨ ¬ nxF Y (cN M p) (Y (2 + i)).toNatClampNeg ≤ Y (20 + 20 * (Y (1 + i)).toNatClampNeg + 1)) := Iff.rfl
  have hwat : (∃ p0 s, nxF Y (cN M p) (Y (2 + i)).toNatClampNeg = nI p0 ∧ p0 < cN M p ∧ s = (Y (360 + p0)).toNatClampNeg ∧ ¬ (¬ eD (cE M p) s 2 = 0 ∧ Y (320 + 8 * s) = 0) ∧ eD (cE M p) s 1 ≤ sm (tkF (upd (upd Y (20 + 20 * (Y (2 + i)).toNatClampNeg + 1) (nI p0)) (20 + 20 * (Y (2 + i)).toNatClampNeg + 10) 0) (nI p0)) (Y 1).toNatClampNeg ∧ ∀ nm, eL (cE M p) 1 nm = none) → wat (cE M p) i Y := fun h => h
  have hleave : ¬ blk (cE M p) i Y → nxF Y (cN M p) (Y (2 + i)).toNatClampNeg < 0 → ∀ n1 s1, eCV κ gC mtX7_leaveLine d [vR (7, t), vI (nI i)] (TX M t p n1 s1 (upd Z 18 0)) (fun M1 => wkP M t p Z Y i 1 M1) := by
    intro c c2 n1 s1
    refine ⟨_, sX7_leaveLine (by omega) ht hW hT hY (RY_calm hR hE hq 0) hi h3, fun M1 ⟨n2, s2, Z1, em, ec, er⟩ => ⟨n2, s2, Z1, em, ?_, ?_, fun q => ?_⟩⟩
    · rw [go2 c c2]; rfl
    · rw [go2 c c2]; exact er
    · rw [pk_us] at ec
      exact absurd ec q
  have hnxt := fun (d0 : Nat) => sX7_nextPlace (κ := κ) (d := d0) (nm := nm) (st := st) ht hW hT hY hR hg hk2
  generalize (Y (2 + i)).toNatClampNeg = g at *
  have hg' : g < cP M p := hg
  have b1 := hR.g 1 hg (by omega)
  have b4 := hR.g 4 hg (by omega)
  -- not held up
  have k90 : ∀ x3, x3 = cnx Y (cN M p) g → ¬ blk (cE M p) i Y → eg_W κ gC mtX7_walk d (eQI κ gC (fun r M1 => wkP M t p Z Y i r M1)) 90 [(0, vR (7, t)), (1, vI (nI i)), (2, vR (2, 15 * t + g)), (3, vI x3)] [] (TX M t p nm st Z) := by
    intro x3 e3 hb
    refine vX7_walk_90 (by omega) _ ht _ (by omega) _ ⟨p, hp2, hT, fun c M3 eM3 M4 eM4 => ?_, fun c M26 e26 => ?_⟩
    · rw [W2_1 _ _ _ _ _ _ (by omega)] at eM3
      subst eM3
      rw [W2_5 _ _ _ _ _ _ (by omega)] at eM4
      subst eM4
      rw [T5, enn, e3] at c
      have hnn : ¬ nxF Y (cN M p) g < 0 := by
        intro q
        unfold cnx at c
        rw [if_pos q] at c
        exact Int32.lt_irrefl c
      obtain ⟨p0, ep, hp0, _, _⟩ := nxF_r hnn
      have ex3 : x3 = nI p0 := by
        rw [e3]
        unfold cnx
        rw [if_neg hnn, ep]
      subst ex3
      have hrow := hY.2.1.1 p0 hp0
      obtain ⟨es, hs⟩ := nI_of' hrow (by omega)
      have hzr : Z (360 + p0) = Y (360 + p0) := hR.r hp0
      have gto := go3 hb hnn
      rw [ep, nI_t (by omega)] at gto
      unfold goToF at gto
      dsimp only at gto
      have hwat2 : (∃ s, s = (Y (360 + p0)).toNatClampNeg ∧ ¬ (¬ eD (cE M p) s 2 = 0 ∧ Y (320 + 8 * s) = 0) ∧ eD (cE M p) s 1 ≤ sm (tkF (upd (upd Y (20 + 20 * g + 1) (nI p0)) (20 + 20 * g + 10) 0) (nI p0)) (Y 1).toNatClampNeg ∧ ∀ nm, eL (cE M p) 1 nm = none) → wat (cE M p) i Y := fun ⟨s, a⟩ => hwat ⟨p0, s, ep, hp0, a⟩
      generalize (Y (360 + p0)).toNatClampNeg = s at *
      have hs' : s < cN M p := hs
      have hwat3 : ¬ (¬ eD (cE M p) s 2 = 0 ∧ Y (320 + 8 * s) = 0) → eD (cE M p) s 1 ≤ sm (tkF (upd (upd Y (20 + 20 * g + 1) (nI p0)) (20 + 20 * g + 10) 0) (nI p0)) (Y 1).toNatClampNeg → (∀ nm, eL (cE M p) 1 nm = none) → wat (cE M p) i Y := fun a b c => hwat2 ⟨s, rfl, a, b, c⟩
      clear hwat2 hwat
      have hR1 : RY (cE M p) (upd (upd Z (20 + 20 * g + 1) (nI p0)) (20 + 20 * g + 10) 0) (upd (upd Y (20 + 20 * g + 1) (nI p0)) (20 + 20 * g + 10) 0) := RY_u10 (RY_u hR hE hq (by unfold spj; omega) _) hE (by rw [pk_un (by omega)]; exact hq) _ (Or.inl rfl)
      have hY1 := goY1_I hE hY hg hp0
      have y1 : upd (upd Y (20 + 20 * g + 1) (nI p0)) (20 + 20 * g + 10) 0 1 = Y 1 := by simp (disch := omega) only [pk_un]
      have yst : upd (upd Y (20 + 20 * g + 1) (nI p0)) (20 + 20 * g + 10) 0 (20 + 20 * g) = 1 := by simp (disch := omega) only [pk_un]; exact hk2
      have ypo : upd (upd Y (20 + 20 * g + 1) (nI p0)) (20 + 20 * g + 10) 0 (320 + 8 * s) = Y (320 + 8 * s) := by simp (disch := omega) only [pk_un]
      have z18 : upd (upd Z (20 + 20 * g + 1) (nI p0)) (20 + 20 * g + 10) 0 18 = Z 18 := by simp (disch := omega) only [pk_un]
      have zrow : upd (upd Z (20 + 20 * g + 1) (nI p0)) (20 + 20 * g + 10) 0 (360 + p0) = nI s := by simp (disch := omega) only [pk_un]; exact hzr.trans es
      have zki : upd (upd Z (20 + 20 * g + 1) (nI p0)) (20 + 20 * g + 10) 0 (2 + i) = nI g := by simp (disch := omega) only [pk_un]; exact ezk
      have hpr : upd (upd Z (20 + 20 * g + 1) (nI p0)) (20 + 20 * g + 10) 0 (320 + 8 * s) = Y (320 + 8 * s) := by simp (disch := omega) only [pk_un]; exact hR.p0 hs
      rw [← y1] at hwat3
      rw [← ypo] at hwat3 hpr
      generalize upd (upd Y (20 + 20 * g + 1) (nI p0)) (20 + 20 * g + 10) 0 = Y1 at *
      generalize upd (upd Z (20 + 20 * g + 1) (nI p0)) (20 + 20 * g + 10) 0 = Z1 at *
      have hq1 : (Y1 1).toNatClampNeg < 16 := by rw [y1]; exact hq
      rw [nI_t (by omega), T40 _ _ _ _ _ _ (by omega), zrow]
      refine ⟨nI_in' (by omega) (by omega), fun x6 e6 => ?_⟩
      subst e6
      refine ⟨ghasPan_c (cW_TX hW) (by omega), fun x9 e9 => ⟨fun _ => nI_in' (by omega) (by omega), fun x11 e11 => ?_⟩⟩
      rw [hasPan_TX] at e9
      have hx := hasPan_c hW hs'
      rw [← e9] at hx
      rw [nI_t (by omega), T4_0 _ _ _ _ _ _ (by omega), hpr] at e11
      have h11 : x11 = 0 ↔ ¬ (¬ eD (cE M p) s 2 = 0 ∧ Y1 (320 + 8 * s) = 0) := by
        rw [e11]
        by_cases c1 : x9 = 0
        · rw [if_pos c1]
          exact ⟨fun _ q => q.1 (hx.mp c1), fun _ => rfl⟩
        · rw [if_neg c1]
          have c1' : ¬ eD (cE M p) s 2 = 0 := fun q => c1 (hx.mpr q)
          by_cases c2 : Y1 (320 + 8 * s) = 0
          · rw [if_neg (fun q => q c2)]
            exact ⟨fun q => absurd q (by decide), fun q => absurd ⟨c1', c2⟩ q⟩
          · rw [if_pos c2]
            exact ⟨fun _ q => c2 q.2, fun _ => rfl⟩
      -- left out
      have skip : ∀ n1 s1, (goF (cE M p) i Y = (false, skipF g s Y1)) → wkP M t p Z Y i 0 (TX M t p n1 s1 (skipF g s (upd Z1 18 0))) := by
        intro n1 s1 eg2
        refine ⟨n1, s1, _, rfl, by rw [eg2]; rfl, by rw [eg2]; exact skip_R (RY_calm hR1 hE hq1 0) hE hq1 hg hs, fun q => ?_⟩
        unfold skipF at q
        simp (disch := omega) only [pk_un, pk_us] at q
        exact absurd trivial q
      have k209 : ∀ n1 s1, (x11 = 0 → eD (cE M p) s 1 ≤ sm (tkF Y1 (nI p0)) (Y1 1).toNatClampNeg) → eg_W κ gC mtX7_walk d (eQI κ gC (fun r M1 => wkP M t p Z Y i r M1)) 209 [(0, vR (7, t)), (1, vI (nI i)), (2, vR (2, 15 * t + g)), (4, vI (nI s)), (5, vI x11)] [] (TX M t p n1 s1 Z1) := by
        intro n1 s1 hpl
        refine vX7_walk_209 (by omega) _ ht _ (by omega) _ _ ⟨fun c5 M2 eM2 => ?_, fun c5 => ⟨nI_in' (by omega) (by omega), ?_⟩⟩
        · rw [W7_7] at eM2
          subst eM2
          have c6 : ¬ eD (cE M p) s 2 = 0 ∧ Y1 (320 + 8 * s) = 0 := Classical.byContradiction (fun q => c5 (h11.mpr q))
          rw [if_pos c6] at gto
          refine ⟨nI_in' (by omega) (by omega), fun M4 eM4 => ?_⟩
          rw [goW_TX _ _ _ _ _ _ (by omega) (by omega)] at eM4
          rw [eM4]
          exact skip _ _ gto
        · rw [if_neg (h11.mp c5), if_neg (fun q => q (hpl c5))] at gto
          rw [nI_t (by omega), T43 _ _ _ _ _ _ (by omega), zki]
          refine ⟨_, sX7_leavesOut (by omega) ht hW hT hR1 hg' hs' yst, fun x7 M8 ⟨e7, n2, s2, e8⟩ => ?_⟩
          subst e8
          refine ⟨fun c7 => ?_, fun c7 M17 e17 => ?_⟩
          · have c8 : lg_cmp (lawD (cE M p) 1 (nmA (cE M p) Y1 g s) 0) 0 = 0 := Classical.byContradiction (fun q => by rw [if_neg q] at e7; rw [e7] at c7; exact absurd c7 (by decide))
            rw [if_pos c8] at gto
            have b4' := hR1.g 4 hg (by omega)
            have fin : ∀ s0 : Int32, (s0 = 0 ∨ s0 = 1) → (¬ s0 = 0 → ¬ Z 18 = 0 ∧ ∀ nm, eL (cE M p) 1 nm = none) → eg_W κ gC mtX7_walk d (eQI κ gC (fun r M1 => wkP M t p Z Y i r M1)) 269 [(2, vR (2, 15 * t + g))] [vI s0, vR (7, t)] (TX M t p n2 s2 Z1) := by
              intro s0 hs0 hs1
              refine vX7_walk_269 _ (by omega) _ ht ⟨hs0, fun M1 e1 M3 e3 M4 e4 => ?_⟩
              rw [W7_7] at e1
              rw [e1, W2_5 _ _ _ _ _ _ (by omega)] at e3
              rw [e3, T2_7 _ _ _ _ _ _ (by omega), W2_7 _ _ _ _ _ _ (by omega), pk_un (by omega), pk_un (by omega), b4'] at e4
              rw [e4]
              refine ⟨n2, s2, _, rfl, by rw [gto]; rfl, ?_, fun q => ?_⟩
              · rw [gto]
                exact RY_u (RY_u10 (RY_calm hR1 hE hq1 s0) hE hq1 _ (Or.inr rfl)) hE (by rw [pk_un (by omega)]; exact hq1) (by unfold spj; omega) _
              · simp (disch := omega) only [pk_un, pk_us] at q
                have := hs1 q
                exact ⟨this.1, Or.inr ⟨hb, hwat3 (h11.mp c5) (hpl c5) this.2⟩⟩
            rw [T7_7, z18]
            refine ⟨fun c9 => fin 0 (Or.inl rfl) (fun q => absurd rfl q), fun c9 => ⟨p, hp2, hT, nI_in' (n := 1) (by omega) (by omega), fun x14 e14 => ?_⟩⟩
            rw [T35, one_t] at e14
            by_cases c10 : M.1 (35, p) 1 = -1
            · rw [if_neg (fun q => q c10)] at e14
              rw [e14]
              refine fin 1 (Or.inr rfl) (fun _ => ⟨c9, fun nm1 => ?_⟩)
              rw [eL_c M p (by omega)]
              unfold lC valC
              rw [c10, if_pos (Or.inl (by decide)), if_pos rfl]
            · rw [if_pos c10] at e14
              rw [e14]
              exact fin 0 (Or.inl rfl) (fun q => absurd rfl q)
          · have c8 : ¬ lg_cmp (lawD (cE M p) 1 (nmA (cE M p) Y1 g s) 0) 0 = 0 := fun q => by rw [if_pos q] at e7; exact c7 e7
            rw [if_neg c8] at gto
            rw [W7_7] at e17
            subst e17
            refine ⟨nI_in' (by omega) (by omega), fun M19 e19 => ?_⟩
            rw [goW_TX _ _ _ _ _ _ (by omega) (by omega)] at e19
            rw [e19]
            exact skip _ _ gto
      refine ⟨fun c5 => k209 _ _ (fun q => absurd q c5), fun c5 => ⟨_, sX7_takersAt ht (qW_R hE hY1 hR1) _, fun x13 M14 ⟨e13, e14⟩ => ?_⟩⟩
      subst e14
      rw [tk_R hE hY1 hR1] at e13
      refine ⟨p, hp2, hT, nI_in' (by omega) (by omega), ?_⟩
      have ed1 : eD (cE M p) s 1 = M.1 (1, 5 * p + s) 2 := eD_c hs' 1
      rw [nI_t (by omega), T1, ← ed1, e13]
      refine ⟨fun c6 => k209 _ _ (fun _ => c6), fun c6 M19 e19 => ⟨nI_in' (by omega) (by omega), ?_⟩⟩
      rw [W7_7] at e19
      subst e19
      rw [nI_t (by omega), T43 _ _ _ _ _ _ (by omega), pk_un (by omega), zki]
      rw [if_neg (h11.mp c5), if_pos c6] at gto
      refine ⟨_, sX7_take (by omega) ht hW hT hY1 (RY_calm hR1 hE hq1 0) hg' hs' yst, fun M21 ⟨n2, s2, Z2, e2, ec, er⟩ => ⟨n2, s2, Z2, e2, by rw [gto]; rfl, by rw [gto]; exact er, fun q => ?_⟩⟩
      rw [pk_us] at ec
      exact absurd ec q
    · rw [T5, enn, e3] at c
      have hnn : nxF Y (cN M p) g < 0 := by
        refine Classical.byContradiction (fun q => c ?_)
        obtain ⟨p0, ep, hp0, _, _⟩ := nxF_r q
        unfold cnx
        rw [if_neg q, ep]
        exact (nI_lt' (by omega) (by omega)).mpr hp0
      rw [W7_7] at e26
      subst e26
      exact hleave hb hnn _ _
  refine eg_S.of rfl (Nat.le_of_ble_eq_true rfl) (vX7_walk_0 (by omega) _ ht _ ?_)
  rw [nI_t (by omega), T43 _ _ _ _ _ _ (by omega), ezk]
  refine ⟨nI_in' (by omega) (by omega), nI_in' (by omega) (by omega), ?_⟩
  rw [nI_t (by omega)]
  refine ⟨_, hnxt _, fun x3 M4 ⟨e3, e4⟩ => ?_⟩
  subst e4
  have eo0 : eO (cE M p) 0 = M.1 (5, p) 4 := rfl
  refine ⟨p, hp2, hT, fun c => k90 _ e3 (fun q => c (by rw [T5, ← eo0]; exact (hblk.mp q).1)), fun c => ⟨fun c2 => k90 _ e3 (fun q => ?_), fun c2 => ?_⟩⟩
  · have := (hblk.mp q).2.1
    exact absurd ((nI_le' (b := 0) (by omega) (by omega)).mp c2) (by omega)
  · have hi0 : 0 < i := by
      refine Nat.pos_of_ne_zero (fun q => c2 ?_)
      rw [q]
      exact Int32.le_refl _
    obtain ⟨j, rfl⟩ : ∃ j, i = j + 1 := ⟨i - 1, by omega⟩
    have hkj := (hY.1.2.1 j (by omega)).1
    obtain ⟨ej, hj⟩ := nI_of' hkj (by omega)
    have ezj : Z (2 + j) = nI (Y (2 + j)).toNatClampNeg := by rw [hR.k (by omega)]; exact ej
    have e1j : 1 + (j + 1) = 2 + j := by omega
    rw [nI_p, nI_t (by omega), T43 _ _ _ _ _ _ (by omega), ezj]
    rw [e1j] at hblk go1
    generalize (Y (2 + j)).toNatClampNeg = a at *
    refine ⟨nI_in' (by omega) (by omega), nI_in' (by omega) (by omega), ?_⟩
    have ba := hR.g 1 hj (by omega)
    rw [nI_t (by omega), T2_1 _ _ _ _ _ _ (by omega), T2_1 _ _ _ _ _ _ (by omega), ba, b1]
    intro x11 e11
    subst e11
    have hpa := (hY.2.2.1 a hj).1
    have hcmp : x3 ≤ Y (20 + 20 * a + 1) ↔ ¬ (nxF Y (cN M p) g < 0 ∨ ¬ nxF Y (cN M p) g ≤ Y (20 + 20 * a + 1)) := by
      rw [e3]
      unfold cnx
      by_cases q : nxF Y (cN M p) g < 0
      · rw [if_pos q]
        refine ⟨fun h => ?_, fun h => absurd (Or.inl q) h⟩
        rw [t_le, t_nI (by omega)] at h
        have hpa2 : (Y (20 + 20 * a + 1)).toInt < ((cN M p : Nat) : Int) := hpa.2
        omega
      · rw [if_neg q]
        exact ⟨fun h r => r.elim q (fun r => r h), fun h => Classical.byContradiction (fun r => h (Or.inr r))⟩
    have ceo : eO (cE M p) 0 = 0 := by rw [eo0]; rw [T5] at c; exact c
    refine ⟨fun c3 => k90 _ e3 (fun q => (hcmp.mp c3) (hblk.mp q).2.2), fun c3 x13 e13 M14 e14 M15 e15 => ?_⟩
    have hb : blk (cE M p) (j + 1) Y := hblk.mpr ⟨ceo, by omega, Classical.byContradiction (fun q => c3 (hcmp.mpr q))⟩
    rw [W2_1 _ _ _ _ _ _ (by omega)] at e14
    rw [e14, T2_7 _ _ _ _ _ _ (by omega), W2_7 _ _ _ _ _ _ (by omega), pk_un (by omega), b4] at e15
    rw [e15]
    refine ⟨nm, st, _, rfl, by rw [go1 hb]; rfl, ?_, fun q => ?_⟩
    · rw [go1 hb, e13]
      exact RY_u (RY_u hR hE hq (by unfold spj; omega) _) hE (by rw [pk_un (by omega)]; exact hq) (by unfold spj; omega) _
    · simp (disch := omega) only [pk_un] at q
      exact ⟨q, Or.inl hb⟩
end
