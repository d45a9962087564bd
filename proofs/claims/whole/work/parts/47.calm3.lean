/-- held up once, held up again -/
theorem nx_blk {E : eg_E} {C : Nat} {Y : Nat → Int32} (hE : wE E) (hY : yI E C Y) {g : Nat} (hg : g < eP E) (h1 : Y (20 + 20 * g) = 1) {a : Int32} (ha : -1 ≤ a.toInt ∧ a.toInt < eN E) (hb : nxF Y (eN E) g < 0 ∨ ¬ nxF Y (eN E) g ≤ a) (x : Int32) :
    nxF (upd (upd Y (20 + 20 * g + 1) (if a ≤ Y (20 + 20 * g + 1) then Y (20 + 20 * g + 1) else a)) (20 + 20 * g + 4) x) (eN E) g = nxF Y (eN E) g := by
  have hn := hE.1
  have hN := hE.2.1
  by_cases c : a ≤ Y (20 + 20 * g + 1)
  · rw [if_pos c, upd_id]
    have : ∀ f, f ≠ 20 + 20 * g + 4 → upd Y (20 + 20 * g + 4) x f = Y f := fun f hf => pk_un hf
    unfold nxF nxS
    rw [this _ (by omega), this _ (by omega), this _ (by omega)]
    by_cases c2 : Y (22 + 20 * g) = 0
    · rw [if_pos c2, if_pos c2]
    · rw [if_neg c2, if_neg c2]
      refine fst1_cong _ _ (fun j h1 h2 => ?_)
      rw [this _ (by omega), this _ (by omega)]
  · rw [if_neg c]
    have ho : ∀ f, f ≠ 20 + 20 * g + 4 → f ≠ 20 + 20 * g + 1 → upd (upd Y (20 + 20 * g + 1) a) (20 + 20 * g + 4) x f = Y f := fun f hf hf2 => by rw [pk_un hf, pk_un hf2]
    have hpos : upd (upd Y (20 + 20 * g + 1) a) (20 + 20 * g + 4) x (21 + 20 * g) = a := by
      rw [show 21 + 20 * g = 20 + 20 * g + 1 by omega, pk_un (by omega), pk_us]
    have c' : (Y (20 + 20 * g + 1)).toInt < a.toInt := by rw [t_le] at c; omega
    obtain ⟨i1, i2, _, _, _⟩ := hY.2.2.1 g hg
    have i2 := i2 h1
    have c21 : 21 + 20 * g = 20 + 20 * g + 1 := by omega
    have c30 : 30 + 20 * g = 20 + 20 * g + 10 := by omega
    -- the two starts
    obtain ⟨s, s1, es, es1, hss, hs1, hsa⟩ : ∃ s s1, nxS Y g = nI s ∧ nxS (upd (upd Y (20 + 20 * g + 1) a) (20 + 20 * g + 4) x) g = nI s1 ∧ s ≤ s1 ∧ s1 ≤ eN E ∧ (∀ p : Nat, a.toInt < (p : Int) → s1 ≤ p) := by
      rcases i2 with q | q
      · have e1 : nxS Y g = Y (20 + 20 * g + 1) + 1 := by unfold nxS; rw [c30, q, if_neg (by decide), c21]
        have e2 : nxS (upd (upd Y (20 + 20 * g + 1) a) (20 + 20 * g + 4) x) g = a + 1 := by unfold nxS; rw [ho _ (by omega) (by omega), c30, q, if_neg (by decide), hpos]
        have v1 : (Y (20 + 20 * g + 1) + 1).toInt = (Y (20 + 20 * g + 1)).toInt + 1 := by rw [t_add (by rw [t_1]; omega) (by rw [t_1]; omega), t_1]
        have v2 : (a + 1).toInt = a.toInt + 1 := by rw [t_add (by rw [t_1]; omega) (by rw [t_1]; omega), t_1]
        have w1 : vp_in (Y (20 + 20 * g + 1) + 1) 6 := by rw [t_in]; omega
        have w2 : vp_in (a + 1) 6 := by rw [t_in]; omega
        obtain ⟨x1, y1⟩ := nI_of' w1 (by omega)
        obtain ⟨x2, y2⟩ := nI_of' w2 (by omega)
        refine ⟨_, _, e1.trans x1, e2.trans x2, ?_, ?_, fun p hp => ?_⟩
        all_goals
          generalize (Y (20 + 20 * g + 1) + 1).toNatClampNeg = u1 at *
          generalize (a + 1).toNatClampNeg = u2 at *
          rw [x1, t_nI (by omega)] at v1
          rw [x2, t_nI (by omega)] at v2
          omega
      · have e1 : nxS Y g = Y (20 + 20 * g + 1) := by unfold nxS; rw [c30, q.1, if_pos rfl, c21]
        have e2 : nxS (upd (upd Y (20 + 20 * g + 1) a) (20 + 20 * g + 4) x) g = a := by unfold nxS; rw [ho _ (by omega) (by omega), c30, q.1, if_pos rfl, hpos]
        have w1 : vp_in (Y (20 + 20 * g + 1)) 6 := by rw [t_in]; omega
        have w2 : vp_in a 6 := by rw [t_in]; omega
        obtain ⟨x1, y1⟩ := nI_of' w1 (by omega)
        obtain ⟨x2, y2⟩ := nI_of' w2 (by omega)
        have v1 := congrArg Int32.toInt x1
        have v2 := congrArg Int32.toInt x2
        rw [t_nI (by omega)] at v1 v2
        refine ⟨_, _, e1.trans x1, e2.trans x2, ?_, ?_, fun p hp => ?_⟩ <;> omega
    have hcong : ∀ k n, k + n ≤ eN E → fst1 (fun p => decide (0 < upd (upd Y (20 + 20 * g + 1) a) (20 + 20 * g + 4) x (34 + 20 * g + (upd (upd Y (20 + 20 * g + 1) a) (20 + 20 * g + 4) x (360 + p)).toNatClampNeg))) k n = fst1 (fun p => decide (0 < Y (34 + 20 * g + (Y (360 + p)).toNatClampNeg))) k n := by
      intro k n hkn
      refine fst1_cong _ _ (fun j h1 h2 => ?_)
      have hgg := hE.2.1
      rw [ho (360 + j) (by omega) (by omega), ho _ (by omega) (by omega)]
    unfold nxF at hb ⊢
    rw [ho (22 + 20 * g) (by omega) (by omega), es1, nI_t (by omega)]
    rw [es, nI_t (by omega)] at hb
    rw [es, nI_t (by omega)]
    by_cases c2 : Y (22 + 20 * g) = 0
    · rw [if_pos c2, if_pos c2]
    · rw [if_neg c2, if_neg c2]
      rw [if_neg c2] at hb
      rw [hcong _ _ (by omega)]
      by_cases cn : fst1 (fun p => decide (0 < Y (34 + 20 * g + (Y (360 + p)).toNatClampNeg))) s (eN E - s) < 0
      · have hno := fst1_m1 _ _ (by omega) cn
        rw [fst1_no _ _ (fun j h1 h2 => hno j (by omega) (by omega)), fst1_no _ _ (fun j h1 h2 => hno j (by omega) (by omega))]
      · obtain ⟨p, ep, hp1, hp2, _⟩ := fst1_r _ _ _ cn
        have hpa : ¬ nI p ≤ a := by
          rcases hb with q | q
          · exact absurd q cn
          · rw [ep] at q; exact q
        rw [t_le, t_nI (by omega)] at hpa
        rw [fst1_later (N := eN E) (by omega) _ s s1 rfl hss (hsa p (by omega)) (by omega) ep, ep]
theorem goF_blk {E : eg_E} {i : Nat} {Y : Nat → Int32} (c : blk E i Y) : goF E i Y = (false, upd (upd Y (20 + 20 * (Y (2 + i)).toNatClampNeg + 1) (if Y (20 + 20 * (Y (1 + i)).toNatClampNeg + 1) ≤ Y (20 + 20 * (Y (2 + i)).toNatClampNeg + 1) then Y (20 + 20 * (Y (2 + i)).toNatClampNeg + 1) else Y (20 + 20 * (Y (1 + i)).toNatClampNeg + 1))) (20 + 20 * (Y (2 + i)).toNatClampNeg + 4) (Y (20 + 20 * (Y (2 + i)).toNatClampNeg + 4) + 1)) := if_pos c
theorem goF_wat {E : eg_E} {i : Nat} {Y : Nat → Int32} (hE : wE E) (hi : i < 15) (hg : (Y (2 + i)).toNatClampNeg < 15) (c : ¬ blk E i Y) {p s : Nat} (e : nxF Y (eN E) (Y (2 + i)).toNatClampNeg = nI p) (hp : p < eN E) (es : s = (Y (360 + p)).toNatClampNeg) (h1 : ¬ (¬ eD E s 2 = 0 ∧ Y (320 + 8 * s) = 0)) (h2 : eD E s 1 ≤ sm (tkF (upd (upd Y (20 + 20 * (Y (2 + i)).toNatClampNeg + 1) (nI p)) (20 + 20 * (Y (2 + i)).toNatClampNeg + 10) 0) (nI p)) (Y 1).toNatClampNeg) (h3 : ∀ nm, eL E 1 nm = none) : goF E i Y = (false, upd (upd (upd (upd Y (20 + 20 * (Y (2 + i)).toNatClampNeg + 1) (nI p)) (20 + 20 * (Y (2 + i)).toNatClampNeg + 10) 0) (20 + 20 * (Y (2 + i)).toNatClampNeg + 10) 1) (20 + 20 * (Y (2 + i)).toNatClampNeg + 4) (Y (20 + 20 * (Y (2 + i)).toNatClampNeg + 4) + 1)) := by
  have hn := hE.1
  have c2 : ¬ nxF Y (eN E) (Y (2 + i)).toNatClampNeg < 0 := by rw [e]; exact nI_pos (by omega)
  have e3 : goF E i Y = (false, goToF E (Y (2 + i)).toNatClampNeg (nxF Y (eN E) (Y (2 + i)).toNatClampNeg).toNatClampNeg Y) := (if_neg c).trans (if_neg c2)
  rw [e3, e, nI_t (by omega)]
  unfold goToF
  dsimp only
  rw [← es]
  generalize (Y (2 + i)).toNatClampNeg = g at *
  have y1 : upd (upd Y (20 + 20 * g + 1) (nI p)) (20 + 20 * g + 10) 0 1 = Y 1 := by rw [pk_un (by omega), pk_un (by omega)]
  have yp : upd (upd Y (20 + 20 * g + 1) (nI p)) (20 + 20 * g + 10) 0 (320 + 8 * s) = Y (320 + 8 * s) := by rw [pk_un (by omega), pk_un (by omega)]
  have y4 : upd (upd Y (20 + 20 * g + 1) (nI p)) (20 + 20 * g + 10) 0 (20 + 20 * g + 4) = Y (20 + 20 * g + 4) := by rw [pk_un (by omega), pk_un (by omega)]
  rw [yp, if_neg h1, y1, if_neg (fun q => q h2), y4]
  have hl : ∀ nm, lawD E 1 nm 0 = 0 := fun nm => by unfold lawD; rw [h3]; rfl
  rw [hl, if_pos (by decide)]
theorem yI.tk0 {E : eg_E} {C : Nat} {Y : Nat → Int32} (hY : yI E C Y) {g : Nat} (hg : g < eP E) (h : ¬ Y (20 + 20 * g + 3) = 0) : ¬ Y (20 + 20 * g + 3) ≤ 0 := by
  have := (hY.2.2.1 g hg).2.2.2.1
  rw [t_eq, t_0] at h
  rw [t_le, t_0]
  omega
/-- a calm walk: after it everyone is held up, waits or takes -/
theorem walk_CQ {E : eg_E} {C : Nat} (hE : wE E) (hC : C < 1000000) : ∀ (n i : Nat) (Y : Nat → Int32), yI E C Y → walkS E n i Y → (∀ k, k < i → k < (Y 1).toNatClampNeg → CQ E Y k) → (Y 1).toNatClampNeg ≤ n + i → walkF E n i Y 1 = Y 1 ∧ ∀ k, k < (Y 1).toNatClampNeg → CQ E (walkF E n i Y) k
  | 0, i, Y, _, _, h, hq => ⟨rfl, fun k hk => h k (by omega) hk⟩
  | n + 1, i, Y, hY, hs, h, hq => by
    have hn := hE.1
    have hN := hE.2.1
    have hq16 := hY.q16 hE
    by_cases c : i < (Y 1).toNatClampNeg
    · have w : walkF E (n + 1) i Y = if Y (20 + 20 * (Y (2 + i)).toNatClampNeg + 3) = 0 then (if (goF E i Y).1 then walkF E n i (goF E i Y).2 else walkF E n (i + 1) (goF E i Y).2) else walkF E n (i + 1) Y := if_pos c
      have w2 : walkS E (n + 1) i Y = if Y (20 + 20 * (Y (2 + i)).toNatClampNeg + 3) = 0 then (blk E i Y ∨ (¬ blk E i Y ∧ wat E i Y)) ∧ walkS E n (i + 1) (goF E i Y).2 else walkS E n (i + 1) Y := if_pos c
      rw [w2] at hs
      rw [w]
      clear w w2
      obtain ⟨hk1, hk2⟩ := hY.1.2.1 i c
      have hg := vp_lt hk1
      by_cases c3 : Y (20 + 20 * (Y (2 + i)).toNatClampNeg + 3) = 0
      · rw [if_pos c3] at hs
        rw [if_pos c3, goF_st hE hs.1, if_neg (by decide)]
        obtain ⟨hst, hs2⟩ := hs
        have hGI := goF_I hE hC hY c
        rw [goF_st hE hst, if_neg (by decide)] at hGI
        obtain ⟨hY2, q2, _⟩ := hGI
        -- what the step leaves as it was
        have key : AG E (fun b => b ≠ (Y (2 + i)).toNatClampNeg) Y (goF E i Y).2 ∧ CQ E (goF E i Y).2 i := by
          -- any step that touches pos, waits, waited alone
          have agree : ∀ Y2 : Nat → Int32, (∀ j, j ≠ 20 + 20 * (Y (2 + i)).toNatClampNeg + 1 → j ≠ 20 + 20 * (Y (2 + i)).toNatClampNeg + 4 → j ≠ 20 + 20 * (Y (2 + i)).toNatClampNeg + 10 → Y2 j = Y j) → AG E (fun b => b ≠ (Y (2 + i)).toNatClampNeg) Y Y2 := by
            intro Y2 h2
            generalize (Y (2 + i)).toNatClampNeg = g at *
            refine ⟨h2 1 (by omega) (by omega) (by omega), fun k hk => h2 _ (by omega) (by omega) (by omega), fun q hq => h2 _ (by omega) (by omega) (by omega), fun s hs => h2 _ (by omega) (by omega) (by omega), fun b hb hbg => ⟨fun f hf => h2 _ (by omega) (by omega) (by omega), ?_, ?_⟩, fun b hb x => ?_⟩
            · rw [h2 _ (by omega) (by omega) (by omega)]
            · rw [h2 _ (by omega) (by omega) (by omega)]
            · by_cases e : b = g
              · subst e
                rw [h2 (20 + 20 * b + 3) (by omega) (by omega) (by omega), c3]
                exact ⟨fun q => absurd q.1 (by decide), fun q => absurd q.1 (by decide)⟩
              · rw [h2 _ (by omega) (by omega) (by omega), h2 _ (by omega) (by omega) (by omega)]
          by_cases cb : blk E i Y
          · have e := goF_blk cb
            rw [e]
            dsimp only
            have ag := agree (upd (upd Y (20 + 20 * (Y (2 + i)).toNatClampNeg + 1) (if Y (20 + 20 * (Y (1 + i)).toNatClampNeg + 1) ≤ Y (20 + 20 * (Y (2 + i)).toNatClampNeg + 1) then Y (20 + 20 * (Y (2 + i)).toNatClampNeg + 1) else Y (20 + 20 * (Y (1 + i)).toNatClampNeg + 1))) (20 + 20 * (Y (2 + i)).toNatClampNeg + 4) (Y (20 + 20 * (Y (2 + i)).toNatClampNeg + 4) + 1)) (fun j a1 a2 a3 => by rw [pk_un a2, pk_un a1])
            refine ⟨ag, ?_⟩
            have ci := cb.2.1
            obtain ⟨j, rfl⟩ : ∃ j, i = j + 1 := ⟨i - 1, by omega⟩
            have e1j : 1 + (j + 1) = 2 + j := by omega
            have hg2 := vp_lt (hY.1.2.1 j (by omega)).1
            have hpa := (hY.2.2.1 _ hg2).1
            have hne : (Y (2 + j)).toNatClampNeg ≠ (Y (2 + (j + 1))).toNatClampNeg := fun q => hY.1.nq hE c ⟨j, by omega, q⟩
            have hb := cb.2.2
            rw [e1j] at hb ag ⊢
            have hnx := nx_blk hE hY hg hk2 hpa hb (Y (20 + 20 * (Y (2 + (j + 1))).toNatClampNeg + 4) + 1)
            have hk' := ag.2.1 (j + 1) c
            have hj' := ag.2.1 j (by omega)
            right
            unfold blk
            rw [e1j, hk', hj', hnx]
            generalize (Y (2 + (j + 1))).toNatClampNeg = g at *
            generalize (Y (2 + j)).toNatClampNeg = a at *
            have z3 : (upd (upd Y (20 + 20 * g + 1) (if Y (20 + 20 * a + 1) ≤ Y (20 + 20 * g + 1) then Y (20 + 20 * g + 1) else Y (20 + 20 * a + 1))) (20 + 20 * g + 4) (Y (20 + 20 * g + 4) + 1)) (20 + 20 * g + 3) = 0 := by rw [pk_un (by omega), pk_un (by omega)]; exact c3
            have za : (upd (upd Y (20 + 20 * g + 1) (if Y (20 + 20 * a + 1) ≤ Y (20 + 20 * g + 1) then Y (20 + 20 * g + 1) else Y (20 + 20 * a + 1))) (20 + 20 * g + 4) (Y (20 + 20 * g + 4) + 1)) (20 + 20 * a + 1) = Y (20 + 20 * a + 1) := by rw [pk_un (by omega), pk_un (by omega)]
            have zg : (upd (upd Y (20 + 20 * g + 1) (if Y (20 + 20 * a + 1) ≤ Y (20 + 20 * g + 1) then Y (20 + 20 * g + 1) else Y (20 + 20 * a + 1))) (20 + 20 * g + 4) (Y (20 + 20 * g + 4) + 1)) (20 + 20 * g + 1) = if Y (20 + 20 * a + 1) ≤ Y (20 + 20 * g + 1) then Y (20 + 20 * g + 1) else Y (20 + 20 * a + 1) := by rw [pk_un (by omega), pk_us]
            rw [z3, za, zg]
            refine ⟨rfl, Or.inl ⟨⟨cb.1, by omega, hb⟩, ?_⟩⟩
            by_cases q : Y (20 + 20 * a + 1) ≤ Y (20 + 20 * g + 1)
            · rw [if_pos q]; exact q
            · rw [if_neg q]; exact Int32.le_refl _
          · rcases hst with q | ⟨_, p, s, ep, hp, es, hgn, htk, hlw⟩
            · exact absurd q cb
            · have e := goF_wat hE (by omega) (by omega) cb ep hp es hgn htk hlw
              rw [e]
              dsimp only
              have ag := agree (upd (upd (upd (upd Y (20 + 20 * (Y (2 + i)).toNatClampNeg + 1) (nI p)) (20 + 20 * (Y (2 + i)).toNatClampNeg + 10) 0) (20 + 20 * (Y (2 + i)).toNatClampNeg + 10) 1) (20 + 20 * (Y (2 + i)).toNatClampNeg + 4) (Y (20 + 20 * (Y (2 + i)).toNatClampNeg + 4) + 1)) (fun j a1 a2 a3 => by rw [pk_un a2, pk_un a3, pk_un a3, pk_un a1])
              refine ⟨ag, ?_⟩
              have hk' := ag.2.1 i c
              have hr := vp_lt (hY.2.1.1 p hp)
              have hs5 : s < 5 := by omega
              -- the next place is where they stand
              have hc2 : ¬ nxF Y (eN E) (Y (2 + i)).toNatClampNeg < 0 := by rw [ep]; exact nI_pos (by omega)
              obtain ⟨p1, ep1, hp1, _, hw1⟩ := nxF_r hc2
              have hpp : p1 = p := (nI_eq' (by omega) (by omega)).mp (ep1.symm.trans ep)
              subst hpp
              have htk2 := ag.tk hY (nI p1)
              have htkw : sm (tkF (upd (upd Y (20 + 20 * (Y (2 + i)).toNatClampNeg + 1) (nI p1)) (20 + 20 * (Y (2 + i)).toNatClampNeg + 10) 0) (nI p1)) (Y 1).toNatClampNeg = sm (tkF Y (nI p1)) (Y 1).toNatClampNeg := by
                have ag2 := agree (upd (upd Y (20 + 20 * (Y (2 + i)).toNatClampNeg + 1) (nI p1)) (20 + 20 * (Y (2 + i)).toNatClampNeg + 10) 0) (fun j a1 a2 a3 => by rw [pk_un a3, pk_un a1])
                have := ag2.tk hY (nI p1)
                rw [ag2.1] at this
                exact this
              rw [htkw] at htk
              have hroom : ¬ Y (22 + 20 * (Y (2 + i)).toNatClampNeg) = 0 := by
                intro q
                unfold nxF at hc2
                rw [if_pos q] at hc2
                exact hc2 (by decide)
              have hpre : 0 < i → (Y (1 + i)).toNatClampNeg ≠ (Y (2 + i)).toNatClampNeg := by
                intro hi0 q
                obtain ⟨j, rfl⟩ : ∃ j, i = j + 1 := ⟨i - 1, by omega⟩
                rw [show 1 + (j + 1) = 2 + j by omega] at q
                exact hY.1.nq hE c ⟨j, by omega, q⟩
              have hpa : 0 < i → (upd (upd (upd (upd Y (20 + 20 * (Y (2 + i)).toNatClampNeg + 1) (nI p1)) (20 + 20 * (Y (2 + i)).toNatClampNeg + 10) 0) (20 + 20 * (Y (2 + i)).toNatClampNeg + 10) 1) (20 + 20 * (Y (2 + i)).toNatClampNeg + 4) (Y (20 + 20 * (Y (2 + i)).toNatClampNeg + 4) + 1)) (1 + i) = Y (1 + i) := fun hi0 => by simp (disch := omega) only [pk_un]
              right
              unfold CQ at *
              rw [hk']
              unfold blk at cb ⊢
              rw [hk']
              generalize (Y (2 + i)).toNatClampNeg = g at *
              have zo : ∀ j, j ≠ 20 + 20 * g + 1 → j ≠ 20 + 20 * g + 4 → j ≠ 20 + 20 * g + 10 → (upd (upd (upd (upd Y (20 + 20 * g + 1) (nI p1)) (20 + 20 * g + 10) 0) (20 + 20 * g + 10) 1) (20 + 20 * g + 4) (Y (20 + 20 * g + 4) + 1)) j = Y j := fun j a1 a2 a3 => by rw [pk_un a2, pk_un a3, pk_un a3, pk_un a1]
              have z1 : (upd (upd (upd (upd Y (20 + 20 * g + 1) (nI p1)) (20 + 20 * g + 10) 0) (20 + 20 * g + 10) 1) (20 + 20 * g + 4) (Y (20 + 20 * g + 4) + 1)) (20 + 20 * g + 1) = nI p1 := by simp (disch := omega) only [pk_un, pk_us]
              have z10 : (upd (upd (upd (upd Y (20 + 20 * g + 1) (nI p1)) (20 + 20 * g + 10) 0) (20 + 20 * g + 10) 1) (20 + 20 * g + 4) (Y (20 + 20 * g + 4) + 1)) (20 + 20 * g + 10) = 1 := by simp (disch := omega) only [pk_un, pk_us]
              generalize upd (upd (upd (upd Y (20 + 20 * g + 1) (nI p1)) (20 + 20 * g + 10) 0) (20 + 20 * g + 10) 1) (20 + 20 * g + 4) (Y (20 + 20 * g + 4) + 1) = Y2 at *
              have hnx : nxF Y2 (eN E) g = nI p1 := by
                have es2 : nxS Y2 g = nI p1 := by
                  unfold nxS
                  rw [show 30 + 20 * g = 20 + 20 * g + 10 by omega, z10, if_pos rfl, show 21 + 20 * g = 20 + 20 * g + 1 by omega, z1]
                unfold nxF
                rw [zo (22 + 20 * g) (by omega) (by omega) (by omega), if_neg hroom, es2, nI_t (by omega)]
                obtain ⟨m, hm⟩ : ∃ m, eN E - p1 = m + 1 := ⟨eN E - p1 - 1, by omega⟩
                rw [hm]
                refine if_pos (decide_eq_true ?_)
                rw [zo (360 + p1) (by omega) (by omega) (by omega), zo _ (by omega) (by omega) (by omega)]
                exact hw1
              rw [hnx, z1, z10, zo (20 + 20 * g + 3) (by omega) (by omega) (by omega)]
              refine ⟨c3, Or.inr ⟨fun q => ?_, p1, s, rfl, hp, ?_, rfl, rfl, ?_, ?_, hlw⟩⟩
              · obtain ⟨u1, u2, u3⟩ := q
                apply cb
                refine ⟨u1, u2, ?_⟩
                rw [ep]
                rw [hpa u2, zo _ (by have := hpre u2; omega) (by omega) (by omega)] at u3
                exact u3
              · rw [zo _ (by omega) (by omega) (by omega)]; exact es
              · rw [zo _ (by omega) (by omega) (by omega)]; exact hgn
              · rw [htk2]; exact htk
        obtain ⟨ag, cqi⟩ := key
        have ih := walk_CQ hE hC n (i + 1) (goF E i Y).2 hY2 hs2 (fun k hk hkq => by
          by_cases e : k = i
          · rw [e]; exact cqi
          · rw [q2] at hkq
            refine CQ_cong hE hY ag hkq (fun q => ?_) (fun hk0 q => ?_) (h k (by omega) hkq)
            · exact hY.1.nq hE c ⟨k, by omega, q⟩
            · obtain ⟨j, rfl⟩ : ∃ j, k = j + 1 := ⟨k - 1, by omega⟩
              rw [show 1 + (j + 1) = 2 + j by omega] at q
              exact hY.1.nq hE c ⟨j, by omega, q⟩) (by rw [q2]; omega)
        rw [q2] at ih
        exact ih
      · rw [if_neg c3] at hs
        rw [if_neg c3]
        refine walk_CQ hE hC n (i + 1) Y hY hs (fun k hk hkq => ?_) (by omega)
        by_cases e : k = i
        · rw [e]; exact Or.inl (hY.tk0 hg c3)
        · exact h k (by omega) hkq
    · have w : walkF E (n + 1) i Y = Y := if_neg c
      rw [w]
      exact ⟨rfl, fun k hk => h k (by omega) hk⟩
