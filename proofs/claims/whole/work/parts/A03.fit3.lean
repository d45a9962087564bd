theorem t0_t0 (N : eg_H) : t0 (t0 N) = t0 N := sI_sI N (60, 0) 2 0 0
theorem st_fits {M N : eg_H} {C p : Nat} (h : JJ M N C p) : StI mtX10_fits mtX11_fits [] M N C := by
  have F0 : FrN N (t0 N) := FrN_f N (by omega) 0
  have hp := h.hp
  obtain ⟨c, hc, c1, c2, c3, c4, c5⟩ := h.2.2.2.1
  -- how many are known
  obtain ⟨K, eK0, hK⟩ : ∃ K, fX11_knownMany (t0 N) = nI K ∧ K ≤ c := by
    unfold fX11_knownMany
    rw [t0_k N (by decide), t0_k N (by decide), c2]
    by_cases q : 0 ≤ N.1 (60, 0) 74
    · rw [if_pos q]
      rw [t_le, t_0] at q
      have hv : vp_in (N.1 (60, 0) 74) (c + 1) := by rw [t_in]; omega
      obtain ⟨e, l⟩ := nI_of' hv (by omega)
      exact ⟨_, e, by omega⟩
    · rw [if_neg q]; exact ⟨c, rfl, Nat.le_refl _⟩
  have eKc : fX8_knownCounts M = nI K := by
    rw [← eK0]
    unfold fX8_knownCounts fX11_knownMany
    rw [t0_k N (by decide), t0_k N (by decide), c3, c1, c2]
    by_cases q : N.1 (60, 0) 74 = -1
    · rw [if_neg (fun z => z q), if_neg (by rw [q]; decide)]
    · rw [if_pos q, if_pos (by rw [t_le, t_0]; rw [t_eq, t_m1] at q; omega)]
  have sv : ∀ i, i < c → N.1 (136, 0) i = -1 → vp_in (N.1 (137, 0) i) i := fun i hi q => by
    rcases (c5 i hi).2.2 with w | w
    · exact w.2
    · have w1 := w.1
      rw [q, t_in, t_m1] at w1
      omega
  have sn : ∀ i, i < c → ¬ N.1 (136, 0) i = -1 → vp_in (N.1 (136, 0) i) (cN M p) ∧ vp_in (N.1 (137, 0) i) 3600 ∧ M.1 (46, 0) i = N.1 (138, 0) i ∧ M.1 (47, 0) i = N.1 (139, 0) i := fun i hi q => by
    rcases (c5 i hi).2.2 with w | w
    · exact absurd w.1 q
    · exact w
  have n6 := (cN_e h.1.2.1.cW).2
  -- what holds, on either side
  have hK0 : ∀ j, j < K → hl (N.1 (136, 0)) (N.1 (137, 0)) K (cpT (fun i => if nI K ≤ nI i then 0 else 1) (M.1 (48, 0)) 40) j = hl (N.1 (136, 0)) (N.1 (137, 0)) K (cpT (fun _ => 1) (N.1 (140, 0)) K) j := by
    refine hl_cong K _ _ (Nat.le_refl _) (fun j hj => ?_)
    rw [cpT_lt (by omega), cpT_lt hj, if_neg (nI_ge hj (by omega))]
  have hK1 : ∀ j, K ≤ j → j < 40 → hl (N.1 (136, 0)) (N.1 (137, 0)) K (cpT (fun i => if nI K ≤ nI i then 0 else 1) (M.1 (48, 0)) 40) j = 0 := fun j h1 h2 => by
    rw [hl_out (n := K) (fun k hk q => by have := vp_lt (sv k (by omega) q); omega) K _ (Nat.le_refl _) j h1, cpT_lt h2, if_pos (nI_le h1 (by omega))]
  have mS : ctS M c (N.1 (136, 0)) (N.1 (137, 0)) := ⟨hc, c1, fun i hi => ⟨(c5 i hi).1, (c5 i hi).2.1⟩⟩
  have mk := fun κ => sX8_markHolding (κ := κ) (d := 11) (by omega) M mS hK eKc sv
  generalize hHC : hl (N.1 (136, 0)) (N.1 (137, 0)) K (cpT (fun i => if nI K ≤ nI i then 0 else 1) (M.1 (48, 0)) 40) = HC at *
  generalize hHM : hl (N.1 (136, 0)) (N.1 (137, 0)) K (cpT (fun _ => 1) (N.1 (140, 0)) K) = HM at hK0
  -- the model with what holds laid down
  have F2 : FrN N (sW (t0 N) (140, 0) HM) := by
    refine F0.tr ⟨fun k _ _ _ => by rw [sW_ne _ _ (by decide)], fun r _ _ _ _ _ _ h7 _ _ _ => sW_ne _ _ (fun q => h7 (by rw [q])), fun g _ => ?_, fun j _ => by rw [sW_ne _ _ (by decide)]⟩
    rw [sW_ne _ _ (by decide), sW_ne _ _ (by decide), sW_ne _ _ (by decide)]
    exact ⟨rfl, rfl, fun _ _ => rfl⟩
  have h2 : JJ M (sW (t0 N) (140, 0) HM) C p := h.cong (FrQ.rf p M) F2
  have r136 : (sW (t0 N) (140, 0) HM).1 (136, 0) = N.1 (136, 0) := F2.o (by omega)
  have r137 : (sW (t0 N) (140, 0) HM).1 (137, 0) = N.1 (137, 0) := F2.o (by omega)
  have r138 : (sW (t0 N) (140, 0) HM).1 (138, 0) = N.1 (138, 0) := F2.o (by omega)
  have r139 : (sW (t0 N) (140, 0) HM).1 (139, 0) = N.1 (139, 0) := F2.o (by omega)
  have r140 : (sW (t0 N) (140, 0) HM).1 (140, 0) = HM := sW_at _ _ _
  have r73 : (sW (t0 N) (140, 0) HM).1 (60, 0) 73 = (t0 N).1 (60, 0) 73 := by rw [sW_ne _ _ (by decide)]
  have r74 : (sW (t0 N) (140, 0) HM).1 (60, 0) 74 = (t0 N).1 (60, 0) 74 := by rw [sW_ne _ _ (by decide)]
  have r95 : (sW (t0 N) (140, 0) HM).1 (95, 0) = N.1 (95, 0) := F2.o (by omega)
  have et : t0 (sW (t0 N) (140, 0) HM) = sW (t0 N) (140, 0) HM := sI_same (by rw [sW_ne _ _ (by decide), sI_60, if_pos rfl])
  have pl2 := h2.1.2.1
  obtain ⟨em, lm⟩ := nI_of' pl2.hm (by omega)
  have emC : M.1 (5, p) 7 = nI ((sW (t0 N) (140, 0) HM).1 (60, 0) 14).toNatClampNeg := by rw [pl2.em]; exact em
  have i2 := fun (y : Nat) (M1 : eg_H) (m1 : mI (sW (t0 N) (140, 0) HM) 62 63 M1) (x z : Int32) => mI_u (N := sW (t0 N) (140, 0) HM) (M := M1) (a := 62) (b := 63) (by decide) (by decide) m1 x z
  have m0 : mI (sW (t0 N) (140, 0) HM) 62 63 (sW (t0 N) (140, 0) HM) := by have := mI_0 h2 62 63; rw [et] at this; exact this
  have em' : (sW (t0 N) (140, 0) HM).1 (60, 0) 14 = nI ((sW (t0 N) (140, 0) HM).1 (60, 0) 14).toNatClampNeg := em
  generalize hm : ((sW (t0 N) (140, 0) HM).1 (60, 0) 14).toNatClampNeg = m at *
  -- each plan that is asked
  have qsA : ∀ y, y ≤ m → ∀ M', (y < m → spX M p M' (fun r k => r = (35, 1 - p) ∧ k = (N.1 (95, 0) y).toNatClampNeg) ∧ M'.1 (35, 1 - p) (N.1 (95, 0) y).toNatClampNeg = M.1 (34, p) y) → (¬ y < m → spX M p M' exN) → QS M' (1 - p) (fQ (sW (t0 N) (140, 0) HM) m y) (M'.1 (40, 0)) := by
    intro y hy M' h1 h3
    unfold fQ
    by_cases q : y < m
    · rw [if_pos q, if_pos q]
      exact qs_fit1 h2 (by rw [hm]; exact q) (by rw [r95]; exact (h1 q).1) (by rw [r95]; exact (h1 q).2)
    · rw [if_neg q, if_neg q]
      exact qs_fit0 h2 _ (h3 q)
  have e33 : ∀ y, y < m → M.1 (33, p) y = N.1 (95, 0) y ∧ vp_in (N.1 (95, 0) y) 3 := fun y hy => by
    have := pl2.m (y := y) (by rw [hm]; exact hy)
    rw [← r95]
    exact ⟨this.2.2.1, this.2.1⟩
  have V0 : ∀ y, fitV (∀ k, k < c → hdC HC (N.1 (136, 0)) k → okC (rF (fQ (sW (t0 N) (140, 0) HM) m y) ((N.1 (137, 0) k).toNatClampNeg + 1)) (N.1 (138, 0)) (N.1 (139, 0)) (N.1 (136, 0)) k) = fitV (∀ k, k < K → hdC HM (N.1 (136, 0)) k → okC (rF (fQ (sW (t0 N) (140, 0) HM) m y) ((N.1 (137, 0) k).toNatClampNeg + 1)) (N.1 (138, 0)) (N.1 (139, 0)) (N.1 (136, 0)) k) := fun y => fitV_c ⟨fun z k hk q => z k (by omega) ⟨by rw [hK0 k hk]; exact q.1, q.2⟩, fun z k hk q => by
    by_cases l : k < K
    · exact z k l ⟨by rw [← hK0 k l]; exact q.1, q.2⟩
    · exact absurd (hK1 k (by omega) (by omega)) q.1⟩
  refine StI.q h (ftB (fun y => fitV (∀ k, k < K → hdC HM (N.1 (136, 0)) k → okC (rF (fQ (sW (t0 N) (140, 0) HM) m y) ((N.1 (137, 0) k).toNatClampNeg + 1)) (N.1 (138, 0)) (N.1 (139, 0)) (N.1 (136, 0)) k)) (m + 1) 0 0) (fun κ => ?_) (fun κ => ?_)
  · -- the class
    have key : ∀ (a y : Nat) (M' : eg_H) (acc : Int32), y + a = m + 1 → FrQ p M M' → M'.1 (48, 0) = HC → eg_W κ gC mtX10_fits 12 (eQI κ gC (fun r' M1 => r' = ftB (fun y => fitV (∀ k, k < K → hdC HM (N.1 (136, 0)) k → okC (rF (fQ (sW (t0 N) (140, 0) HM) m y) ((N.1 (137, 0) k).toNatClampNeg + 1)) (N.1 (138, 0)) (N.1 (139, 0)) (N.1 (136, 0)) k)) a y acc ∧ FrQ p M M1)) 11 [(0, vR (10, 0)), (1, vI acc), (2, vI (nI y))] [] M' := by
      intro a
      induction a with
      | zero =>
        intro y M' acc hy F e48
        refine vX10_fits_11 (by omega) M' _ _ ⟨p, hp.2.1, by rw [F.2 _ _ (by decide)]; exact hp.1.1, fun _ => ⟨rfl, F⟩, fun q => ?_⟩
        rw [F.P hp.2.1 (pOf_k (by omega)), emC] at q
        exact absurd ((nI_lt' (by omega) (by omega)).mpr (by omega)) q
      | succ a ih =>
        intro y M' acc hy F e48
        -- behind the copy
        have k70 : ∀ M'', FrQ p M M'' → M''.1 (48, 0) = HC → QS M'' (1 - p) (fQ (sW (t0 N) (140, 0) HM) m y) (M''.1 (40, 0)) → cN M'' (1 - p) = cN M p → eg_W κ gC mtX10_fits 12 (eQI κ gC (fun r' M1 => r' = ftB (fun y => fitV (∀ k, k < K → hdC HM (N.1 (136, 0)) k → okC (rF (fQ (sW (t0 N) (140, 0) HM) m y) ((N.1 (137, 0) k).toNatClampNeg + 1)) (N.1 (138, 0)) (N.1 (139, 0)) (N.1 (136, 0)) k)) (a + 1) y acc ∧ FrQ p M M1)) 70 [(0, vR (10, 0)), (1, vI acc), (2, vI (nI y))] [] M'' := by
          intro M'' F2' e2 qs ecn
          have s2 : ctS M'' c (N.1 (136, 0)) (N.1 (137, 0)) := by
            unfold ctS
            rw [F2'.o (by omega), F2'.o (by omega), F2'.o (by omega)]
            exact mS
          have fc := qs.fitC (κ := κ) (d := 11) (by rw [F2'.2 _ _ (by decide)]; exact hp.1.2) s2 (lo := N.1 (138, 0)) (hi := N.1 (139, 0)) (fun i hi q => by
            obtain ⟨w1, w2, w3, w4⟩ := sn i hi q
            rw [ecn, F2'.o (k := 46) (by omega), F2'.o (k := 47) (by omega)]
            exact ⟨w2, w1, w3, w4⟩) (by omega)
          rw [e2, V0 y] at fc
          refine vX10_fits_70 (by omega) M'' _ _ ⟨_, fc, fun x1 M2 ⟨e1, t, tr⟩ => ?_⟩
          have F3 := F2'.tr (tr.Fr p)
          have e3 : M2.1 (48, 0) = HC := by rw [tr.o (nT_k (by omega))]; exact e2
          have eb : ftB (fun y => fitV (∀ k, k < K → hdC HM (N.1 (136, 0)) k → okC (rF (fQ (sW (t0 N) (140, 0) HM) m y) ((N.1 (137, 0) k).toNatClampNeg + 1)) (N.1 (138, 0)) (N.1 (139, 0)) (N.1 (136, 0)) k)) (a + 1) y acc = ftB (fun y => fitV (∀ k, k < K → hdC HM (N.1 (136, 0)) k → okC (rF (fQ (sW (t0 N) (140, 0) HM) m y) ((N.1 (137, 0) k).toNatClampNeg + 1)) (N.1 (138, 0)) (N.1 (139, 0)) (N.1 (136, 0)) k)) a (y + 1) (acc ||| (if x1 = 0 then (0 : Int32) else (1 : Int32) <<< (nI y &&& 31))) := by rw [e1]; rfl
          rw [eb]
          refine ⟨fun q x5 e5 => ?_, fun q x6 e6 x7 e7 => ?_⟩
          · rw [if_pos q, Int32.or_zero, e5, nI_1]
            exact ih (y + 1) M2 acc (by omega) F3 e3
          · rw [if_neg q, e7, nI_1, e6]
            exact ih (y + 1) M2 _ (by omega) F3 e3
        refine vX10_fits_11 (by omega) M' _ _ ⟨p, hp.2.1, by rw [F.2 _ _ (by decide)]; exact hp.1.1, fun q => ?_, fun _ => ⟨1 - p, hp.2.2.1, by rw [F.2 _ _ (by decide)]; exact hp.1.2, _, h.copy F (by omega), fun M4 c4' => ?_⟩⟩
        · rw [F.P hp.2.1 (pOf_k (by omega)), emC] at q
          exact absurd ((nI_lt' (by omega) (by omega)).mp q) (by omega)
        · have sp := h.sp F c4'
          have F4 := sp.1
          have e48' : M4.1 (48, 0) = HC := by rw [c4'.1.1 _ (nOf_o (by omega))]; exact e48
          have e57 : M4.1 (5, p) 7 = nI m := by rw [F4.P hp.2.1 (pOf_k (by omega))]; exact emC
          have ecn4 : cN M4 (1 - p) = cN M p := by unfold cN; rw [sp.2.1 0 (by omega) (fun q => q)]
          refine ⟨p, hp.2.1, by rw [F4.2 _ _ (by decide)]; exact hp.1.1, fun q => ?_, fun q => ?_⟩
          · rw [e57] at q
            have hy' : ¬ y < m := Nat.not_lt.mpr ((nI_le' (by omega) (by omega)).mp q)
            exact k70 M4 F4 e48' (qsA y (by omega) M4 (fun z => absurd z hy') (fun _ => sp)) ecn4
          · rw [e57] at q
            have hy' : y < m := Nat.not_le.mp (fun z => q ((nI_le' (by omega) (by omega)).mpr z))
            obtain ⟨v1, v2⟩ := e33 y hy'
            have f33 : M4.1 (33, p) y = N.1 (95, 0) y := by rw [F4.P hp.2.1 (pOf_k (by omega))]; exact v1
            have f34 : M4.1 (34, p) y = M.1 (34, p) y := by rw [F4.P hp.2.1 (pOf_k (by omega))]
            rw [nI_t (by omega), f33, f34]
            refine ⟨1 - p, hp.2.2.1, by rw [F4.2 _ _ (by decide)]; exact hp.1.2, nI_in' (by omega) (by omega), v2, fun M11 e11 => ?_⟩
            have sp1 : spX M p M11 (fun r k => r = (35, 1 - p) ∧ k = (N.1 (95, 0) y).toNatClampNeg) := by
              rw [e11]
              exact (sp.w (fun _ _ q => q.elim)).I (pOf_k (by omega)) (by dsimp only; decide) ⟨rfl, rfl⟩ _
            refine k70 M11 sp1.1 ?_ (qsA y (by omega) M11 (fun _ => ⟨sp1, ?_⟩) (fun z => absurd hy' z)) ?_
            · rw [e11, sI_ne (kd_ne (by decide))]; exact e48'
            · rw [e11, sI_i, if_pos ⟨rfl, rfl⟩]
            · unfold cN; rw [sp1.2.1 0 (by omega) (fun q => kd_ne (by decide) q.1)]
    refine eg_S.of rfl (Nat.le_of_ble_eq_true rfl) (vX10_fits_0 (by omega) M ⟨_, mk κ, fun M1 e1 => ?_⟩)
    rw [e1]
    exact key (m + 1) 0 _ 0 (by omega) ⟨fun r _ _ _ _ h5 => sW_ne _ _ (fun q => h5 (by rw [q])), fun _ _ _ => rfl⟩ (sW_at _ _ _)
  · -- the model
    have kn : ∀ f, fX11_knownMany (sW (t0 N) (140, 0) f) = nI K := fun f => by
      rw [← eK0]
      unfold fX11_knownMany
      rw [sW_ne _ _ (by decide)]
    have k136 : ∀ (last : Int32), (-1 ≤ last.toInt ∧ last.toInt ≤ 3599 ∧ ∀ k, k < K → hdC HM (N.1 (136, 0)) k → ((N.1 (137, 0) k).toNatClampNeg : Int) ≤ last.toInt) → ∀ (a y : Nat) (M1 : eg_H) (acc : Int32), y + a = m + 1 → mI (sW (t0 N) (140, 0) HM) 62 63 M1 → M1.1 (60, 0) 63 = zF (sW (t0 N) (140, 0) HM) y → eg_W κ gM mtX11_fits 12 (eQI κ gM (fun r' N1 => r' = ftB (fun y => fitV (∀ k, k < K → hdC HM (N.1 (136, 0)) k → okC (rF (fQ (sW (t0 N) (140, 0) HM) m y) ((N.1 (137, 0) k).toNatClampNeg + 1)) (N.1 (138, 0)) (N.1 (139, 0)) (N.1 (136, 0)) k)) a y acc ∧ FrN N N1)) 136 [(0, vR (60, 0)), (1, vI last), (2, vI acc), (3, vI (nI y))] [] M1 := by
      intro last hlast a
      induction a with
      | zero =>
        intro y M1 acc hy m1 e63
        refine vX11_fits_136 (by omega) M1 _ _ _ ⟨fun _ => ⟨rfl, F2.tr m1.1⟩, fun q => ?_⟩
        rw [m1.1.1 14 (by omega) (by omega) (by omega), em'] at q
        exact absurd ((nI_lt' (by omega) (by omega)).mpr (by omega)) q
      | succ a ih =>
        intro y M1 acc hy m1 e63
        have qs : ∃ M', QS M' (1 - p) (fQ (sW (t0 N) (140, 0) HM) m y) (M'.1 (40, 0)) := by
          obtain ⟨Ms, ss⟩ := h.spE
          by_cases q : y < m
          · exact ⟨sI Ms (35, 1 - p) (N.1 (95, 0) y).toNatClampNeg (M.1 (34, p) y), qsA y (by omega) _ (fun _ => ⟨(ss.w (fun _ _ q => q.elim)).I (pOf_k (by omega)) (by dsimp only; decide) ⟨rfl, rfl⟩ _, by rw [sI_i, if_pos ⟨rfl, rfl⟩]⟩) (fun z => absurd q z)⟩
          · exact ⟨Ms, qsA y (by omega) Ms (fun z => absurd z q) (fun _ => ss)⟩
        obtain ⟨Mq, qs⟩ := qs
        have o := fun k hk => fQ_o (sW (t0 N) (140, 0) HM) m y (k := k) hk
        have eKQ : fX11_knownMany (fQ (sW (t0 N) (140, 0) HM) m y) = nI K := by
          rw [← kn HM]
          unfold fX11_knownMany
          rw [fQ_f _ _ _ (by omega), fQ_f _ _ _ (by omega)]
        have fm := fun nm s Y hY => qs.fitM (κ := κ) (d := 11) (by omega) eKQ (last := last) (by rw [o 140 (by omega), o 136 (by omega), o 137 (by omega), r140, r136, r137]; exact hlast) (fun k hk => by
          rw [o 136 (by omega), o 137 (by omega), r136, r137]
          by_cases q : N.1 (136, 0) k = -1
          · exact Or.inl q
          · obtain ⟨w1, w2, _⟩ := sn k (by omega) q
            refine Or.inr ⟨?_, w2⟩
            rw [t_in] at w1 ⊢
            omega) (by omega) nm s Y hY
        simp only [o 140 (by omega), o 136 (by omega), o 137 (by omega), o 138 (by omega), o 139 (by omega), r140, r136, r137, r138, r139] at fm
        have nx : ∀ (x6 : Int32) (M7 : eg_H), (x6 = fitV (∀ k, k < K → hdC HM (N.1 (136, 0)) k → okC (rF (fQ (sW (t0 N) (140, 0) HM) m y) ((N.1 (137, 0) k).toNatClampNeg + 1)) (N.1 (138, 0)) (N.1 (139, 0)) (N.1 (136, 0)) k) ∧ ∃ nm1 s1 t, t ≤ 3600 ∧ M7 = SX (fQ (sW (t0 N) (140, 0) HM) m y) nm1 s1 (rF (fQ (sW (t0 N) (140, 0) HM) m y) t)) → ∀ x9 : Int32, x9 = (if x6 = 0 then (0 : Int32) else ((1 : Int32) <<< (nI y &&& 31))) → ∀ x10 : Int32, x10 = acc ||| x9 → ∀ x11 : Int32, x11 = nI y + 1 → eg_W κ gM mtX11_fits 12 (eQI κ gM (fun r' N1 => r' = ftB (fun y => fitV (∀ k, k < K → hdC HM (N.1 (136, 0)) k → okC (rF (fQ (sW (t0 N) (140, 0) HM) m y) ((N.1 (137, 0) k).toNatClampNeg + 1)) (N.1 (138, 0)) (N.1 (139, 0)) (N.1 (136, 0)) k)) (a + 1) y acc ∧ FrN N N1)) 136 [(0, vR (60, 0)), (1, vI last), (2, vI x10), (3, vI x11)] [] M7 := by
          intro x6 M7 ⟨e6, nm1, s1, t, ht, e7⟩ x9 e9 x10 e10 x11 e11
          have eb : ftB (fun y => fitV (∀ k, k < K → hdC HM (N.1 (136, 0)) k → okC (rF (fQ (sW (t0 N) (140, 0) HM) m y) ((N.1 (137, 0) k).toNatClampNeg + 1)) (N.1 (138, 0)) (N.1 (139, 0)) (N.1 (136, 0)) k)) (a + 1) y acc = ftB (fun y => fitV (∀ k, k < K → hdC HM (N.1 (136, 0)) k → okC (rF (fQ (sW (t0 N) (140, 0) HM) m y) ((N.1 (137, 0) k).toNatClampNeg + 1)) (N.1 (138, 0)) (N.1 (139, 0)) (N.1 (136, 0)) k)) a (y + 1) (acc ||| (if x6 = 0 then (0 : Int32) else (1 : Int32) <<< (nI y &&& 31))) := by rw [e6]; rfl
          rw [eb, e11, nI_1, e10, e9, e7]
          have mn : mI (sW (t0 N) (140, 0) HM) 62 63 (SX (fQ (sW (t0 N) (140, 0) HM) m y) nm1 s1 (rF (fQ (sW (t0 N) (140, 0) HM) m y) t)) := mI_s (Or.inr (Or.inr (Or.inr rfl))) (Or.inr (Or.inr (Or.inr rfl))) qs ht nm1 s1
          cases a with
          | zero =>
            -- behind the last one the number 63 is not asked for
            refine vX11_fits_136 (by omega) _ _ _ _ ⟨fun _ => ⟨rfl, F2.tr mn.1⟩, fun q => ?_⟩
            rw [mn.1.1 14 (by omega) (by omega) (by omega), em'] at q
            exact absurd ((nI_lt' (by omega) (by omega)).mpr (by omega)) q
          | succ a =>
            refine ih (y + 1) _ _ (by omega) mn ?_
            rw [SX_f _ _ _ _ (by decide), fQ_63, if_pos (by omega)]
            rfl
        have e14 : M1.1 (60, 0) 14 = nI m := by rw [m1.1.1 14 (by omega) (by omega) (by omega)]; exact em'
        refine vX11_fits_136 (by omega) M1 _ _ _ ⟨fun q => ?_, fun _ => ⟨mI_g h2 m1, fun M3 e3 => ?_⟩⟩
        · rw [e14] at q
          exact absurd ((nI_lt' (by omega) (by omega)).mp q) (by omega)
        · have f14 : M3.1 (60, 0) 14 = nI m := by rw [e3, (clr_Fr M1).1 14 (by omega) (by omega) (by omega)]; exact e14
          rw [f14]
          refine ⟨fun q => ?_, fun q => ?_⟩
          · have hy' : ¬ y < m := Nat.not_lt.mpr ((nI_le' (by omega) (by omega)).mp q)
            obtain ⟨nm, s, Y, eu, hY⟩ := i2 y M1 m1 (-1) (zF (sW (t0 N) (140, 0) HM) y)
            have e62 : sI (fX11_clears M1) (60, 0) 62 (-1) = fX11_clears M1 := sI_same (clr_n M1).2.2.2.2.2.2.2
            have e63' : sI (fX11_clears M1) (60, 0) 63 (zF (sW (t0 N) (140, 0) HM) y) = fX11_clears M1 := sI_same (by rw [clr_f, if_neg (by decide), if_neg (by decide), if_neg (by decide), if_neg (by decide), if_neg (by decide), if_neg (by decide), if_neg (by decide), if_neg (by decide)]; exact e63)
            rw [e62, e63'] at eu
            have eQ : sI (sI (fX11_clears (t0 (sW (t0 N) (140, 0) HM))) (60, 0) 62 (-1)) (60, 0) 63 (zF (sW (t0 N) (140, 0) HM) y) = fQ (sW (t0 N) (140, 0) HM) m y := by unfold fQ; rw [if_neg hy', if_neg hy']
            rw [eQ] at eu
            rw [e3, eu]
            exact ⟨_, fm nm s Y hY, fun x6 M7 q7 => nx x6 M7 q7⟩
          · have hy' : y < m := Nat.not_le.mp (fun z => q ((nI_le' (by omega) (by omega)).mpr z))
            refine ⟨nI_in' (by omega) (by omega), fun M14 e14' M15 e15 => ?_⟩
            obtain ⟨nm, s, Y, eu, hY⟩ := i2 y M1 m1 (N.1 (95, 0) y) (nI (3 + y))
            have f95 : M3.1 (95, 0) = N.1 (95, 0) := by rw [e3, clr_o _ (by decide) (by decide) (by decide), m1.1.o (by omega)]; exact r95
            have e3y : (3 : Int32) + nI y = nI (3 + y) := nI_add 3 y
            rw [nI_t (by omega), f95, e3] at e14'
            rw [e3y, e14', eu] at e15
            have eQ : sI (sI (fX11_clears (t0 (sW (t0 N) (140, 0) HM))) (60, 0) 62 (N.1 (95, 0) y)) (60, 0) 63 (nI (3 + y)) = fQ (sW (t0 N) (140, 0) HM) m y := by unfold fQ; rw [if_pos hy', if_pos hy', r95]
            rw [e15, eQ]
            exact ⟨_, fm nm s Y hY, fun x6 M7 q7 => nx x6 M7 q7⟩
    have k79 : ∀ (a i : Nat) (l1 : Int32), i + a = K → (-1 ≤ l1.toInt ∧ l1.toInt ≤ 3599 ∧ ∀ k, k < i → hdC HM (N.1 (136, 0)) k → ((N.1 (137, 0) k).toNatClampNeg : Int) ≤ l1.toInt) → eg_W κ gM mtX11_fits 12 (eQI κ gM (fun r' N1 => r' = ftB (fun y => fitV (∀ k, k < K → hdC HM (N.1 (136, 0)) k → okC (rF (fQ (sW (t0 N) (140, 0) HM) m y) ((N.1 (137, 0) k).toNatClampNeg + 1)) (N.1 (138, 0)) (N.1 (139, 0)) (N.1 (136, 0)) k)) (m + 1) 0 0 ∧ FrN N N1)) 79 [(0, vR (60, 0)), (1, vI l1), (2, vI (nI i))] [] (sW (t0 N) (140, 0) HM) := by
      intro a
      induction a with
      | zero =>
        intro i l1 hi hl1
        have ei : i = K := by omega
        subst ei
        refine vX11_fits_79 (by omega) _ _ _ (fun x2 e2 => ⟨fun _ => ?_, fun q => absurd (by rw [e2, kn]; exact nI_le (Nat.le_refl _) (by omega)) q⟩)
        exact k136 l1 hl1 (m + 1) 0 _ 0 (by omega) m0 rfl
      | succ a ih =>
        intro i l1 hi hl1
        refine vX11_fits_79 (by omega) _ _ _ (fun x2 e2 => ⟨fun q => absurd (by rw [e2, kn] at q; exact q) (nI_ge (by omega) (by omega)), fun _ => ?_⟩)
        rw [nI_t (by omega), r140, r136, r137]
        refine ⟨nI_in' (by omega) (by omega), fun x5 e5 x6 e6 => ?_⟩
        rw [e6, nI_1]
        refine ih (i + 1) x5 (by omega) ?_
        by_cases q1 : HM i = 0
        · rw [if_pos q1] at e5
          rw [e5]
          refine ⟨hl1.1, hl1.2.1, fun k hk q => ?_⟩
          by_cases e : k = i
          · rw [e] at q; exact absurd q1 q.1
          · exact hl1.2.2 k (by omega) q
        · rw [if_neg q1] at e5
          by_cases q2 : N.1 (136, 0) i = -1
          · rw [if_pos (by rw [q2]; decide)] at e5
            rw [e5]
            refine ⟨hl1.1, hl1.2.1, fun k hk q => ?_⟩
            by_cases e : k = i
            · rw [e] at q; exact absurd q2 q.2
            · exact hl1.2.2 k (by omega) q
          · obtain ⟨w1, w2, _⟩ := sn i (by omega) q2
            have w1' := w1
            have w2' := w2
            rw [t_in] at w1' w2'
            rw [if_neg (by rw [t_lt, t_0]; omega)] at e5
            obtain ⟨ew, lw⟩ := nI_of' w2 (by omega)
            have et2 : (N.1 (137, 0) i).toInt = ((N.1 (137, 0) i).toNatClampNeg : Int) := by
              have := congrArg Int32.toInt ew
              rw [t_nI (by omega)] at this
              exact this
            by_cases q3 : N.1 (137, 0) i ≤ l1
            · rw [if_pos q3] at e5
              rw [t_le] at q3
              rw [e5]
              refine ⟨hl1.1, hl1.2.1, fun k hk q => ?_⟩
              by_cases e : k = i
              · rw [e]; omega
              · exact hl1.2.2 k (by omega) q
            · rw [if_neg q3] at e5
              rw [t_le] at q3
              rw [e5]
              refine ⟨by omega, by omega, fun k hk q => ?_⟩
              by_cases e : k = i
              · rw [e]; omega
              · have := hl1.2.2 k (by omega) q
                omega
    have k37 : ∀ (k : Nat) (f : Nat → Int32), k ≤ K → hl (N.1 (136, 0)) (N.1 (137, 0)) k f = HM → eg_W κ gM mtX11_fits 12 (eQI κ gM (fun r' N1 => r' = ftB (fun y => fitV (∀ k, k < K → hdC HM (N.1 (136, 0)) k → okC (rF (fQ (sW (t0 N) (140, 0) HM) m y) ((N.1 (137, 0) k).toNatClampNeg + 1)) (N.1 (138, 0)) (N.1 (139, 0)) (N.1 (136, 0)) k)) (m + 1) 0 0 ∧ FrN N N1)) 37 [(0, vR (60, 0)), (1, vI (-1)), (2, vI (nI k - 1))] [] (sW (t0 N) (140, 0) f) := by
      intro k
      induction k with
      | zero =>
        intro f _ hf
        have hf' : f = HM := hf
        rw [hf']
        exact vX11_fits_37 _ _ _ ⟨fun _ => k79 K 0 (-1) (by omega) ⟨by rw [t_m1]; omega, by rw [t_m1]; omega, fun k hk => absurd hk (Nat.not_lt_zero _)⟩, fun q => absurd (by decide) q⟩
      | succ k ih =>
        intro f hk hf
        rw [nI_p]
        have hf' : hl (N.1 (136, 0)) (N.1 (137, 0)) k (if f k = 0 then f else if N.1 (136, 0) k = -1 then upd f (N.1 (137, 0) k).toNatClampNeg 0 else f) = HM := hf
        refine vX11_fits_37 _ _ _ ⟨fun q => absurd q (nI_pos (by omega)), fun _ => ?_⟩
        have s136 : (sW (t0 N) (140, 0) f).1 (136, 0) = N.1 (136, 0) := by rw [sW_ne _ _ (by decide), t0_o _ (by decide)]
        have s137 : (sW (t0 N) (140, 0) f).1 (137, 0) = N.1 (137, 0) := by rw [sW_ne _ _ (by decide), t0_o _ (by decide)]
        rw [nI_t (by omega), sW_at, s136, s137]
        refine ⟨nI_in' (by omega) (by omega), fun q => ?_, fun q => ?_⟩
        · intro x4 e4
          have q2 : ¬ N.1 (136, 0) k = -1 := fun z => by rw [z] at q; exact absurd q (by decide)
          rw [e4, nI_mm]
          refine ih f (by omega) ?_
          rw [if_neg q2] at hf'
          by_cases z : f k = 0
          · rw [if_pos z] at hf'; exact hf'
          · rw [if_neg z] at hf'; exact hf'
        · have q2 : N.1 (136, 0) k = -1 := Classical.byContradiction (fun z => by
            have w := (sn k (by omega) z).1
            rw [t_in] at w
            rw [t_le, t_0] at q
            omega)
          refine ⟨fun z x6 e6 => ?_, fun z => ?_⟩
          · rw [e6, nI_mm]
            rw [if_pos z] at hf'
            exact ih f (by omega) hf'
          · have v := sv k (by omega) q2
            have v' := v
            rw [t_in] at v'
            refine ⟨by rw [t_in]; omega, fun M8 e8 x9 e9 => ?_⟩
            rw [if_neg z, if_pos q2] at hf'
            rw [e9, nI_mm, e8, nar0, sI_sW]
            exact ih _ (by omega) hf'
    refine eg_S.of rfl (Nat.le_of_ble_eq_true rfl) (vX11_fits_0 N (fun M1 e1 => ?_))
    have e1' : M1 = t0 N := e1
    rw [e1']
    have f0 := eg_down (P := fun i => eg_W κ gM mtX11_fits 12 (eQI κ gM (fun r' N1 => r' = ftB (fun y => fitV (∀ k, k < K → hdC HM (N.1 (136, 0)) k → okC (rF (fQ (sW (t0 N) (140, 0) HM) m y) ((N.1 (137, 0) k).toNatClampNeg + 1)) (N.1 (138, 0)) (N.1 (139, 0)) (N.1 (136, 0)) k)) (m + 1) 0 0 ∧ FrN N N1)) 9 [(0, vR (60, 0)), (1, vI (-1)), (2, vI (nI i))] [] (sW (t0 N) (140, 0) (cpT (fun _ => 1) (N.1 (140, 0)) i))) K (fun i hi k => ?_) ?_
    · have e140 : (t0 N).1 (140, 0) = N.1 (140, 0) := t0_o _ (by decide)
      rw [cpT_0, ← e140, sW_self] at f0
      exact f0
    · refine vX11_fits_9 (by omega) _ _ _ (fun x2 e2 => ⟨fun q => absurd (by rw [e2, kn] at q; exact q) (nI_ge hi (by omega)), fun _ => ⟨nI_in' (by omega) (by omega), fun M8 e8 x9 e9 => ?_⟩⟩)
      rw [e9, nI_1, e8, nI_t (by omega), nar1, sI_sW, cpT_s (fun _ => 1)]
      exact k
    · refine vX11_fits_9 (by omega) _ _ _ (fun x2 e2 => ⟨fun _ x5 e5 x6 e6 => ?_, fun q => absurd (by rw [e2, kn]; exact nI_le (Nat.le_refl _) (by omega)) q⟩)
      rw [e6, e5, kn]
      exact k37 K _ (Nat.le_refl _) hHM
