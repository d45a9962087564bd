/-! SEND -/
theorem upd_c {A B : Nat → Int32} (h : ∀ j, j < 366 → A j = B j) (k : Nat) (x : Int32) : ∀ j, j < 366 → upd A k x j = upd B k x j := fun j hj => by
  unfold upd
  rw [h j hj]
theorem ool_c {A B : Nat → Int32} (h : ∀ j, j < 366 → A j = B j) (hq : (B 1).toNatClampNeg < 16) (i : Nat) : ∀ j, j < 366 → ool A i j = ool B i j := fun j hj => by
  unfold ool
  rw [h 1 (by omega), h j hj]
  by_cases c : j = 1
  · rw [if_pos c, if_pos c]
  · rw [if_neg c, if_neg c]
    by_cases c2 : 2 + i ≤ j ∧ j + 1 < 2 + (B 1).toNatClampNeg
    · rw [if_pos c2, if_pos c2, h (j + 1) (by omega)]
    · rw [if_neg c2, if_neg c2]
theorem lay110_FrE (N : eg_H) (f : Nat → Int32) (h : ∀ j, 366 ≤ j → f j = N.1 (110, 0) j) : FrE N (sW N (110, 0) f) := by
  refine ⟨fun k _ _ _ _ _ => by rw [sW_ne _ _ (by decide)], fun r h1 h2 _ _ _ _ _ _ => sW_ne _ _ (fun q => h2 (by rw [q])), fun j hj => ?_⟩
  rw [sW_at]
  exact h j hj
/-- the four last writes -/
def aw4 (z : Int32) (g : Nat) (A : Nat → Int32) : Nat → Int32 := upd (upd (upd (upd A (20 + 20 * g) 3) (20 + 20 * g + 1) (-1)) (20 + 20 * g + 2) z) (20 + 20 * g + 3) 0
theorem st_send {M N : eg_H} {C p : Nat} (h : JJ M N C p) (hC : C < 1000000) (x : Int32) : StI mtX10_send mtX11_send [vI x] M N C := by
  have F0 : FrN N (t0 N) := FrN_f N (by omega) 0
  have hp := h.hp
  have pl0 : PL M p (t0 N) := h.1.2.1.cong (fun _ _ => rfl) F0.T
  have hW := h.1.2.1.cW
  have hE := hW.2.2.2.2.1
  have hN := hE.2.1
  have ry := h.1.2.2.1.1
  have ti := h.1.2.2.1.2
  have row := h.1.2.2.2
  have hq := ti.1.q16 hE
  have e111 : (t0 N).1 (111, 0) = N.1 (111, 0) := t0_ne N (by decide)
  obtain ⟨u, Ys, hu, u1, u2, u0, u3, u4, u5⟩ := h.2.2.1.all
  rcases isGuest_n (t0 N) x pl0.hg with z | z
  · refine StI.q h 0 (fun κ => ?_) (fun κ => ?_)
    · refine eg_S.of rfl (Nat.le_of_ble_eq_true rfl) (vX10_send_0 (by omega) M _ ⟨p, hp.2.1, hp.1.1, fun x3 e3 => ?_⟩)
      rw [hasGuest_n pl0, z.1] at e3
      exact ⟨fun _ => ⟨rfl, FrQ.rf p M⟩, fun c => absurd e3 c⟩
    · refine eg_S.of rfl (Nat.le_of_ble_eq_true rfl) (vX11_send_0 (by omega) N _ (fun M1 e1 x3 e3 => ?_))
      have e1 : M1 = t0 N := e1
      rw [e1] at e3 ⊢
      exact ⟨fun _ => ⟨rfl, F0⟩, fun c => absurd (e3.trans z.1) c⟩
  · have hx := z.2
    have hg13 := vp_lt hx
    have hg10 := vp_lt pl0.hg
    rw [← pl0.g1] at hx
    obtain ⟨ex, hg⟩ := nI_of' hx (by have : cP M p < 16 := hN; omega)
    have pg := pl0.g hg13
    generalize hgx : x.toNatClampNeg = g at *
    have hg' : g < eP (cE M p) := hg
    have eC1 : eC (cE M p) g 1 = N.1 (92, 0) g := by
      have a : eC (cE M p) g 1 = M.1 (0, 15 * p + g) 2 := if_pos hg
      rw [a, pg.2.2.1.2, t0_ne N (by decide)]
    have eC0 : ¬ eC (cE M p) g 0 = -1 := by
      have a : eC (cE M p) g 0 = M.1 (0, 15 * p + g) 1 := if_pos hg
      rw [a, pg.2.1.2, t_eq, t_m1]
      have := pg.2.1.1
      omega
    have es : M.1 (2, 15 * 0 + g) 0 = N.1 (111, 0) (20 + 20 * g) := by
      have a := aT_g M 0 g 0 0 (by omega) rfl
      rw [Nat.add_zero] at a
      rw [← a]
      rcases ry.G hg' with w | w
      · exact w.1
      · exact absurd w.2.2 eC0
    have atn : ∀ A, fX11_at A x = nI (20 + 20 * g) := fun A => by rw [ex]; exact at_n A g
    by_cases s3 : N.1 (111, 0) (20 + 20 * g) = 3
    · refine StI.q h 0 (fun κ => ?_) (fun κ => ?_)
      · refine eg_S.of rfl (Nat.le_of_ble_eq_true rfl) (vX10_send_0 (by omega) M _ ⟨p, hp.2.1, hp.1.1, fun x3 e3 => ⟨fun _ => ⟨rfl, FrQ.rf p M⟩, fun _ => ⟨by rw [ex]; exact nI_in' (by omega) (by omega), fun c => ?_, fun _ => ⟨rfl, FrQ.rf p M⟩⟩⟩⟩)
        rw [hgx, es] at c
        exact absurd s3 c
      · refine eg_S.of rfl (Nat.le_of_ble_eq_true rfl) (vX11_send_0 (by omega) N _ (fun M1 e1 x3 e3 => ?_))
        have e1 : M1 = t0 N := e1
        rw [e1] at e3 ⊢
        refine ⟨fun _ => ⟨rfl, F0⟩, fun _ x6 e6 => ?_⟩
        rw [e6, atn, nI_t (by omega), e111]
        exact ⟨nI_in' (by omega) (by omega), fun c => absurd s3 c, fun _ => ⟨rfl, F0⟩⟩
    · have dk : dOK (cE M p) 2 x 0 (N.1 (111, 0)) := Or.inr (Or.inr ⟨rfl, hx, by rw [hgx]; exact s3⟩)
      have eF : dF (cE M p) 2 x 0 (N.1 (111, 0)) = sndF (eC (cE M p) g 1) g (N.1 (111, 0)) := by
        unfold dF
        rw [if_neg (by decide), if_neg (by decide), hgx]
      refine ⟨1, hnC M p (dF (cE M p) 2 x 0 (N.1 (111, 0))) (Ys (if u = 20 then 1 else 0)) 2 x 0 (if u = 20 then 19 else u) (if u = 20 then 3 else 0), hnM M N p 2 x 0 (if u = 20 then 19 else u) (if u = 20 then 1 else 0), fun κ => ?_, fun κ => ?_, fun M1 N1 hP hQ => ⟨p, h.deed hC dk hu u0 u3 u5 hP hQ⟩⟩
      · refine eg_S.of rfl (Nat.le_of_ble_eq_true rfl) (vX10_send_0 (by omega) M _ ⟨p, hp.2.1, hp.1.1, fun x3 e3 => ?_⟩)
        rw [hasGuest_n pl0, z.1] at e3
        refine ⟨fun c => absurd (e3.symm.trans c) (by decide), fun _ => ⟨by rw [ex]; exact nI_in' (by omega) (by omega), fun _ => ⟨_, h.hand hC dk hu u1 u0 u4 u5 (by omega), fun M7 q => ⟨rfl, q⟩⟩, fun c => ?_⟩⟩
        rw [hgx, es] at c
        exact absurd c s3
      · obtain ⟨gr, r111, r112, ro⟩ := rem_111 hu u2
        obtain ⟨R, hR⟩ : ∃ R, R = fX11_remembers (t0 N) := ⟨_, rfl⟩
        obtain ⟨Q, hQ⟩ : ∃ Q, Q = fX11_clears R := ⟨_, rfl⟩
        have qo : ∀ k, k ≠ 60 → k ≠ 131 → k ≠ 125 → k ≠ 126 → Q.1 (k, 0) = N.1 (k, 0) := fun k a b c d => by rw [hQ, clr_o _ (kd_ne a) (kd_ne c) (kd_ne d), hR]; exact ro k a b
        have q59 : Q.1 (60, 0) 59 = 0 := by rw [hQ, clr_f]; rfl
        obtain ⟨y0, hy0⟩ : ∃ y0, y0 = cpT (N.1 (111, 0)) (N.1 (110, 0)) 366 := ⟨_, rfl⟩
        have yj : ∀ j, j < 366 → y0 j = N.1 (111, 0) j := fun j hj => by rw [hy0, cpT_lt hj]
        have yh : ∀ j, 366 ≤ j → y0 j = N.1 (110, 0) j := fun j hj => by rw [hy0, cpT_ge hj]
        -- the end
        have fin : ∀ A : Nat → Int32, (∀ j, j < 366 → aw4 (N.1 (92, 0) g) g A j = sndF (eC (cE M p) g 1) g (N.1 (111, 0)) j) → (∀ j, 366 ≤ j → A j = N.1 (110, 0) j) → hnM M N p 2 x 0 (if u = 20 then 19 else u) (if u = 20 then 1 else 0) (fX11_lays (sW Q (110, 0) (aw4 (N.1 (92, 0) g) g A)) (111, 0) (110, 0)) := by
          intro A h1 h2
          have hi : ∀ j, 366 ≤ j → aw4 (N.1 (92, 0) g) g A j = N.1 (110, 0) j := fun j hj => by
            unfold aw4
            rw [pk_un (by omega), pk_un (by omega), pk_un (by omega), pk_un (by omega)]
            exact h2 j hj
          generalize aw4 (N.1 (92, 0) g) g A = A' at *
          unfold fX11_lays
          rw [sW_at, sW_ne _ _ (show ((111, 0) : eg_R) ≠ (110, 0) by decide)]
          have e1 : ∀ k, k ≠ 60 → k ≠ 110 → k ≠ 111 → k ≠ 125 → k ≠ 126 → (sW (sW Q (110, 0) A') (111, 0) (cpT A' (Q.1 (111, 0)) 366)).1 (k, 0) = R.1 (k, 0) := fun k a b c d e => by rw [sW_ne _ _ (kd_ne c), sW_ne _ _ (kd_ne b), hQ, clr_o _ (kd_ne a) (kd_ne d) (kd_ne e)]
          have e2 : ∀ k, k ≠ 2 → (k < 52 ∨ 63 < k) → k ≠ 68 → (sW (sW Q (110, 0) A') (111, 0) (cpT A' (Q.1 (111, 0)) 366)).1 (60, 0) k = R.1 (60, 0) k := fun k a b c => by rw [sW_ne _ _ (by decide), sW_ne _ _ (by decide), hQ, (clr_Fr R).1 k a b c]
          have e3 : (sW (sW Q (110, 0) A') (111, 0) (cpT A' (Q.1 (111, 0)) 366)).1 (111, 0) = cpT A' (Q.1 (111, 0)) 366 := sW_at _ _ _
          refine hnM_of hu u2 ?_ ?_ ?_ ?_ ?_ (fun j hj => ?_) (fun i hi => ?_)
          · rw [← hR]
            have a : FrE R Q := by rw [hQ]; exact clr_FrE R
            exact (a.tr (lay110_FrE Q A' (fun j hj => by rw [hi j hj, qo 110 (by decide) (by decide) (by decide) (by decide)]))).tr (lay_FrE _ (by omega) _)
          · rw [← hR]; exact e2 80 (by decide) (by decide) (by decide)
          · rw [← hR]; exact e2 69 (by decide) (by decide) (by decide)
          · rw [← hR]; exact e1 142 (by decide) (by decide) (by decide) (by decide) (by decide)
          · rw [← hR]; exact e1 131 (by decide) (by decide) (by decide) (by decide) (by decide)
          · rw [e3, cpT_lt hj, eF]; exact h1 j hj
          · rw [e3, cpT_lt (by omega), e1 112 (by decide) (by decide) (by decide) (by decide) (by decide), hR, r112, row i hi, h1 _ (by omega)]
            by_cases c : N.1 (111, 0) (20 + 20 * g) = 1
            · rw [(snd_v hq c).2.2 _ (by omega), aw_o (by omega)]
            · rw [snd_n ti.2.1.1 hg' c, aw_o (by omega)]
        refine eg_S.of rfl (Nat.le_of_ble_eq_true rfl) (vX11_send_0 (by omega) N _ (fun M1 e1 x3 e3 => ?_))
        have e1 : M1 = t0 N := e1
        rw [e1] at e3 ⊢
        refine ⟨fun c => absurd (e3.symm.trans c) (by rw [z.1]; decide), fun _ x6 e6 => ?_⟩
        rw [e6, atn, nI_t (by omega), e111]
        refine ⟨nI_in' (by omega) (by omega), fun _ => ⟨gr, fun M10 e10 x13 e13 => ?_⟩, fun c => absurd c s3⟩
        rw [← hR] at e10
        rw [atn] at e13
        have gc : gX11_clears R := ((pl0.cong (fun _ _ => rfl) (show sT (t0 N) R by
          rw [hR]
          obtain ⟨_, _, v2, v3, _, _⟩ := rem_v (N := t0 N) hu (by rw [t0_k N (by decide)]; exact u2)
          refine ⟨fun k a b => v2 k (by omega), fun k a b _ _ _ => v3 (k, 0) (kd_ne (by omega)) (kd_ne (by omega)), fun g _ => ?_⟩
          rw [v3 (91, 0) (by decide) (by decide), v3 (92, 0) (by decide) (by decide), v3 (93, 0) (by decide) (by decide)]
          exact ⟨rfl, rfl, fun _ _ => rfl⟩))).hp
        have n1 : x13 + 1 = nI (20 + 20 * g + 1) := by rw [e13]; exact nI_add _ 1
        have n2 : x13 + 2 = nI (20 + 20 * g + 2) := by rw [e13]; exact nI_add _ 2
        have n3 : x13 + 3 = nI (20 + 20 * g + 3) := by rw [e13]; exact nI_add _ 3
        have n7 : x13 + 7 = nI (20 + 20 * g + 7) := by rw [e13]; exact nI_add _ 7
        rw [e10]
        refine ⟨gc, fun M15 e15 => ⟨⟨by decide, rfl, rfl⟩, fun M18 e18 => ?_⟩⟩
        have e18' : M18 = sW Q (110, 0) y0 := by
          rw [e18, e15, ← hQ, hy0]
          unfold fX11_lays
          rw [qo 111 (by decide) (by decide) (by decide) (by decide), qo 110 (by decide) (by decide) (by decide) (by decide)]
        have k18 : M18.1 (110, 0) = y0 := by rw [e18', sW_at]
        have k92 : ∀ A : Nat → Int32, (sW Q (110, 0) A).1 (92, 0) = N.1 (92, 0) := fun A => by rw [sW_ne _ _ (by decide), qo 92 (by decide) (by decide) (by decide) (by decide)]
        have vx : vp_in x 24 := by rw [ex]; exact nI_in' (by omega) (by omega)
        rw [n1, n2, n3, n7, e13, nI_t (by omega), nI_t (by omega), nI_t (by omega), nI_t (by omega), nI_t (by omega), k18, yj _ (by omega), hgx]
        refine ⟨nI_in' (by omega) (by omega), fun s1 M22 e22 => ⟨nI_in' (by omega) (by omega), fun M24 e24 => ⟨vx, nI_in' (by omega) (by omega), fun M27 e27 => ⟨nI_in' (by omega) (by omega), fun M29 e29 => ⟨⟨by decide, rfl, rfl⟩, fun M31 e31 => ⟨rfl, ?_⟩⟩⟩⟩⟩, fun s1 => ?_⟩
        · rw [e18', sI_sW] at e22
          rw [e22, sI_sW] at e24
          rw [e24, sI_sW, k92] at e27
          rw [e27, sI_sW] at e29
          rw [e31, e29]
          refine fin y0 (fun j hj => ?_) yh
          unfold aw4 sndF
          rw [if_neg s1, eC1]
          exact upd_c (upd_c (upd_c (upd_c yj _ _) _ _) _ _) _ _ j hj
        · have k2 : fX11_plateOf M18 x = eC (cE M p) g 1 - N.1 (111, 0) (20 + 20 * g + 2) := by
            have a2 : fX11_at M18 x + 2 = nI (20 + 20 * g + 2) := by rw [atn]; exact nI_add _ 2
            unfold fX11_plateOf fX11_sizeOf
            rw [a2, nI_t (by omega), k18, yj _ (by omega), e18', sW_ne _ _ (by decide), q59, if_pos (by decide), k92, hgx, eC1]
          have g2 : gX11_plateOf M18 x := by
            refine ⟨fun _ => vx, ?_⟩
            have a2 : fX11_at M18 x + 2 = nI (20 + 20 * g + 2) := by rw [atn]; exact nI_add _ 2
            rw [a2]
            exact nI_in' (by omega) (by omega)
          refine ⟨nI_in' (by omega) (by omega), g2, fun x36 e36 M37 e37 => ?_⟩
          rw [k2] at e36
          rw [e18', sI_sW, yj _ (by omega), e36] at e37
          obtain ⟨i1, i2⟩ := ixQ_s hN hq ti.2.1.2 hg' s1
          obtain ⟨q1, q2, q3⟩ := ti.1.1
          generalize hi : ixQ (N.1 (111, 0)) g = i at i1 i2
          generalize hxx : N.1 (111, 0) (20 + 20 * g + 7) + (eC (cE M p) g 1 - N.1 (111, 0) (20 + 20 * g + 2)) = xx at e37
          have bj : ∀ j, j < 366 → upd y0 (20 + 20 * g + 7) xx j = upd (N.1 (111, 0)) (20 + 20 * g + 7) xx j := upd_c yj _ _
          have bk : ∀ k, k < 16 → upd y0 (20 + 20 * g + 7) xx (2 + k) = N.1 (111, 0) (2 + k) := fun k hk => by rw [bj _ (by omega), pk_un (by omega)]
          have b1 : upd y0 (20 + 20 * g + 7) xx 1 = N.1 (111, 0) 1 := by rw [bj _ (by omega), pk_un (by omega)]
          have bh : ∀ j, 366 ≤ j → upd y0 (20 + 20 * g + 7) xx j = N.1 (110, 0) j := fun j hj => by rw [pk_un (by omega)]; exact yh j hj
          have bB : ∀ k, k < 366 → (upd (N.1 (111, 0)) (20 + 20 * g + 7) xx) 1 = N.1 (111, 0) 1 := fun _ _ => pk_un (by omega)
          rw [e37]
          generalize upd y0 (20 + 20 * g + 7) xx = B at *
          suffices key : ∀ m k, k + m = i → eg_W κ gM mtX11_send 12 (eQI κ gM (fun r' N1 => r' = 1 ∧ hnM M N p 2 x 0 (if u = 20 then 19 else u) (if u = 20 then 1 else 0) N1)) 81 [(0, vR (60, 0)), (1, vI x), (2, vI (nI (20 + 20 * g))), (3, vI (nI k))] [] (sW Q (110, 0) B) from key i 0 (by omega)
          have e2k : ∀ k, (2 : Int32) + nI k = nI (2 + k) := fun k => nI_add 2 k
          have m1 : nI (20 + 20 * g) + 1 = nI (20 + 20 * g + 1) := nI_add _ 1
          have m2 : nI (20 + 20 * g) + 2 = nI (20 + 20 * g + 2) := nI_add _ 2
          have m3 : nI (20 + 20 * g) + 3 = nI (20 + 20 * g + 3) := nI_add _ 3
          intro m
          induction m with
          | zero =>
            intro k hk
            have ek : k = i := by omega
            rw [ek]
            refine vX11_send_81 (by omega) _ _ _ _ ?_
            rw [e2k, m1, m2, m3, nI_t (by omega), nI_t (by omega), nI_t (by omega), nI_t (by omega), nI_t (by omega), sW_at, bk i (by omega), hgx]
            refine ⟨nI_in' (by omega) (by omega), fun _ => ⟨?_, fun M4 e4 => ⟨nI_in' (by omega) (by omega), fun M7 e7 => ⟨nI_in' (by omega) (by omega), fun M9 e9 => ⟨vx, nI_in' (by omega) (by omega), fun M12 e12 => ⟨nI_in' (by omega) (by omega), fun M14 e14 => ⟨⟨by decide, rfl, rfl⟩, fun M16 e16 => ⟨rfl, ?_⟩⟩⟩⟩⟩⟩⟩, fun c => absurd (i2.trans ex.symm) c⟩
            · refine ⟨?_, ?_⟩
              · rw [sW_at, b1]; rw [t_in] at q1 ⊢; omega
              · rw [sW_at, b1]; exact nI_in' i1 (by omega)
            · unfold fX11_outOfLine at e4
              rw [sW_at, sW_sW, nI_t (by omega)] at e4
              rw [e4, sI_sW] at e7
              rw [e7, sI_sW] at e9
              rw [e9, sI_sW, k92] at e12
              rw [e12, sI_sW] at e14
              rw [e16, e14]
              refine fin (ool B i) (fun j hj => ?_) (fun j hj => ?_)
              · unfold aw4 sndF
                rw [if_pos s1, eC1]
                rw [eC1] at hxx
                rw [hxx, hi]
                exact upd_c (upd_c (upd_c (upd_c (ool_c bj (by rw [bB 0 (by omega)]; exact hq) i) _ _) _ _) _ _) _ _ j hj
              · rw [ool_o (by rw [b1]; exact hq) (by omega)]
                exact bh j hj
          | succ m ih =>
            intro k hk
            refine vX11_send_81 (by omega) _ _ _ _ ?_
            rw [e2k, nI_t (n := 2 + k) (by omega), sW_at, bk k (by omega)]
            refine ⟨nI_in' (by omega) (by omega), fun c => ?_, fun _ x18 e18 => ?_⟩
            · rw [ex, ← i2] at c
              exact absurd c (q3 k i (by omega) i1)
            · rw [e18, nI_1]
              exact ih (k + 1) (by omega)
