/-! FITS: the runs -/
theorem nI_subn {a b : Nat} (h : b ≤ a) (ha : a < 2147483648) : nI a - nI b = nI (a - b) := by
  rw [t_eq, t_sub (by rw [t_nI ha, t_nI (by omega)]; omega) (by rw [t_nI ha, t_nI (by omega)]; omega), t_nI ha, t_nI (by omega), t_nI (by omega)]
  omega
section
variable {M M1 : eg_H} {q : Nat} {Q : eg_H} {R : Nat → Int32}
theorem QS.s0 (h : QS M q Q R) {t : Nat} (ht : t ≤ 3600) : rF Q t 0 = nI t := by
  have e := (secN_I h.wE (C := 119) (by omega) (by omega) h.T0.1 t (by rw [h.y0]; omega)).2
  rw [h.y0] at e
  rw [t_eq, t_nI (by omega)]
  show (secN (mE Q) t (begM Q) 0).toInt = _
  omega
theorem QS.go2 (h : QS M q Q R) {κ : eg_K} {d : Nat} (hd : 6 ≤ d) {t n : Nat} (hn : t + n ≤ 3600) (tr : trP M q (rF Q t) M1) : eg_S κ gC mtX7_go d [vR (7, 1), vI (nI n)] M1 (eQV κ gC (fun M2 => trP M q (rF Q (t + n)) M2)) := by
  have hW := h.1
  have hT : (sR M (7, 1) 0 (5, q)).2.2 (7, 1) 0 = (5, q) := sR_at M (7, 1) 0 (5, q)
  obtain ⟨nm, st, Z, e1, ry⟩ := tr
  have I0 := yI_EQ h.2.2.2.1.symm (h.T (n := t) (by omega)).1
  have e0 : (rF Q t 0).toInt = t := by rw [h.s0 (by omega), t_nI (by omega)]
  have k := sX7_go (κ := κ) (d := d) (M := sR M (7, 1) 0 (5, q)) (t := 1) (p := q) (nm := nm) (st := st) (Z := Z) hd (by omega) hW hT (C := 119) (by omega) (by omega) (Y := rF Q t) I0 ry (n := n) (by rw [e0]; omega)
  rw [e1]
  refine k.mono ?_
  unfold eQV
  congr 1
  funext M2
  apply propext
  have e : secN (cE (sR M (7, 1) 0 (5, q)) q) n (rF Q t) = rF Q (t + n) := by
    rw [show secN (cE (sR M (7, 1) 0 (5, q)) q) n (rF Q t) = secN (mE Q) n (rF Q t) from secN_EQ h.2.2.2.1 _ n]
    unfold rF
    rw [secN_add]
  rw [e]
  exact Iff.rfl
/-- a run of the class's by the counts -/
theorem QS.fitC (h : QS M q Q (M.1 (40, 0))) (h4 : M.2.2 (10, 0) 4 = (5, q)) {c : Nat} {st sec lo hi : Nat → Int32} (hS : ctS M c st sec) (hv : ∀ i, i < c → ¬ st i = -1 → vp_in (sec i) 3600 ∧ vp_in (st i) (cN M q) ∧ M.1 (46, 0) i = lo i ∧ M.1 (47, 0) i = hi i) {κ : eg_K} {d : Nat} (hd : 7 ≤ d) : eg_S κ gC mtX10_fitsSpare d [vR (10, 0)] M (eQI κ gC (fun r M1 => r = fitV (∀ k, k < c → hdC (M.1 (48, 0)) st k → okC (rF Q ((sec k).toNatClampNeg + 1)) lo hi st k) ∧ ∃ t, trP M q (rF Q t) M1)) := by
  have hW := h.1
  have n6 := (cN_e hW).2
  have hc := hS.1
  have tS : ∀ {t : Nat} {M1 : eg_H}, trP M q (rF Q t) M1 → ctS M1 c st sec := fun tr => by
    unfold ctS
    rw [tr.o (nT_k (by omega)), tr.o (nT_k (by omega)), tr.o (nT_k (by omega))]
    exact hS
  have t48 : ∀ {t : Nat} {M1 : eg_H}, trP M q (rF Q t) M1 → M1.1 (48, 0) = M.1 (48, 0) := fun tr => tr.o (nT_k (by omega))
  have key : ∀ (k i t : Nat) (l1 : Int32) (M1 : eg_H), i + k = 40 → t ≤ 3600 → trP M q (rF Q t) M1 → ((l1 = -1 ∧ ∀ i, i < c → hdC (M.1 (48, 0)) st i → (sec i).toNatClampNeg < t) ∨ ∃ a, a < c ∧ hdC (M.1 (48, 0)) st a ∧ l1 = sec a ∧ t ≤ (sec a).toNatClampNeg ∧ ∀ i, i < c → hdC (M.1 (48, 0)) st i → t ≤ (sec i).toNatClampNeg → (sec a).toNatClampNeg ≤ (sec i).toNatClampNeg) → (∀ j, j < c → hdC (M.1 (48, 0)) st j → (sec j).toNatClampNeg < t → okC (rF Q ((sec j).toNatClampNeg + 1)) lo hi st j) → i ≤ cnt (fun j => hdC (M.1 (48, 0)) st j ∧ (sec j).toNatClampNeg < t) c → eg_W κ gC mtX10_fitsSpare d (eQI κ gC (fun r M1 => r = fitV (∀ k, k < c → hdC (M.1 (48, 0)) st k → okC (rF Q ((sec k).toNatClampNeg + 1)) lo hi st k) ∧ ∃ t, trP M q (rF Q t) M1)) 29 [(0, vR (10, 0)), (1, vI l1), (2, vI (nI i))] [] M1 := by
    intro k
    induction k with
    | zero =>
      intro i t l1 M1 hi' ht tr nx dn ct
      refine vX10_fitsSpare_29 (by omega) M1 _ _ ⟨fun _ => ⟨(fitV_t (fun j hj q => ?_)).symm, t, tr⟩, fun q => absurd ((nI_le' (a := 40) (by omega) (by omega)).mpr (by omega)) q⟩
      have := cnt_all (fun j => hdC (M.1 (48, 0)) st j ∧ (sec j).toNatClampNeg < t) c (by omega) j hj
      exact dn j hj q this.2
    | succ k ih =>
      intro i t l1 M1 hi' ht tr nx dn ct
      refine vX10_fitsSpare_29 (by omega) M1 _ _ ⟨fun q => absurd ((nI_le' (a := 40) (by omega) (by omega)).mp q) (by omega), fun _ => ⟨fun c1 => ?_, fun c1 => ?_⟩⟩
      · rcases nx with ⟨_, n2⟩ | ⟨a, n1, n2, n3, n4, n5⟩
        · exact ⟨(fitV_t (fun j hj q => dn j hj q (n2 j hj q))).symm, t, tr⟩
        · exfalso
          obtain ⟨ea, la⟩ := nI_of' (hv a n1 n2.2).1 (by omega)
          rw [n3, ea] at c1
          exact nI_ne_m1 (by omega) c1
      · rcases nx with ⟨n1, _⟩ | ⟨a, n1, n2, n3, n4, n5⟩
        · exact absurd n1 c1
        · obtain ⟨ea, la⟩ := nI_of' (hv a n1 n2.2).1 (by omega)
          have el : l1 = nI (sec a).toNatClampNeg := n3.trans ea
          generalize hs : (sec a).toNatClampNeg = s at *
          have earg : l1 + 1 - M1.1 (7, 1) 1 = nI (s + 1 - t) := by
            rw [tr.t, h.s0 ht, el, nI_1, nI_subn (by omega) (by omega)]
          rw [earg]
          refine ⟨_, h.go2 (by omega) (by omega) tr, fun M3 t3 => ?_⟩
          rw [show t + (s + 1 - t) = s + 1 by omega] at t3
          rw [el]
          refine ⟨_, sX8_agrees (Y := rF Q (s + 1)) (lo := lo) (hi := hi) M3 (tS t3) (by omega) (fun j hj hq => ?_), fun x5 M6 ⟨e6, a5⟩ => ?_⟩
          · obtain ⟨v1, v2, v3, v4⟩ := hv j hj hq
            have hs5 := vp_lt v2
            refine ⟨v1, ?_, ?_, ?_, ?_⟩
            · rw [t_in] at v2 ⊢; omega
            · rw [t3.o (nT_k (by omega))]; exact v3
            · rw [t3.o (nT_k (by omega))]; exact v4
            · exact t3.s (k := 0) (by omega) hs5 (by omega)
          · rw [t48 t3] at a5
            rw [e6]
            refine ⟨fun c5 => ?_, fun c5 => ?_⟩
            · rcases a5 with ⟨_, a5⟩ | ⟨a5, _⟩
              · rw [t3.t, h.s0 (by omega)]
                refine ⟨_, sX8_nextSecond M3 (tS t3) (fun j hj hq => (hv j hj hq).1) (s + 1) (by omega), fun x9 M10 ⟨e10, a9⟩ x12 e12 => ?_⟩
                rw [t48 t3] at a9
                rw [e12, nI_1, e10]
                refine ih (i + 1) (s + 1) x9 M3 (by omega) (by omega) t3 a9 (fun j hj hq hlt => ?_) ?_
                · by_cases e : (sec j).toNatClampNeg < t
                  · exact dn j hj hq e
                  · have := n5 j hj hq (by omega)
                    have es : (sec j).toNatClampNeg = s := by omega
                    have := a5 j hj hq es
                    rw [es]; exact this
                · have := cnt_s (p := fun j => hdC (M.1 (48, 0)) st j ∧ (sec j).toNatClampNeg < t) (q := fun j => hdC (M.1 (48, 0)) st j ∧ (sec j).toNatClampNeg < s + 1) (fun j q => ⟨q.1, by have := q.2; omega⟩) (a := a) (fun q => by have := q.2; omega) ⟨n2, by omega⟩ c n1
                  omega
              · exact absurd a5 c5
            · rcases a5 with ⟨a5, _⟩ | ⟨_, j, hj, hq, es, a5⟩
              · rw [a5] at c5; exact absurd c5 (by decide)
              · refine ⟨(fitV_f (fun z => a5 ?_)).symm, s + 1, t3⟩
                have := z j hj hq
                rw [es] at this
                exact this
  refine eg_S.of rfl (Nat.le_of_ble_eq_true rfl) (vX10_fitsSpare_0 (by omega) M ⟨q, hW.1, h4, _, sX7_begin (d := d - 1) (by omega) (t := 1) (by omega) hW (anC_40 (j := 0) (by decide)) (by omega) (fun k _ => cXo_40 (t0 := 1) (t1 := 0) (by decide) k), fun M2 ⟨Z1, e1, b1⟩ => ?_⟩)
  have tr : trP M q (rF Q 0) M2 := ⟨_, _, Z1, e1, bg_R hW.2.2.2.2.1 b1 h.bgC⟩
  refine ⟨_, sX8_nextSecond M2 (tS tr) (fun j hj hq => (hv j hj hq).1) 0 (by omega), fun x4 M5 ⟨e5, a4⟩ => ?_⟩
  rw [t48 tr] at a4
  rw [e5]
  exact key 40 0 0 x4 M2 (by omega) (by omega) tr a4 (fun j hj hq hlt => absurd hlt (Nat.not_lt_zero _)) (Nat.zero_le _)
/-- a run of the model's -/
theorem QS.fitM (h : QS M q Q R) {K : Nat} (hK : K ≤ 40) (eK : fX11_knownMany Q = nI K) {last : Int32} (hl : -1 ≤ last.toInt ∧ last.toInt ≤ 3599 ∧ ∀ k, k < K → hdC (Q.1 (140, 0)) (Q.1 (136, 0)) k → ((Q.1 (137, 0) k).toNatClampNeg : Int) ≤ last.toInt) (hst : ∀ k, k < K → Q.1 (136, 0) k = -1 ∨ (vp_in (Q.1 (136, 0) k) 5 ∧ vp_in (Q.1 (137, 0) k) 3600)) {κ : eg_K} {d : Nat} (hd : 8 ≤ d) (nm : Nat → Int64) (s : (Nat → Int64) × Int32) (Y : Nat → Int32) (hY : ∀ j, 366 ≤ j → Y j = 0) : eg_S κ gM mtX11_isFit d [vR (60, 0), vI last] (SX Q nm s Y) (eQI κ gM (fun r M1 => r = fitV (∀ k, k < K → hdC (Q.1 (140, 0)) (Q.1 (136, 0)) k → okC (rF Q ((Q.1 (137, 0) k).toNatClampNeg + 1)) (Q.1 (138, 0)) (Q.1 (139, 0)) (Q.1 (136, 0)) k) ∧ ∃ nm1 s1 t, t ≤ 3600 ∧ M1 = SX Q nm1 s1 (rF Q t))) := by
  have c0 : (0 : Int32).toNatClampNeg = 0 := by decide
  have mw := h.2.2.2.2.1
  have kn : ∀ nm s Y, fX11_knownMany (SX Q nm s Y) = nI K := fun nm s Y => by
    rw [← eK]
    unfold fX11_knownMany
    rw [SX_f _ _ _ _ (by decide), SX_f _ _ _ _ (by decide)]
  have key : ∀ (k t : Nat) (nm : Nat → Int64) (s : (Nat → Int64) × Int32), t + k = 3600 → eg_W κ gM mtX11_isFit d (eQI κ gM (fun r M1 => r = fitV (∀ k, k < K → hdC (Q.1 (140, 0)) (Q.1 (136, 0)) k → okC (rF Q ((Q.1 (137, 0) k).toNatClampNeg + 1)) (Q.1 (138, 0)) (Q.1 (139, 0)) (Q.1 (136, 0)) k) ∧ ∃ nm1 s1 t, t ≤ 3600 ∧ M1 = SX Q nm1 s1 (rF Q t))) 6 [(0, vR (60, 0)), (1, vI last), (2, vI (fitV (∀ k, k < K → hdC (Q.1 (140, 0)) (Q.1 (136, 0)) k → (Q.1 (137, 0) k).toNatClampNeg < t → okC (rF Q ((Q.1 (137, 0) k).toNatClampNeg + 1)) (Q.1 (138, 0)) (Q.1 (139, 0)) (Q.1 (136, 0)) k)))] [] (SX Q nm s (rF Q t)) := by
    intro k
    induction k with
    | zero =>
      intro t nm s ht
      refine vX11_isFit_6 (by omega) _ _ _ ⟨(vpL 366).1.mpr (by omega), fun _ => ⟨fitV_01 _, fitV_c ⟨fun z j hj q => z j hj q ?_, fun z j hj q _ => z j hj q⟩, nm, s, t, by omega, rfl⟩, fun c => ?_⟩
      · have := hl.2.2 j hj q
        omega
      · exfalso
        apply c
        rw [c0, SX_Y, h.s0 (by omega), t_lt, t_nI (by omega)]
        omega
    | succ k ih =>
      intro t nm s ht
      refine vX11_isFit_6 (by omega) _ _ _ ⟨(vpL 366).1.mpr (by omega), fun c => ⟨fitV_01 _, fitV_c ⟨fun z j hj q => z j hj q ?_, fun z j hj q _ => z j hj q⟩, nm, s, t, by omega, rfl⟩, fun c => ⟨fun cb => ⟨fitV_01 _, ?_, nm, s, t, by omega, rfl⟩, fun cb => ⟨_, sX11_second (by omega) mw h.wE (C := 119) (by omega) (by omega) nm s _ (h.T (by omega)).1, fun M6 ⟨nm1, s1, e6⟩ => ?_⟩⟩⟩
      · rw [c0, SX_Y, h.s0 (by omega), t_lt, t_nI (by omega)] at c
        have := hl.2.2 j hj q
        omega
      · rw [cb]
        exact (fitV_f (fun z => fitV_0 cb (fun j hj q _ => z j hj q))).symm
      · have e6' : M6 = SX Q nm1 s1 (rF Q (t + 1)) := e6
        rw [e6']
        have l26 : ∀ (a b : Nat), b + a = K → eg_W κ gM mtX11_isFit d (eQI κ gM (fun r M1 => r = fitV (∀ k, k < K → hdC (Q.1 (140, 0)) (Q.1 (136, 0)) k → okC (rF Q ((Q.1 (137, 0) k).toNatClampNeg + 1)) (Q.1 (138, 0)) (Q.1 (139, 0)) (Q.1 (136, 0)) k) ∧ ∃ nm1 s1 t, t ≤ 3600 ∧ M1 = SX Q nm1 s1 (rF Q t))) 26 [(0, vR (60, 0)), (1, vI last), (2, vI (fitV (∀ k, k < K → hdC (Q.1 (140, 0)) (Q.1 (136, 0)) k → ((Q.1 (137, 0) k).toNatClampNeg < t ∨ ((Q.1 (137, 0) k).toNatClampNeg = t ∧ k < b)) → okC (rF Q ((Q.1 (137, 0) k).toNatClampNeg + 1)) (Q.1 (138, 0)) (Q.1 (139, 0)) (Q.1 (136, 0)) k))), (3, vI (nI b))] [] (SX Q nm1 s1 (rF Q (t + 1))) := by
          intro a
          induction a with
          | zero =>
            intro b hb
            have eb : b = K := by omega
            subst eb
            refine vX11_isFit_26 (by omega) _ _ _ _ (fun x2 e2 => ⟨fun _ => ?_, fun c => absurd (by rw [e2, kn]; exact nI_le (Nat.le_refl _) (by omega)) c⟩)
            have i6 := ih (t + 1) nm1 s1 (by omega)
            have ef : fitV (∀ k, k < b → hdC (Q.1 (140, 0)) (Q.1 (136, 0)) k → ((Q.1 (137, 0) k).toNatClampNeg < t ∨ ((Q.1 (137, 0) k).toNatClampNeg = t ∧ k < b)) → okC (rF Q ((Q.1 (137, 0) k).toNatClampNeg + 1)) (Q.1 (138, 0)) (Q.1 (139, 0)) (Q.1 (136, 0)) k) = fitV (∀ k, k < b → hdC (Q.1 (140, 0)) (Q.1 (136, 0)) k → (Q.1 (137, 0) k).toNatClampNeg < t + 1 → okC (rF Q ((Q.1 (137, 0) k).toNatClampNeg + 1)) (Q.1 (138, 0)) (Q.1 (139, 0)) (Q.1 (136, 0)) k) := fitV_c ⟨fun z j hj q ql => z j hj q (by omega), fun z j hj q ql => z j hj q (by omega)⟩
            rw [ef]
            exact i6
          | succ a iha =>
            intro b hb
            have nxt := iha (b + 1) (by omega)
            have same : (¬ (hdC (Q.1 (140, 0)) (Q.1 (136, 0)) b ∧ (Q.1 (137, 0) b).toNatClampNeg = t)) → fitV (∀ k, k < K → hdC (Q.1 (140, 0)) (Q.1 (136, 0)) k → ((Q.1 (137, 0) k).toNatClampNeg < t ∨ ((Q.1 (137, 0) k).toNatClampNeg = t ∧ k < b)) → okC (rF Q ((Q.1 (137, 0) k).toNatClampNeg + 1)) (Q.1 (138, 0)) (Q.1 (139, 0)) (Q.1 (136, 0)) k) = fitV (∀ k, k < K → hdC (Q.1 (140, 0)) (Q.1 (136, 0)) k → ((Q.1 (137, 0) k).toNatClampNeg < t ∨ ((Q.1 (137, 0) k).toNatClampNeg = t ∧ k < b + 1)) → okC (rF Q ((Q.1 (137, 0) k).toNatClampNeg + 1)) (Q.1 (138, 0)) (Q.1 (139, 0)) (Q.1 (136, 0)) k) := fun hne => fitV_c ⟨fun z j hj q ql => by
              by_cases e : j = b
              · subst e
                rcases ql with ql | ql
                · exact z j hj q (Or.inl ql)
                · exact absurd ⟨q, ql.1⟩ hne
              · exact z j hj q (by omega), fun z j hj q ql => z j hj q (by omega)⟩
            refine vX11_isFit_26 (by omega) _ _ _ _ (fun x2 e2 => ⟨fun c => absurd (by rw [e2, kn] at c; exact c) (nI_ge (by omega) (by omega)), fun _ => ?_⟩)
            rw [nI_t (by omega), c0, SX_Y, SX_o _ _ _ _ (r := (140, 0)) (by decide) (by decide), SX_o _ _ _ _ (r := (136, 0)) (by decide) (by decide), SX_o _ _ _ _ (r := (137, 0)) (by decide) (by decide), SX_o _ _ _ _ (r := (138, 0)) (by decide) (by decide), SX_o _ _ _ _ (r := (139, 0)) (by decide) (by decide), h.s0 (by omega), nI_p]
            refine ⟨nI_in' (by omega) (by omega), fun c1 x6 e6 => ?_, fun c1 => ⟨fun c2 x8 e8 => ?_, fun c2 => ⟨(vpL 366).1.mpr (by omega), fun c3 => ?_, fun c3 x21 e21 => ?_⟩⟩⟩
            · rw [e6, nI_1, same (fun z => z.1.1 c1)]; exact nxt
            · rw [e8, nI_1, same (fun z => z.1.2 ?_)]
              · exact nxt
              · rcases hst b (by omega) with w | w
                · exact w
                · exfalso
                  have w1 := w.1
                  rw [t_in] at w1
                  rw [t_lt, t_0] at c2
                  omega
            · have w : vp_in (Q.1 (136, 0) b) 5 ∧ vp_in (Q.1 (137, 0) b) 3600 := by
                rcases hst b (by omega) with w | w
                · rw [w, t_lt, t_0, t_m1] at c2; omega
                · exact w
              have hd2 : hdC (Q.1 (140, 0)) (Q.1 (136, 0)) b := ⟨c1, fun z => by rw [z, t_lt, t_0, t_m1] at c2; omega⟩
              have es : (Q.1 (137, 0) b).toNatClampNeg = t := by rw [c3, nI_t (by omega)]
              obtain ⟨ew, lw⟩ := nI_of' w.1 (by omega)
              refine ⟨fun cb x12 e12 => ?_, fun cb x14 e14 => ?_⟩
              · rw [e12, nI_1]
                have e0 : (0 : Int32) = fitV (∀ k, k < K → hdC (Q.1 (140, 0)) (Q.1 (136, 0)) k → ((Q.1 (137, 0) k).toNatClampNeg < t ∨ ((Q.1 (137, 0) k).toNatClampNeg = t ∧ k < b + 1)) → okC (rF Q ((Q.1 (137, 0) k).toNatClampNeg + 1)) (Q.1 (138, 0)) (Q.1 (139, 0)) (Q.1 (136, 0)) k) := (fitV_f (fun z => fitV_0 cb (fun j hj q ql => z j hj q (by omega)))).symm
                rw [← e0] at nxt
                exact nxt
              · rw [ew, pan_n] at e14
                rw [e14, nI_t (by omega)]
                refine ⟨nI_in' (by omega) (by omega), fun x17 e17 x18 e18 x19 e19 => ?_⟩
                have ok1 := fitV_n cb
                have ev : x18 = fitV (∀ k, k < K → hdC (Q.1 (140, 0)) (Q.1 (136, 0)) k → ((Q.1 (137, 0) k).toNatClampNeg < t ∨ ((Q.1 (137, 0) k).toNatClampNeg = t ∧ k < b + 1)) → okC (rF Q ((Q.1 (137, 0) k).toNatClampNeg + 1)) (Q.1 (138, 0)) (Q.1 (139, 0)) (Q.1 (136, 0)) k) := by
                  rcases isIn_n (SX Q nm1 s1 (rF Q (t + 1))) (rF Q (t + 1) (320 + 8 * (Q.1 (136, 0) b).toNatClampNeg)) (Q.1 (138, 0) b) (Q.1 (139, 0) b) with y | y
                  · rw [e18, e17, y.1, if_pos rfl]
                    refine (fitV_f (fun z => y.2 ?_)).symm
                    have z1 := z b (by omega) hd2 (Or.inr ⟨es, by omega⟩)
                    rw [es] at z1
                    obtain ⟨z2, z3⟩ := z1
                    rw [t_lt] at z2
                    rw [t_le] at z3
                    omega
                  · rw [e18, e17, y.1, if_neg (by decide)]
                    refine (fitV_t (fun j hj q ql => ?_)).symm
                    by_cases e : j = b
                    · subst e
                      rw [es]
                      refine ⟨?_, ?_⟩
                      · rw [t_lt]; omega
                      · rw [t_le]; omega
                    · exact ok1 j hj q (by omega)
                rw [e19, nI_1, ev]
                exact nxt
            · rw [e21, nI_1, same (fun z => c3 ?_)]
              · exact nxt
              · rcases hst b (by omega) with w | w
                · exact absurd w z.1.2
                · obtain ⟨ew, lw⟩ := nI_of' w.2 (by omega)
                  rw [ew, z.2]
        have i26 := l26 K 0 (by omega)
        have ef : fitV (∀ k, k < K → hdC (Q.1 (140, 0)) (Q.1 (136, 0)) k → ((Q.1 (137, 0) k).toNatClampNeg < t ∨ ((Q.1 (137, 0) k).toNatClampNeg = t ∧ k < 0)) → okC (rF Q ((Q.1 (137, 0) k).toNatClampNeg + 1)) (Q.1 (138, 0)) (Q.1 (139, 0)) (Q.1 (136, 0)) k) = fitV (∀ k, k < K → hdC (Q.1 (140, 0)) (Q.1 (136, 0)) k → (Q.1 (137, 0) k).toNatClampNeg < t → okC (rF Q ((Q.1 (137, 0) k).toNatClampNeg + 1)) (Q.1 (138, 0)) (Q.1 (139, 0)) (Q.1 (136, 0)) k) := fitV_c ⟨fun z j hj q ql => z j hj q (by omega), fun z j hj q ql => z j hj q (by omega)⟩
        rw [ef] at i26
        exact i26
  refine eg_S.of rfl (Nat.le_of_ble_eq_true rfl) (vX11_isFit_0 (by omega) _ _ ⟨⟨by rw [SX_f _ _ _ _ (by decide)]; exact mw.1, by rw [SX_ev]; exact mw.2.1⟩, fun M2 e2 => ?_⟩)
  have eB : begM (SX Q nm s Y) = begM Q := begM_SX _ _ _ _ (fun j hj => by rw [hY j hj, h.2.2.2.2.2.2.2 j hj])
  have e2' : M2 = SX Q nm s (rF Q 0) := by
    rw [e2]
    unfold fX11_begins
    rw [eB, SX_W]
    rfl
  rw [e2']
  have k0 := key 3600 0 nm s (by omega)
  rw [fitV_t (fun j hj q ql => absurd ql (Nat.not_lt_zero _))] at k0
  exact k0
end
