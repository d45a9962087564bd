/-! TEXT -/
theorem T_FJ {M N M1 N1 : eg_H} {C p n : Nat} (h : JJ M N C p) (fl : FL (1 - p) (bgC M (1 - p) n) (bgN N n) M1 N1) : JJ M1 N1 (C + 60) p := by
  obtain ⟨⟨⟨r1, r2, r3⟩, pl, ⟨ry, ti⟩, row⟩, j2, j3, ⟨c, hc, c1, c2, c3, c4, c5⟩, ⟨jk, ⟨t, ht, t1, t2, t3⟩, f1, f2, f3⟩⟩ := h
  obtain ⟨⟨w1, w2⟩, ⟨v1, v2, v3, v4⟩, g2, g3, _⟩ := fl
  have hp := pl.p2
  have eM : ∀ r, ¬ pOf r (1 - p) → r.1 ≠ 6 → r.1 ≠ 9 → r.1 ≠ 36 → r.1 ≠ 10 → M1.1 r = M.1 r := fun r a b c d e => by
    rw [w1 r a b c d]
    refine bgC_o ⟨fun z => a (by rw [z]; exact pOf_k (by omega)), fun z => a (by rw [z]; exact pOf_k (by omega)), fun z => a (by rw [z]; exact pOf_k (by omega)), fun z => b (by rw [z]), fun z => c (by rw [z]), fun z => e (by rw [z])⟩
  have eP : ∀ r, pOf r p → M1.1 r = M.1 r := fun r hr => by
    refine eM r ?_ ?_ ?_ ?_ ?_
    all_goals
      unfold pOf at *
      omega
  have eT : ∀ s r, tOf r s → M1.1 r = M.1 r := fun s r hr => by
    refine eM r (nP_t hr) ?_ ?_ ?_ ?_
    all_goals
      unfold tOf at hr
      omega
  have eO : ∀ k, k = 51 ∨ k = 8 ∨ k = 44 ∨ k = 45 ∨ k = 46 ∨ k = 47 → M1.1 (k, 0) = M.1 (k, 0) := fun k hk => eM (k, 0) (nOf_o (by omega)) (by show k ≠ 6; omega) (by show k ≠ 9; omega) (by show k ≠ 36; omega) (by show k ≠ 10; omega)
  have e10 : ∀ k, k ≠ 1 → M1.1 (10, 0) k = M.1 (10, 0) k := fun k hk => by
    rw [w1 _ (nOf_o (by omega)) (by decide) (by decide) (by decide), bgC_10, if_neg hk]
  have eR : ∀ r k, r ≠ (6, 0) → M1.2.2 r k = M.2.2 r k := fun r k hr => by
    rw [w2, bgC_r, if_neg (fun z => hr z.1)]
  have eE : cE M1 p = cE M p := cE_cong pl.cW eP
  have nO : ∀ k, k = 111 ∨ k = 112 ∨ k = 142 ∨ k = 131 ∨ k = 136 ∨ k = 137 ∨ k = 138 ∨ k = 139 ∨ k = 64 ∨ k = 110 → N1.1 (k, 0) = N.1 (k, 0) := fun k hk => by
    rw [v1 (k, 0) (by show k ≠ 60; omega) (by show k < 88 ∨ 103 < k; omega), bgN_o ⟨kd_ne (by omega), kd_ne (by omega)⟩]
  have nF : ∀ k, (12 ≤ k ∧ k ≤ 18) ∨ k = 80 ∨ k = 69 ∨ k = 73 ∨ k = 74 → N1.1 (60, 0) k = N.1 (60, 0) k := fun k hk => by
    rw [v2 k (by omega), bgN_k N n (by omega)]
  have hl : hlf N N1 := by
    refine hlf.tr ?_ v3
    have g : ∀ k, 88 ≤ k → k ≤ 101 → k ≠ 98 → (bgN N n).1 (k, 0) = N.1 (k, 0) := fun k _ _ _ => bgN_o ⟨kd_ne (by omega), kd_ne (by omega)⟩
    unfold hlf
    rw [g 88 (by omega) (by omega) (by omega), g 89 (by omega) (by omega) (by omega), g 90 (by omega) (by omega) (by omega), g 91 (by omega) (by omega) (by omega), g 92 (by omega) (by omega) (by omega), g 93 (by omega) (by omega) (by omega), g 94 (by omega) (by omega) (by omega), g 95 (by omega) (by omega) (by omega), g 96 (by omega) (by omega) (by omega), g 97 (by omega) (by omega) (by omega), g 99 (by omega) (by omega) (by omega), g 100 (by omega) (by omega) (by omega), g 101 (by omega) (by omega) (by omega)]
    refine ⟨fun _ _ => rfl, fun _ _ => rfl, fun _ _ => ⟨rfl, rfl, rfl⟩, fun _ _ => rfl, fun _ _ => ⟨rfl, rfl⟩, fun _ _ => ⟨rfl, rfl⟩, fun k hk => ?_, fun _ _ => ⟨rfl, rfl, rfl⟩⟩
    rw [bgN_98, if_neg (by omega), if_neg (by omega), if_neg (by omega)]
  have ecN : cN M1 p = cN M p := by unfold cN; rw [eP (5, p) (pOf_k (by omega))]
  refine ⟨⟨⟨?_, ?_, ?_⟩, pl.congH eP hl (fun k a b => nF k (by omega)), ⟨?_, ?_⟩, ?_⟩, j2.cong (by omega) eE (e10 8 (by omega)) (fun r hr => eT 2 r hr) (eR _ _ (by decide)) (nF 80 (by omega)) (nO 142 (by omega)), j3.cong (by omega) eE (e10 11 (by omega)) (fun r hr => eT 3 r hr) (eR _ _ (by decide)) (eO 51 (by omega)) (nF 69 (by omega)) (nO 111 (by omega)) (nO 131 (by omega)), ⟨c, hc, ?_, ?_, ?_, ?_, ?_⟩, ⟨fun j hj => by rw [nO 110 (by omega)]; exact jk j hj, ⟨0, by omega, ?_, ?_, fun i hi => absurd hi (by omega)⟩, g2, g3, ?_⟩⟩
  · rw [eR _ _ (by decide)]; exact r1
  · rw [eR _ _ (by decide)]; exact r2
  · rw [eR _ _ (by decide)]; exact r3
  · rw [eE, aT_cong (fun r hr => eT 0 r hr), nO 111 (by omega)]; exact ry
  · rw [eE, nO 111 (by omega)]; exact ti.mono (by omega)
  · rw [nO 111 (by omega), nO 112 (by omega)]; exact row
  · rw [eO 8 (by omega)]; exact c1
  · rw [nF 73 (by omega)]; exact c2
  · rw [eO 8 (by omega), nF 74 (by omega)]; exact c3
  · rw [nF 74 (by omega)]; exact c4
  · rw [nO 136 (by omega), nO 137 (by omega), nO 138 (by omega), nO 139 (by omega), ecN, eO 44 (by omega), eO 45 (by omega), eO 46 (by omega), eO 47 (by omega)]; exact c5
  · rw [w1 _ (nOf_o (by omega)) (by decide) (by decide) (by decide), bgC_10]; rfl
  · rw [v2 1 (by omega), bgN_f]; rfl
  · rw [nO 64 (by omega)]; exact f3
theorem if_neg_or {t n : Nat} {x : Int32} (ht : t ≤ 800) (hn : n ≤ t) (ex : x = nI n) : (if (800 : Int32) ≤ x then (800 : Int32) else x) = nI n := by
  rw [ex]
  by_cases c : (800 : Int32) ≤ nI n
  · rw [if_pos c]
    have := (nI_le' (a := 800) (by omega) (by omega)).mp c
    rw [show n = 800 by omega]
    rfl
  · rw [if_neg c]
theorem st_text {M N : eg_H} {C p : Nat} (h : JJ M N C p) (x : Int32) : StI mtX10_text mtX11_text [vI x] M N C := by
  obtain ⟨jk, ⟨t, ht, t1, t2, t3⟩, f1, f2, f3⟩ := h.2.2.2.2
  have k1 : (sI N (60, 0) 2 (0 : Int32)).1 (60, 0) 1 = nI t := by rw [sI_60, if_neg (by decide)]; exact t2
  by_cases c1 : x < 0
  · exact StI.q h (-2) (fun κ => eg_S.of rfl (Nat.le_of_ble_eq_true rfl) (vX10_text_0 (by omega) M x ⟨fun _ => ⟨rfl, FrQ.rf p M⟩, fun z => absurd c1 z⟩)) (fun κ => eg_S.of rfl (Nat.le_of_ble_eq_true rfl) (vX11_text_0 (by omega) N x (fun M1 e1 => ⟨fun _ => ⟨rfl, by rw [e1]; exact FrN_f N (by omega) 0⟩, fun z => absurd c1 z⟩)))
  by_cases c2 : x ≤ nI t
  · obtain ⟨n, ex, hn⟩ : ∃ n, x = nI n ∧ n ≤ t := by
      rw [t_lt, t_0] at c1
      rw [t_le, nI_toInt (by omega)] at c2
      have : vp_in x 801 := t_in.mpr ⟨by omega, by omega⟩
      obtain ⟨e, l⟩ := nI_of' this (by omega)
      refine ⟨x.toNatClampNeg, e, ?_⟩
      have := nI_toInt (n := x.toNatClampNeg) (by omega)
      rw [← e] at this
      omega
    have hp := h.1.2.1.p2
    have hq : 1 - p < 2 := by omega
    obtain ⟨M1, N1, ca, cb, cO⟩ := TOK (bg_tI (q := 1 - p) hn ht t3 f3)
    obtain ⟨a, rd, wc, wm, e4⟩ := bg_RD hq (bg_tI hn ht t3 f3) cO
    have key : PX 12 9 (fun κ d post => eg_S κ gC mtX10_text d [vR (10, 0), vI x] M (eQI κ gC post)) (fun κ d post => eg_S κ gM mtX11_text d [vR (60, 0), vI x] N (eQI κ gM post)) (fun r A B => ∃ p', JJ A B (C + 60) p') := by
      refine PX.c (fun κ d hd post k => eg_S.of rfl (Nat.le_of_ble_eq_true rfl) (vX10_text_0 (by omega) M x ⟨fun z => absurd z c1, fun _ => ⟨fun _ M3 e3 => ⟨1 - p, hq, by rw [e3]; exact h.1.1.2.1, fun X => X = M1, eg_S.of rfl (Nat.le_of_ble_eq_true rfl) (vX6_begin_0 (by omega) M3 hq x (fun A1 a1 => ⟨1 - p, hq, by rw [a1]; rfl, _, sX5_clear (by omega) A1 hq, fun A3 a3 A5 a5 A6 a6 A7 a7 A8 a8 A9 a9 => ⟨fun X => X = M1, eg_S.of rfl (Nat.le_of_ble_eq_true rfl) (vX9_begin_0 (by omega) A9 x (fun x1 e1 B2 b2 B3 b3 => ⟨_, ?_, fun Z hZ => hZ⟩)), fun Z hZ => hZ⟩⟩)), fun Z hZ => ?_⟩, fun z => absurd (by rw [t1]; exact c2) z⟩⟩)) (PX.m (fun κ d hd post k => eg_S.of rfl (Nat.le_of_ble_eq_true rfl) (vX11_text_0 (by omega) N x (fun A1 a1 => ⟨fun z => absurd z c1, fun _ => ⟨fun _ A4 a4 A5 a5 A6 a6 A7 a7 A8 a8 => ⟨_, sX11_plain A8, fun A9 a9 => ⟨fun X => X = N1, ?_, fun Z hZ => ?_⟩⟩, fun z => absurd (by rw [a1, k1]; exact c2) z⟩⟩))) (T_L (fun A B fl => ⟨p, T_FJ h fl⟩) (fun i A B hi rdA wcA wmA e4A => ?_) n a 0 M1 N1 (by omega) rd wc wm e4 (by omega)))
      · have e : B3 = bgC M (1 - p) n := by
          rw [b3, b2, e1, a9, a8, a7, a6, a5, a3, a1, e3]
          rw [if_neg_or ht hn ex]
          rfl
        rw [e]
        exact ca κ _ (by omega)
      · rw [hZ, ex]; exact k
      · have e : A9 = bgN N n := by
          rw [a9, a8, a7, a6, a5, a4, a1, ex]
          rfl
        rw [e]
        exact cb κ _ (by omega)
      · rw [hZ]; exact k
      · refine T_E (p := p) rfl hp rdA ?_ ?_ (fun j hj => ?_) e4A (fun X Y hX hY => ⟨1 - p, T_J rfl hp rdA ⟨?_, ?_⟩ (fun j hj => ?_) hX hY⟩)
        · rw [wcA.2, bgC_r, if_neg (fun z => absurd z.1 (by decide))]; exact h.1.1.1
        · rw [wcA.2, bgC_r, if_neg (fun z => absurd z.1 (by decide))]; exact h.1.1.2.1
        · rw [wmA.1 _ (by decide) (by decide), bgN_o ⟨by decide, by decide⟩]; exact jk j hj
        · rw [wcA.1 _ (nOf_o (by omega)) (by decide) (by decide) (by decide), bgC_10]; rfl
        · rw [wmA.2.1 1 (by omega), bgN_f]; rfl
        · rw [wmA.1 _ (by decide) (by decide), bgN_o ⟨by decide, by decide⟩]; exact jk j hj
    obtain ⟨r, P, Q, kc, km, kr⟩ := key
    exact ⟨r, P, Q, fun κ => kc κ 12 (by omega), fun κ => km κ 12 (by omega), kr⟩
  · exact StI.q h (-2) (fun κ => eg_S.of rfl (Nat.le_of_ble_eq_true rfl) (vX10_text_0 (by omega) M x ⟨fun z => absurd z c1, fun _ => ⟨fun z => absurd (by rw [← t1]; exact z) c2, fun _ => ⟨rfl, FrQ.rf p M⟩⟩⟩)) (fun κ => eg_S.of rfl (Nat.le_of_ble_eq_true rfl) (vX11_text_0 (by omega) N x (fun M1 e1 => ⟨fun z => absurd z c1, fun _ => ⟨fun z => absurd (by rw [e1, k1] at z; exact z) c2, fun _ => ⟨rfl, by rw [e1]; exact FrN_f N (by omega) 0⟩⟩⟩)))
