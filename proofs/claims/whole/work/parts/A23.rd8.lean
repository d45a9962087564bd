/-! THE LINES pass, again, close -/
theorem RD.fl3 {q n a a1 : Nat} {M N M1 N1 : eg_H} (h : RD q n a M N) (ht : tA M1 N1 n a1) (h6 : ∀ k, k ≠ 5 → k ≠ 6 → k ≠ 7 → M1.1 (6, 0) k = M.1 (6, 0) k) (hM : ∀ r, r ≠ (5, q) → r ≠ (9, 0) → r ≠ (6, 0) → M1.1 r = M.1 r) (h2 : M1.2 = M.2) (h5 : ∀ k, k ≠ 4 → k ≠ 5 → k ≠ 6 → M1.1 (5, q) k = M.1 (5, q) k) (hN : ∀ r, r ≠ (60, 0) → N1.1 r = N.1 r) (hf : ∀ k, k < 7 ∨ 11 < k → k < 23 ∨ 26 < k → N1.1 (60, 0) k = N.1 (60, 0) k) (hN2 : N1.2 = N.2) (e23 : (N1.1 (60, 0) 23 = 0 ∨ N1.1 (60, 0) 23 = 1) ∧ M1.1 (5, q) 4 = N1.1 (60, 0) 23) (e24 : (0 ≤ (N1.1 (60, 0) 24).toInt ∧ (N1.1 (60, 0) 24).toInt ≤ 1800) ∧ M1.1 (5, q) 5 = N1.1 (60, 0) 24) (e25 : (0 ≤ (N1.1 (60, 0) 25).toInt ∧ (N1.1 (60, 0) 25).toInt ≤ 3600) ∧ M1.1 (5, q) 6 = N1.1 (60, 0) 25) (e26 : M1.1 (6, 0) 5 = N1.1 (60, 0) 26 ∧ (N1.1 (60, 0) 26 = 0 ∨ N1.1 (60, 0) 26 = 1)) : RD q n a1 M1 N1 ∧ wC q M M1 ∧ wM N N1 := by
  refine ⟨h.mk (fun k hk => h6 k (by omega) (by omega) (by omega)) (fun k hk => hM _ (kd_ne (by omega)) (kd_ne (by omega)) (kd_ne (by omega))) (by rw [h2]) (fun k hk => hf k (by omega) (by omega)) (hN _ (by decide)) ht ?_ e26, ⟨fun r a b c _ => hM r (fun e => a (by rw [e]; exact pOf_k (by omega))) (fun e => c (by rw [e])) (fun e => b (by rw [e])), by rw [h2]⟩, ⟨fun r a _ => hN r (fun e => a (by rw [e])), fun k hk => hf k (by omega) (by omega), hlf.rf (fun k _ _ => hN _ (kd_ne (by omega))), hN2⟩⟩
  refine h.2.2.1.fld (fun k x y => ?_) (fun k hk => h5 k (by omega) (by omega) (by omega)) (fun r hr a => ?_) (fun k x y => kp_row (show k ≠ 60 by omega) (hN _ (kd_ne (by omega)))) ?_ ?_ ?_
  · rw [kp_60 _ (by omega), kp_60 _ (by omega), hf _ (by omega) (by omega)]
  · obtain ⟨u1, u2, _⟩ := pOf_n hr
    exact hM r a (fun z => u2 (by rw [z])) (fun z => u1 (by rw [z]))
  · rw [kp_60 _ (by omega)]; exact e23
  · rw [kp_60 _ (by omega)]; exact e24
  · rw [kp_60 _ (by omega)]; exact e25
theorem FL.s6 {q k : Nat} {M N M1 N1 : eg_H} {x : Int32} (h : FL q M N M1 N1) (hk : 19 ≤ k ∧ k ≤ 26) : FL q M N M1 (sI N1 (60, 0) k x) := by
  obtain ⟨a, b, c, d, e⟩ := h
  refine ⟨a, b.tr (wM.s6 (by omega)), ?_, ?_, ?_⟩
  · rw [sI_60, if_neg (by omega)]; exact c
  · rw [sI_60, if_neg (by omega)]; exact d
  · rw [sI_60, if_neg (by omega)]; exact e
/-- the model's line up to its end -/
def LXm (N : eg_H) : pwK := fun κ d post => ∀ P : Int32 → eg_H → Prop, (∀ r N1, post r N1 → (r = 0 → P 0 N1) ∧ (¬ r = 0 → eg_W κ gM mtX11_lineRead d (eQI κ gM P) 201 [(0, vR (60, 0)), (1, vI r)] [] N1)) → eg_S κ gM mtX11_lineRead d [vR (60, 0)] N (eQI κ gM P)
theorem lx_w {κ : eg_K} {d : Nat} (hd : 1 ≤ d) {P : Int32 → eg_H → Prop} {r : Int32} {N1 : eg_H} (h : (r = 0 → P 0 N1) ∧ (¬ r = 0 → eg_W κ gM mtX11_lineRead d (eQI κ gM P) 201 [(0, vR (60, 0)), (1, vI r)] [] N1)) : eg_W κ gM mtX11_lineRead d (eQI κ gM P) 201 [(0, vR (60, 0)), (1, vI r)] [] N1 := by
  by_cases c : r = 0
  · exact vX11_lineRead_201 hd N1 r ⟨fun y => absurd c y, fun _ => h.1 c⟩
  · exact h.2 c
theorem lx_f {N N1 : eg_H} {x w : Int32} {P : Int32 → eg_H → Prop} (e : (x, N1) = fX11_wrong N w) (h : x = 0 → P 0 N1) : P x N1 := by
  have z : x = 0 := congrArg Prod.fst e
  rw [z]
  exact h z
theorem L_pass {q n a : Nat} {M N : eg_H} (h : RD q n a M N) (k1 : N.1 (60, 0) 8 = 1) (k2 : N.1 (60, 0) 9 = 2) (hk : ¬ M.1 (9, 0) 4 = 39) : PW 9 4 (fun κ d post => eg_S κ gC mtX6_readPass d [vR (6, 0)] M (eQI κ gC post)) (LXm N) (LN q n a M N) := by
  obtain ⟨q2, eq⟩ := h.1
  have pl := h.2.2.1
  have e4 := pl.ep
  have ha := pl.ha
  have ea := pl.ea
  have hc := pl.hc
  have ec := pl.ec
  rw [kp_60 N (by omega)] at e4 ha ea hc ec
  refine PW.c (fun κ d hd post k => eg_S.of rfl (Nat.le_of_ble_eq_true rfl) (vX6_readPass_0 (by omega) M k)) ?_
  refine PW.m (Km' := fun κ d post => (N.1 (60, 0) 23 = 0 → ∀ Z : eg_H, Z = sI N (60, 0) 23 1 → eCV κ gM mtX11_token d [vR (60, 0)] Z (fun Z2 => post 1 Z2)) ∧ ((¬ N.1 (60, 0) 23 = 0) → ∀ (x : Int32) (M1 : eg_H), (x, M1) = fX11_wrong N 3 → post x M1)) (fun κ d hd post k P hP => ?_) ?_
  · refine eg_S.of rfl (Nat.le_of_ble_eq_true rfl) (vX11_lineRead_0 (by omega) N ⟨fun y => absurd k1 y, fun _ => ⟨fun _ => ⟨fun _ _ y => absurd k2 y, fun y => absurd (k2.symm.trans y) (by decide), fun y => absurd (k2.symm.trans y) (by decide), fun _ => ⟨fun c M15 e15 => ?_, fun c x M1 e1 => ?_⟩, fun y => absurd (k2.symm.trans y) (by decide), fun y => absurd (k2.symm.trans y) (by decide), fun y => absurd (k2.symm.trans y) (by decide)⟩, fun y => absurd (by rw [k2]; decide) y⟩⟩)
    · obtain ⟨po, s, t⟩ := k.1 c M15 e15
      exact ⟨po, s, fun Z hZ => (hP _ _ (t Z hZ)).2 (by decide)⟩
    · exact lx_f e1 (hP _ _ (k.2 c x M1 e1)).1
  · refine PW.cp q2 eq ?_
    have e4' : M.1 (5, q) 4 = N.1 (60, 0) 23 := e4
    rw [e4']
    by_cases c : N.1 (60, 0) 23 = 0
    · refine PW.cT c (PW.mT c (PW.ch fun M3 e3 => PW.mh fun N3 f3 => ?_))
      have t3 : tA M3 N3 n a := by
        rw [e3, f3]
        exact h.2.1.cong (sI_ne (kd_ne (by omega))) (sI_ne (kd_ne (by omega))) (fun k _ _ => by rw [sI_60, if_neg (by omega)]) (sI_ne (by decide)) (sI_ne (by decide))
      refine PW.adv t3 (by omega) (by omega) (fun M4 N4 a4 p1 p2 p3 _ p5 p6 t4 => PW.e ?_)
      have fc : ∀ r, r ≠ (9, 0) → r ≠ (6, 0) → M4.1 r = (sI M (5, q) 4 1).1 r := fun r a b => by rw [p1.1 r a b, e3]
      have z6 : M4.1 (6, 0) = M.1 (6, 0) := by rw [p2, e3, sI_ne (kd_ne (by omega))]
      have fN : ∀ k, k < 7 ∨ 11 < k → N4.1 (60, 0) k = if k = 23 then 1 else N.1 (60, 0) k := fun k hk => by rw [p3.2.1 k hk, f3, sI_60]
      have g5 : ∀ k, M4.1 (5, q) k = if k = 4 then 1 else M.1 (5, q) k := fun k => by rw [fc _ (kd_ne (by omega)) (kd_ne (by omega)), sI_rr]
      obtain ⟨d1, d2, d3⟩ := h.fl3 (M1 := M4) (N1 := N4) t4 (fun k _ _ _ => by rw [z6]) (fun r x y z => by rw [fc r y z, sI_ne x]) (by rw [p1.2.2, e3]; rfl) (fun k x _ _ => by rw [g5, if_neg x]) (fun r hr => by rw [p3.1 r hr, f3, sI_ne hr]) (fun k hk hk2 => by rw [fN k hk, if_neg (by omega)]) (by rw [p3.2.2, f3]; rfl) ⟨Or.inr (by rw [fN 23 (by omega), if_pos rfl]), by rw [fN 23 (by omega), if_pos rfl, g5, if_pos rfl]⟩ ⟨by rw [fN 24 (by omega), if_neg (by omega)]; exact ha, by rw [fN 24 (by omega), if_neg (by omega), g5, if_neg (by omega)]; exact ea⟩ ⟨by rw [fN 25 (by omega), if_neg (by omega)]; exact hc, by rw [fN 25 (by omega), if_neg (by omega), g5, if_neg (by omega)]; exact ec⟩ (by rw [z6, fN 26 (by omega), if_neg (by omega)]; exact h.2.2.2.1)
      exact Or.inl ⟨rfl, ⟨a4, p6 (by rw [e3, sI_ne (kd_ne (by omega))]; exact hk), d1⟩, d2, d3, by rw [z6]⟩
    · exact PW.cF c (PW.mF c (PW.ref (Or.inr ⟨rfl, FL_mk q h.2.1 3 (by decide)⟩)))
theorem L_again {q n a : Nat} {M N : eg_H} (h : RD q n a M N) (k1 : N.1 (60, 0) 8 = 1) (k2 : N.1 (60, 0) 9 = 3) (hk : ¬ M.1 (9, 0) 4 = 39) : PW 9 4 (fun κ d post => eg_S κ gC mtX6_readAgain d [vR (6, 0)] M (eQI κ gC post)) (LXm N) (LN q n a M N) := by
  obtain ⟨q2, eq⟩ := h.1
  have pl := h.2.2.1
  have hp := pl.hp
  have e4 := pl.ep
  have ea := pl.ea
  have hc := pl.hc
  have ec := pl.ec
  rw [kp_60 N (by omega)] at hp e4 ea hc ec
  refine PW.c (fun κ d hd post k => eg_S.of rfl (Nat.le_of_ble_eq_true rfl) (vX6_readAgain_0 (by omega) M k)) ?_
  refine PW.m (Km' := fun κ d post => (N.1 (60, 0) 24 ≤ 0 → eCV κ gM mtX11_token d [vR (60, 0)] N (fun Z => eCI κ gM mtX11_number d [vR (60, 0), vI 1, vI 1800] Z (fun x Z2 => ∀ Z3 : eg_H, Z3 = sI Z2 (60, 0) 24 (Z2.1 (60, 0) 11) → post x Z3))) ∧ ((¬ N.1 (60, 0) 24 ≤ 0) → ∀ (x : Int32) (M1 : eg_H), (x, M1) = fX11_wrong N 3 → post x M1)) (fun κ d hd post k P hP => ?_) ?_
  · refine eg_S.of rfl (Nat.le_of_ble_eq_true rfl) (vX11_lineRead_0 (by omega) N ⟨fun y => absurd k1 y, fun _ => ⟨fun _ => ⟨fun _ _ _ y => absurd k2 y, fun y => absurd (k2.symm.trans y) (by decide), fun y => absurd (k2.symm.trans y) (by decide), fun y => absurd (k2.symm.trans y) (by decide), fun _ => ⟨fun c => ?_, fun c x M1 e1 => ?_⟩, fun y => absurd (k2.symm.trans y) (by decide), fun y => absurd (k2.symm.trans y) (by decide)⟩, fun y => absurd (by rw [k2]; decide) y⟩⟩)
    · obtain ⟨po, s, t⟩ := k.1 c
      refine ⟨po, s, fun Z hZ => ?_⟩
      obtain ⟨po2, s2, u⟩ := t Z hZ
      exact ⟨po2, s2, fun x Z2 hZ2 M26 e26 => lx_w (by omega) (hP _ _ (u x Z2 hZ2 M26 e26))⟩
    · exact lx_f e1 (hP _ _ (k.2 c x M1 e1)).1
  · refine PW.cp q2 eq ?_
    have ea' : M.1 (5, q) 5 = N.1 (60, 0) 24 := ea
    rw [ea']
    by_cases c : N.1 (60, 0) 24 ≤ 0
    · refine PW.cT c (PW.mT c (PW.adv h.2.1 (by omega) (by omega) (fun M3 N3 a3 p1 p2 p3 _ p5 p6 t3 => ?_)))
      refine PW.cn (NUM t3 1 1800) (by omega) (by omega) ?_
      rintro r M6 N6 (⟨hr, r1, r2, ⟨a6, r3, r4⟩, r5, r6, r7⟩ | ⟨hr, z⟩)
      · have x0 : ¬ r = 0 := by rw [hr]; decide
        refine PW.cNT x0 (PW.cp (M := M6) q2 (by rw [r1.2.2, p1.2.2]; exact eq) (PW.ch fun M10 e10 => PW.mh fun N10 f10 => ?_))
        rw [hr]
        refine PW.e ?_
        have l1 : (1 : Int32).toInt = 1 := by decide
        have l2 : (1800 : Int32).toInt = 1800 := by decide
        have fc := p1.tr r1
        have fm := p3.tr r2
        generalize N6.1 (60, 0) 11 = v at r5 r6 r7 f10
        rw [r5] at e10
        have t10 : tA M10 N10 n a6 := by
          rw [e10, f10]
          exact r4.cong (sI_ne (kd_ne (by omega))) (sI_ne (kd_ne (by omega))) (fun k _ _ => by rw [sI_60, if_neg (by omega)]) (sI_ne (by decide)) (sI_ne (by decide))
        have fN : ∀ k, k < 7 ∨ 11 < k → N10.1 (60, 0) k = if k = 24 then v else N.1 (60, 0) k := fun k hk => by rw [f10, sI_60, fm.2.1 k hk]
        have g5 : ∀ k, M10.1 (5, q) k = if k = 5 then v else M.1 (5, q) k := fun k => by rw [e10, sI_rr, fc.1 _ (kd_ne (by omega)) (kd_ne (by omega))]
        have z6 : ∀ k, k ≠ 6 → k ≠ 7 → M10.1 (6, 0) k = M.1 (6, 0) k := fun k x y => by rw [e10, sI_ne (kd_ne (by omega)), fc.2.1 k x y]
        obtain ⟨d1, d2, d3⟩ := h.fl3 (M1 := M10) (N1 := N10) t10 (fun k _ x y => z6 k x y) (fun r x y z => by rw [e10, sI_ne x, fc.1 r y z]) (by rw [e10]; exact fc.2.2) (fun k _ x _ => by rw [g5, if_neg x]) (fun r hr => by rw [f10, sI_ne hr, fm.1 r hr]) (fun k hk hk2 => by rw [fN k hk, if_neg (by omega)]) (by rw [f10]; exact fm.2.2) ⟨by rw [fN 23 (by omega), if_neg (by omega)]; exact hp, by rw [fN 23 (by omega), if_neg (by omega), g5, if_neg (by omega)]; exact e4⟩ ⟨by rw [fN 24 (by omega), if_pos rfl]; exact ⟨by omega, by omega⟩, by rw [fN 24 (by omega), if_pos rfl, g5, if_pos rfl]⟩ ⟨by rw [fN 25 (by omega), if_neg (by omega)]; exact hc, by rw [fN 25 (by omega), if_neg (by omega), g5, if_neg (by omega)]; exact ec⟩ (by rw [z6 5 (by omega) (by omega), fN 26 (by omega), if_neg (by omega)]; exact h.2.2.2.1)
        exact Or.inl ⟨rfl, ⟨a6, by omega, d1⟩, d2, d3, z6 4 (by omega) (by omega)⟩
      · refine PW.cNF hr (PW.mh fun N10 f10 => ?_)
        rw [hr, f10]
        exact PW.e (Or.inr ⟨rfl, FL.pre p1.w p3.w ((z q).s6 (by omega))⟩)
    · exact PW.cF c (PW.mF c (PW.ref (Or.inr ⟨rfl, FL_mk q h.2.1 3 (by decide)⟩)))
theorem L_close {q n a : Nat} {M N : eg_H} (h : RD q n a M N) (k1 : N.1 (60, 0) 8 = 1) (k2 : N.1 (60, 0) 9 = 4) (hk : ¬ M.1 (9, 0) 4 = 39) : PW 9 4 (fun κ d post => eg_S κ gC mtX6_readClose d [vR (6, 0)] M (eQI κ gC post)) (LXm N) (LN q n a M N) := by
  obtain ⟨q2, eq⟩ := h.1
  have pl := h.2.2.1
  have hp := pl.hp
  have e4 := pl.ep
  have ha := pl.ha
  have ea := pl.ea
  have e26 := h.2.2.2.1
  rw [kp_60 N (by omega)] at hp e4 ha ea
  refine PW.c (fun κ d hd post k => eg_S.of rfl (Nat.le_of_ble_eq_true rfl) (vX6_readClose_0 (by omega) M k)) ?_
  refine PW.m (Km' := fun κ d post => (N.1 (60, 0) 26 = 0 → ∀ Z0 : eg_H, Z0 = sI N (60, 0) 26 1 → eCV κ gM mtX11_token d [vR (60, 0)] Z0 (fun Z => eCI κ gM mtX11_number d [vR (60, 0), vI 0, vI 3600] Z (fun x Z2 => ∀ Z3 : eg_H, Z3 = sI Z2 (60, 0) 25 (Z2.1 (60, 0) 11) → post x Z3))) ∧ ((¬ N.1 (60, 0) 26 = 0) → ∀ (x : Int32) (M1 : eg_H), (x, M1) = fX11_wrong N 3 → post x M1)) (fun κ d hd post k P hP => ?_) ?_
  · refine eg_S.of rfl (Nat.le_of_ble_eq_true rfl) (vX11_lineRead_0 (by omega) N ⟨fun y => absurd k1 y, fun _ => ⟨fun _ => ⟨fun _ _ _ _ y => absurd k2 y, fun y => absurd (k2.symm.trans y) (by decide), fun y => absurd (k2.symm.trans y) (by decide), fun y => absurd (k2.symm.trans y) (by decide), fun y => absurd (k2.symm.trans y) (by decide), fun _ => ⟨fun c M30 e30 => ?_, fun c x M1 e1 => ?_⟩, fun y => absurd (k2.symm.trans y) (by decide)⟩, fun y => absurd (by rw [k2]; decide) y⟩⟩)
    · obtain ⟨po, s, t⟩ := k.1 c M30 e30
      refine ⟨po, s, fun Z hZ => ?_⟩
      obtain ⟨po2, s2, u⟩ := t Z hZ
      exact ⟨po2, s2, fun x Z2 hZ2 M36 e36 => lx_w (by omega) (hP _ _ (u x Z2 hZ2 M36 e36))⟩
    · exact lx_f e1 (hP _ _ (k.2 c x M1 e1)).1
  · rw [e26.1]
    by_cases c : N.1 (60, 0) 26 = 0
    · refine PW.cT c (PW.mT c (PW.mh fun N0 f0 => ?_))
      have t0' : tA M N0 n a := by
        rw [f0]
        exact h.2.1.cong rfl rfl (fun k _ _ => by rw [sI_60, if_neg (by omega)]) (sI_ne (by decide)) (sI_ne (by decide))
      refine PW.adv t0' (by omega) (by omega) (fun M3 N3 a3 p1 p2 p3 _ p5 p6 t3 => ?_)
      have w3 : wM N N3 := by
        refine wM.tr (N1 := N0) ?_ p3.w
        rw [f0]
        exact wM.s6 (by omega)
      refine PW.cn (NUM t3 0 3600) (by omega) (by omega) ?_
      rintro r M6 N6 (⟨hr, r1, r2, ⟨a6, r3, r4⟩, r5, r6, r7⟩ | ⟨hr, z⟩)
      · have x0 : ¬ r = 0 := by rw [hr]; decide
        refine PW.cNT x0 (PW.cp (M := M6) q2 (by rw [r1.2.2, p1.2.2]; exact eq) (PW.ch fun M9 e9 => PW.ch fun M10 e10 => PW.mh fun N10 f10 => ?_))
        rw [hr]
        refine PW.e ?_
        have l1 : (0 : Int32).toInt = 0 := by decide
        have l2 : (3600 : Int32).toInt = 3600 := by decide
        have fc := p1.tr r1
        have fm := p3.tr r2
        generalize N6.1 (60, 0) 11 = v at r5 r6 r7 f10
        rw [r5] at e9
        have t10 : tA M10 N10 n a6 := by
          rw [e10, e9, f10]
          exact r4.cong (by rw [sI_ne (kd_ne (by omega)), sI_ne (kd_ne (by omega))]) (by rw [sI_ne (kd_ne (by omega)), sI_ne (kd_ne (by omega))]) (fun k _ _ => by rw [sI_60, if_neg (by omega)]) (sI_ne (by decide)) (sI_ne (by decide))
        have fN : ∀ k, k < 7 ∨ 11 < k → N10.1 (60, 0) k = if k = 25 then v else if k = 26 then 1 else N.1 (60, 0) k := fun k hk => by rw [f10, sI_60, fm.2.1 k hk, f0, sI_60]
        have g5 : ∀ k, M10.1 (5, q) k = if k = 6 then v else M.1 (5, q) k := fun k => by rw [e10, sI_ne (kd_ne (by omega)), e9, sI_rr, fc.1 _ (kd_ne (by omega)) (kd_ne (by omega))]
        have z6 : ∀ k, k ≠ 6 → k ≠ 7 → M10.1 (6, 0) k = if k = 5 then 1 else M.1 (6, 0) k := fun k x y => by rw [e10, sI_rr, e9, sI_ne (kd_ne (by omega)), fc.2.1 k x y]
        obtain ⟨d1, d2, d3⟩ := h.fl3 (M1 := M10) (N1 := N10) t10 (fun k w x y => by rw [z6 k x y, if_neg w]) (fun r x y z => by rw [e10, sI_ne z, e9, sI_ne x, fc.1 r y z]) (by rw [e10, e9]; exact fc.2.2) (fun k _ _ x => by rw [g5, if_neg x]) (fun r hr => by rw [f10, sI_ne hr, fm.1 r hr, f0, sI_ne hr]) (fun k hk hk2 => by rw [fN k hk, if_neg (by omega), if_neg (by omega)]) (by rw [f10]; exact fm.2.2.trans (by rw [f0]; rfl)) ⟨by rw [fN 23 (by omega), if_neg (by omega), if_neg (by omega)]; exact hp, by rw [fN 23 (by omega), if_neg (by omega), if_neg (by omega), g5, if_neg (by omega)]; exact e4⟩ ⟨by rw [fN 24 (by omega), if_neg (by omega), if_neg (by omega)]; exact ha, by rw [fN 24 (by omega), if_neg (by omega), if_neg (by omega), g5, if_neg (by omega)]; exact ea⟩ ⟨by rw [fN 25 (by omega), if_pos rfl]; exact ⟨by omega, by omega⟩, by rw [fN 25 (by omega), if_pos rfl, g5, if_pos rfl]⟩ ⟨by rw [z6 5 (by omega) (by omega), if_pos rfl, fN 26 (by omega), if_neg (by omega), if_pos rfl], Or.inr (by rw [fN 26 (by omega), if_neg (by omega), if_pos rfl])⟩
        exact Or.inl ⟨rfl, ⟨a6, by omega, d1⟩, d2, d3, by rw [z6 4 (by omega) (by omega), if_neg (by omega)]⟩
      · refine PW.cNF hr (PW.mh fun N10 f10 => ?_)
        rw [hr, f10]
        exact PW.e (Or.inr ⟨rfl, FL.pre p1.w w3 ((z q).s6 (by omega))⟩)
    · exact PW.cF c (PW.mF c (PW.ref (Or.inr ⟨rfl, FL_mk q h.2.1 3 (by decide)⟩)))
