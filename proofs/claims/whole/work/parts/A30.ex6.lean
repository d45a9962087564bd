/-! EXPRESSIONS: behind a value -/
theorem PW.cv1 {dc dm : Nat} {mc mm : eg_M} {ac am : List eg_V} {ec em : Nat} {M N : eg_H} {Q : eg_H → eg_H → Prop} {U V : eg_H → pwK} {R : Int32 → eg_H → eg_H → Prop} (h : PV mc mm ac am ec em M N Q) (hc : ec + 1 < dc) (hm : em < dm) (k : ∀ M1 N1, Q M1 N1 → PW dc dm (U M1) (V N1) R) : PW dc dm (fun κ d post => eCV κ gC mc (d - 1) ac M (fun Z => U Z κ d post)) (fun κ d post => eCV κ gM mm d am N (fun Z => V Z κ d post)) R := by
  obtain ⟨M1, N1, a, b, c⟩ := h
  exact PW.c (fun κ d hd post z => ⟨_, a κ (d - 1 - 1) (by omega), fun Z hZ => by rw [hZ]; exact z⟩) (PW.m (fun κ d hd post z => ⟨_, b κ (d - 1) (by omega), fun Z hZ => by rw [hZ]; exact z⟩) (k M1 N1 c))
theorem PW.ce1 {dc dm ec : Nat} {mc : eg_M} {ac : List eg_V} {M M1 : eg_H} {r : Int32} {U : Int32 → eg_H → pwK} {Km : pwK} {R : Int32 → eg_H → eg_H → Prop} (h : ∀ κ d, ec ≤ d → eg_S κ gC mc d ac M (eQI κ gC (fun x X => x = r ∧ X = M1))) (hc : ec + 1 < dc) (k : PW dc dm (U r M1) Km R) : PW dc dm (fun κ d post => eCI κ gC mc (d - 1) ac M (fun x Z => U x Z κ d post)) Km R :=
  PW.c (fun κ d hd post z => ⟨_, h κ (d - 1 - 1) (by omega), fun x Z hZ => by rw [hZ.1, hZ.2]; exact z⟩) k
theorem PW.mv {dc dm em : Nat} {mm : eg_M} {am : List eg_V} {N N1 : eg_H} {V : eg_H → pwK} {Kc : pwK} {R : Int32 → eg_H → eg_H → Prop} (h : ∀ κ d, em ≤ d → eg_S κ gM mm d am N (eQV κ gM (fun X => X = N1))) (hm : em < dm) (k : PW dc dm Kc (V N1) R) : PW dc dm Kc (fun κ d post => eCV κ gM mm d am N (fun Z => V Z κ d post)) R :=
  PW.m (fun κ d hd post z => ⟨_, h κ (d - 1) (by omega), fun Z hZ => by rw [hZ]; exact z⟩) k
def relQ (q a rc k : Nat) (L : List Nat) (M N M1 N1 : eg_H) : Prop := ∃ l1 k1, core q a M1 N1 (drp rc L) l1 k1 ∧ l1.length = bin (drp rc L) + 1 ∧ k1 + nop (drp rc L) = k + nop L ∧ k ≤ k1 ∧ rC q k M M1 ∧ rM k N N1
theorem RELV {q a rc rm k : Nat} {L l : List Nat} {M N : eg_H} (q2 : q < 2) (hrc : 1 ≤ rc ∧ rc ≤ 6) (hrm : 1 ≤ rm ∧ rm ≤ 6) (eq : M.2.2 (6, 0) 1 = (5, q)) (hc : core q a M N L l k) (hl : l.length = bin L + 1) (hag : agr rc rm L) : PV mtX6_releaseSigns mtX11_bind [vR (6, 0), vI (nI rc)] [vR (60, 0), vI (nI rm)] 1 1 M N (relQ q a rc k L M N) := by
  obtain ⟨M1, N1, l1, k1, a1, a2, a3⟩ := REL q2 hrc hrm L l k M N eq hc hl hag
  exact ⟨M1, N1, fun κ d hd => eg_S.of rfl (Nat.le_of_ble_eq_true rfl) (a1 κ d hd), fun κ d hd => eg_S.of rfl (Nat.le_of_ble_eq_true rfl) (a2 κ d hd), l1, k1, a3⟩
theorem core_pop {q a k t : Nat} {M N : eg_H} {L l : List Nat} (h : core q a M N (t :: L) l k) : core q a (sI M (6, 0) 10 (nI L.length)) (sI N (60, 0) 43 (nI L.length)) L l k := by
  obtain ⟨⟨c1, c2, c3, c4⟩, ⟨c5, c6, c7, c8⟩, c9, c10, c11⟩ := h
  have n0 : nop (t :: L) = nop L + if t = 34 then 0 else 1 := rfl
  have l0 : lev (t :: L) = lev L + if t = 34 then 1 else 0 := rfl
  refine ⟨⟨by rw [sI_rr, if_pos rfl], by rw [sI_60, if_pos rfl], ?_, by omega⟩, ⟨?_, ?_, c7, by omega⟩, ?_, ?_, ?_⟩
  · rw [sI_ne (by decide), sI_ne (by decide)]; exact c3.2
  · rw [sI_ne (kd_ne (by omega))]; exact c5
  · rw [sI_60, if_neg (by omega)]; exact c6
  · rw [sI_ne (kd_ne (by omega)), sI_ne (by decide), sI_ne (by decide), sI_ne (by decide)]; exact c9
  · rw [sI_60, if_neg (by omega)]; exact c10
  · rw [sI_ne (by decide)]; exact c11
theorem x_close {q a k b : Nat} {M N M1 N1 : eg_H} {L l l1 L' : List Nat} {k1 : Nat} {Y : Int32} (xp : XP q a M N L l k b 0 Y) (hD : drp 1 L = 34 :: L') (hc : core q a M1 N1 (drp 1 L) l1 k1) (hl : l1.length = bin (drp 1 L) + 1) (hk : k1 + nop (drp 1 L) = k + nop L) (rc : rC q k M M1) (rm : rM k N N1) : XP q a (sI (sI M1 (6, 0) 10 (nI L'.length)) (6, 0) 11 (nI (lev L'))) (sI (sI N1 (60, 0) 43 (nI L'.length)) (60, 0) 45 (nI (lev L'))) L' l1 k1 b 0 Y := by
  obtain ⟨p1, p2, p3, ⟨b1, b2, b3, b4⟩, p5, p6, p7, p8⟩ := xp
  have ok : okB b (34 :: L') := by rw [← hD]; exact drp_ok b4
  rw [hD] at hc hl hk
  have m6 : ∀ j, j ≠ 10 → j ≠ 11 → (sI (sI M1 (6, 0) 10 (nI L'.length)) (6, 0) 11 (nI (lev L'))).1 (6, 0) j = M.1 (6, 0) j := fun j x y => by rw [sI_rr, if_neg y, sI_rr, if_neg x]; exact rc.2.2.2.1 j x
  have n60 : ∀ j, j ≠ 22 → j ≠ 43 → j ≠ 44 → j ≠ 45 → (sI (sI N1 (60, 0) 43 (nI L'.length)) (60, 0) 45 (nI (lev L'))).1 (60, 0) j = N.1 (60, 0) j := fun j x y z w => by rw [sI_60, if_neg w, sI_60, if_neg y]; exact rm.2.2.1 j x y z
  have n0 : nop (34 :: L') = nop L' := rfl
  refine ⟨(core_pop hc).cg (by rw [sI_rr, if_neg (by omega)]) (fun r hr => ?_) (fun r x y => sI_ne (kd_ne (by omega))) (fun j hj => by rw [sI_60, if_neg (by omega)]), ?_, ⟨by rw [sI_rr, if_pos rfl], by rw [sI_60, if_pos rfl]⟩, ⟨?_, b2, ok.1 rfl, ok.2⟩, ⟨?_, ?_⟩, ⟨?_, ?_⟩, ⟨?_, ?_⟩, Or.inr ⟨rfl, hl⟩⟩
  · have r6 : r ≠ (6, 0) := by
      rcases hr with z | z | z
      · rw [z]; decide
      · rw [z]; exact kd_ne (by omega)
      · rw [z]; exact kd_ne (by omega)
    rw [sI_ne r6]
  · show M1.2.2 (6, 0) 1 = _
    rw [rc.2.2.2.2]; exact p2
  · rw [m6 12 (by omega) (by omega)]; exact b1
  · rw [m6 13 (by omega) (by omega)]; exact p5.1
  · rw [n60 47 (by omega) (by omega) (by omega) (by omega)]; exact p5.2
  · rw [m6 14 (by omega) (by omega)]; exact p6.1
  · rw [n60 48 (by omega) (by omega) (by omega) (by omega)]; exact p6.2
  · rw [m6 8 (by omega) (by omega), p7.1]; congr 1; omega
  · rw [n60 46 (by omega) (by omega) (by omega) (by omega), p7.2]; congr 1; omega
theorem x_sign {q a k1 b' t o : Nat} {M1 N1 Mf Nf : eg_H} {D l1 : List Nat} {Y' : Int32} (hv : vsb t = true) (t15 : t ≠ 15) (t34 : t ≠ 34) (eq : M1.2.2 (6, 0) 1 = (5, q)) (co : core q a M1 N1 D l1 k1) (hl : l1.length = bin D + 1) (ho : lev D = o) (h11 : M1.1 (6, 0) 11 = nI o ∧ N1.1 (60, 0) 45 = nI o) (h8 : M1.1 (6, 0) 8 = nI (k1 + nop D + 1)) (c64 : k1 + nop D < 64) (h6 : ∀ j, Mf.1 (6, 0) j = if j = 12 then nI b' else if j = 14 then Y' else if j = 13 then 1 else if j = 10 then nI (D.length + 1) else M1.1 (6, 0) j) (hf : ∀ r, r ≠ (6, 0) → Mf.1 r = (hsC M1 D.length t).1 r) (h2 : Mf.2 = M1.2) (h60 : ∀ j, Nf.1 (60, 0) j = if j = 48 then Y' else if j = 47 then 1 else if j = 43 then nI (D.length + 1) else if j = 46 then nI (k1 + nop D + 1) else N1.1 (60, 0) j) (hfn : ∀ r, r ≠ (60, 0) → Nf.1 r = (hsM N1 D.length t).1 r) (bb : b' < 512) (bt : b'.testBit o = hc (t :: D)) (bo : okB b' D) (hy : ¬ Y' = 0 → hc (t :: D) = false) : XP q a Mf Nf (t :: D) l1 k1 b' 1 Y' := by
  have n0 : nop (t :: D) = nop D + 1 := by show nop D + (if t = 34 then 0 else 1) = _; rw [if_neg t34]
  have l0 : lev (t :: D) = lev D := by show lev D + (if t = 34 then 1 else 0) = _; rw [if_neg t34]; rfl
  have b0 : bin (t :: D) = bin D + 1 := by show bin D + (if t = 15 ∨ t = 34 then 0 else 1) = _; rw [if_neg (by omega)]
  refine ⟨(core_push (t := t) co hv (by rw [l0]; exact co.1.2.2.2) (by rw [n0]; omega)).cg ?_ (fun r hr => hf r ?_) (fun r x y => hfn _ (kd_ne (by omega))) (fun j hj => ?_), by rw [h2]; exact eq, ⟨?_, ?_⟩, ⟨?_, bb, by rw [l0, ho]; exact bt, ⟨fun z => absurd z t34, bo⟩⟩, ⟨?_, ?_⟩, ⟨?_, ?_⟩, ⟨?_, ?_⟩, Or.inl ⟨rfl, by rw [b0]; exact hl, hy⟩⟩
  · rw [h6, hsC_6, if_neg (by omega), if_neg (by omega), if_neg (by omega)]
  · rcases hr with z | z | z
    · rw [z]; decide
    · rw [z]; exact kd_ne (by omega)
    · rw [z]; exact kd_ne (by omega)
  · rw [h60, hsM_60, if_neg (by omega), if_neg (by omega)]
    by_cases c : j = 43
    · rw [if_pos c, if_pos c]
    · rw [if_neg c, if_neg c, if_neg (by omega)]
  · rw [h6, if_neg (by omega), if_neg (by omega), if_neg (by omega), if_neg (by omega), l0, ho]; exact h11.1
  · rw [h60, if_neg (by omega), if_neg (by omega), if_neg (by omega), if_neg (by omega), l0, ho]; exact h11.2
  · rw [h6, if_pos rfl]
  · rw [h6, if_neg (by omega), if_neg (by omega), if_pos rfl]
  · rw [h60, if_neg (by omega), if_pos rfl]
  · rw [h6, if_neg (by omega), if_pos rfl]
  · rw [h60, if_pos rfl]
  · rw [h6, if_neg (by omega), if_neg (by omega), if_neg (by omega), if_neg (by omega), n0]; exact h8
  · rw [h60, if_neg (by omega), if_neg (by omega), if_neg (by omega), if_pos rfl, n0]; rfl
def sgb (t : Nat) : Bool := t == 13 || t == 14 || (24 ≤ t && t ≤ 33)
theorem sgb_i {t : Nat} : sgb t = true ↔ t = 13 ∨ t = 14 ∨ (24 ≤ t ∧ t ≤ 33) := by
  unfold sgb
  simp only [Bool.or_eq_true, beq_iff_eq, Bool.and_eq_true, decide_eq_true_eq]
  omega
theorem w47 {κ : eg_K} {d n at0 t : Nat} (hd : 1 ≤ d) {post : Int32 → eg_H → Prop} {M N : eg_H} (ht : tA M N n at0) (ek : M.1 (9, 0) 4 = nI t) (ht40 : t ≤ 40) (w : eg_W κ gM mtX11_signs d (eQI κ gM post) 147 [(0, vR (60, 0))] [vI (if sgb t = true then nI (wmt t) else 0)] N) : eg_W κ gM mtX11_signs d (eQI κ gM post) 47 [(0, vR (60, 0))] [] N := by
  obtain ⟨t', ek', h40, hk⟩ := tK ht
  have tt : t' = t := (nI_eq' (by omega) (by omega)).mp (ek'.symm.trans ek)
  rw [tt] at hk
  have kn : ∀ c, c < 1000 → (M.1 (9, 0) 4 = nI c ↔ t = c) := fun c hc => by rw [ek]; exact nIq ht40 c hc
  refine vX11_signs_47 hd N (fun x2 hx2 => ?_)
  rcases KEYi ht (w := 14) (by omega) with ⟨k1, k2⟩ | ⟨k1, k2⟩
  · have e := hx2.trans k2
    have et := (kn 14 (by omega)).mp k1
    refine ⟨fun y => absurd (e.symm.trans y) (by decide), fun _ => ?_⟩
    rw [et] at w
    exact w
  · have e := hx2.trans k2
    have n14 : t ≠ 14 := fun z => k1 ((kn 14 (by omega)).mpr z)
    refine ⟨fun _ x5 hx5 => ?_, fun y => absurd e y⟩
    rcases KEYi ht (w := 13) (by omega) with ⟨k1, k2⟩ | ⟨k1, k2⟩
    · have e := hx5.trans k2
      have et := (kn 13 (by omega)).mp k1
      refine ⟨fun y => absurd (e.symm.trans y) (by decide), fun _ => ?_⟩
      rw [et] at w
      exact w
    · have e := hx5.trans k2
      have n13 : t ≠ 13 := fun z => k1 ((kn 13 (by omega)).mpr z)
      refine ⟨fun _ => ⟨fun y8 => ?_, fun y8 => ?_⟩, fun y => absurd e y⟩
      · have n28 : ¬ (28 ≤ t ∧ t < 34) := fun z => by
          rcases hk with y | y | y | y | y | y | y
          · omega
          · omega
          · omega
          · omega
          · omega
          · exact y8 y.2.2.1
          · omega
        intro x9 hx9
        rcases SGN ht (w := 24) (by omega) with ⟨k1, k2⟩ | ⟨k1, k2⟩
        · have e := hx9.trans k2
          have et := (kn 24 (by omega)).mp k1
          refine ⟨fun y => absurd (e.symm.trans y) (by decide), fun _ => ?_⟩
          rw [et] at w
          exact w
        · have e := hx9.trans k2
          have n24 : t ≠ 24 := fun z => k1 ((kn 24 (by omega)).mpr z)
          refine ⟨fun _ x12 hx12 => ?_, fun y => absurd e y⟩
          rcases SGN ht (w := 25) (by omega) with ⟨k1, k2⟩ | ⟨k1, k2⟩
          · have e := hx12.trans k2
            have et := (kn 25 (by omega)).mp k1
            refine ⟨fun y => absurd (e.symm.trans y) (by decide), fun _ => ?_⟩
            rw [et] at w
            exact w
          · have e := hx12.trans k2
            have n25 : t ≠ 25 := fun z => k1 ((kn 25 (by omega)).mpr z)
            refine ⟨fun _ x15 hx15 => ?_, fun y => absurd e y⟩
            rcases SGN ht (w := 26) (by omega) with ⟨k1, k2⟩ | ⟨k1, k2⟩
            · have e := hx15.trans k2
              have et := (kn 26 (by omega)).mp k1
              refine ⟨fun y => absurd (e.symm.trans y) (by decide), fun _ => ?_⟩
              rw [et] at w
              exact w
            · have e := hx15.trans k2
              have n26 : t ≠ 26 := fun z => k1 ((kn 26 (by omega)).mpr z)
              refine ⟨fun _ x18 hx18 x19 hx19 => ?_, fun y => absurd e y⟩
              rcases SGN ht (w := 27) (by omega) with ⟨k1, k2⟩ | ⟨k1, k2⟩
              · have e : x18 = 1 := hx18.trans k2
                have et := (kn 27 (by omega)).mp k1
                rw [e, if_neg (by decide)] at hx19
                rw [et] at w
                rw [hx19]
                exact w
              · have e : x18 = 0 := hx18.trans k2
                have n27 : t ≠ 27 := fun z => k1 ((kn 27 (by omega)).mpr z)
                rw [e, if_pos rfl] at hx19
                have ns : ¬ sgb t = true := fun z => by
                  rw [sgb_i] at z
                  omega
                rw [if_neg ns] at w
                rw [hx19]
                exact w
      · have z : 28 ≤ t ∧ t < 34 ∧ N.1 (60, 0) 9 = nI (t - 28) := by
          rcases hk with y | y | y | y | y | y | y
          · exact absurd (y.2.symm.trans y8) (by decide)
          · exact absurd (y.2.1.symm.trans y8) (by decide)
          · exact absurd (y.2.1.symm.trans y8) (by decide)
          · exact absurd (y.2.1.symm.trans y8) (by decide)
          · exact absurd (y.2.1.symm.trans y8) (by decide)
          · exact ⟨y.1, y.2.1, y.2.2.2⟩
          · exact absurd (y.2.symm.trans y8) (by decide)
        have wt : wmt t = 5 + (t - 28) := by
          unfold wmt
          rw [if_neg (by omega), if_neg (by omega), if_neg (by omega), if_neg (by omega), if_neg (by omega), if_neg (by omega), if_neg (by omega), if_neg (by omega)]
          omega
        have i5 : (5 : Int32) + nI (t - 28) = nI (5 + (t - 28)) := by show nI 5 + nI (t - 28) = _; rw [nI_add]
        have sb : sgb t = true := sgb_i.mpr (by omega)
        rw [if_pos sb, wt, ← i5, ← z.2.2] at w
        exact w
