/-! THE TEXT'S LOOP -/
/-- both sides run to ends that are told by what holds there -/
def PX (dc dm : Nat) (Kc Km : pwK) (R : Int32 → eg_H → eg_H → Prop) : Prop := ∃ (r : Int32) (P Q : eg_H → Prop), (∀ κ d, dc ≤ d → Kc κ d (fun x X => x = r ∧ P X)) ∧ (∀ κ d, dm ≤ d → Km κ d (fun x X => x = r ∧ Q X)) ∧ ∀ M1 N1, P M1 → Q N1 → R r M1 N1
theorem PX.c {dc dm : Nat} {Kc Km Kc' : pwK} {R : Int32 → eg_H → eg_H → Prop} (h : ∀ κ d, dc ≤ d → ∀ post, Kc' κ d post → Kc κ d post) (k : PX dc dm Kc' Km R) : PX dc dm Kc Km R := by
  obtain ⟨r, P, Q, a, b, c⟩ := k
  exact ⟨r, P, Q, fun κ d hd => h κ d hd _ (a κ d hd), b, c⟩
theorem PX.m {dc dm : Nat} {Kc Km Km' : pwK} {R : Int32 → eg_H → eg_H → Prop} (h : ∀ κ d, dm ≤ d → ∀ post, Km' κ d post → Km κ d post) (k : PX dc dm Kc Km' R) : PX dc dm Kc Km R := by
  obtain ⟨r, P, Q, a, b, c⟩ := k
  exact ⟨r, P, Q, a, fun κ d hd => h κ d hd _ (b κ d hd), c⟩
theorem PX.e {dc dm : Nat} {R : Int32 → eg_H → eg_H → Prop} {r : Int32} {M1 N1 : eg_H} (h : R r M1 N1) : PX dc dm (fun _ _ post => post r M1) (fun _ _ post => post r N1) R := ⟨r, fun X => X = M1, fun X => X = N1, fun _ _ _ => ⟨rfl, rfl⟩, fun _ _ _ => ⟨rfl, rfl⟩, fun X Y hX hY => by rw [hX, hY]; exact h⟩
theorem T_f {κ : eg_K} {d : Nat} (hd : 1 ≤ d) {post : Int32 → eg_H → Prop} {M : eg_H} {n j : Int32} (hf : ¬ M.1 (6, 0) 2 = 0) (k : post (-1) M) : eg_W κ gC mtX10_text d (eQI κ gC post) 34 [(0, vR (10, 0)), (1, vI n), (2, vI j)] [] M := by
  have k72 : eg_W κ gC mtX10_text d (eQI κ gC post) 72 [(0, vR (10, 0))] [] M := vX10_text_72 hd M ⟨fun z => absurd z hf, fun _ => k⟩
  refine vX10_text_34 hd M n j ⟨fun _ => k72, fun _ x e => ⟨fun _ => k72, fun z => ?_⟩⟩
  rw [e] at z
  unfold fX6_atEnd at z
  rw [if_pos hf] at z
  exact absurd z (by decide)
theorem RD.s4 {q n a : Nat} {M N : eg_H} {x : Int32} (h : RD q n a M N) : RD q n a (sI M (6, 0) 4 x) N := by
  refine h.mk (fun k hk => by rw [sI_i, if_neg (by omega)]) (fun k hk => sI_ne (kd_ne (by omega))) rfl (fun _ _ => rfl) rfl (h.2.1.cong (sI_ne (by decide)) (sI_ne (by decide)) (fun _ _ _ => rfl) rfl rfl) (h.2.2.1.cong (fun r hr => ?_) ⟨fun _ _ _ => rfl, fun _ _ _ _ _ _ => rfl, fun _ _ => ⟨rfl, rfl, fun _ _ => rfl⟩⟩) ?_
  · obtain ⟨u1, _, _⟩ := pOf_n hr
    exact sI_ne (fun z => u1 (by rw [z]))
  · rw [sI_i, if_neg (by decide)]
    exact h.2.2.2.1
theorem T_L {q n : Nat} {M0 N0 : eg_H} {R : Int32 → eg_H → eg_H → Prop} (hF : ∀ M1 N1, FL q M0 N0 M1 N1 → R (-1) M1 N1) (hE : ∀ (i : Nat) (M N : eg_H), i ≤ n → RD q n n M N → wC q M0 M → wM N0 N → M.1 (6, 0) 4 = nI i → PX 12 9 (fun κ d post => eg_W κ gC mtX10_text d (eQI κ gC post) 72 [(0, vR (10, 0))] [] M) (fun κ d post => eCV κ gM mtX11_keepText d [vR (60, 0)] N (fun Z => post (nI i) Z)) R) : ∀ (k a i : Nat) (M N : eg_H), n - a ≤ k → RD q n a M N → wC q M0 M → wM N0 N → M.1 (6, 0) 4 = nI i → i ≤ a → PX 12 9 (fun κ d post => eg_W κ gC mtX10_text d (eQI κ gC post) 34 [(0, vR (10, 0)), (1, vI (nI n)), (2, vI (nI i))] [] M) (fun κ d post => eg_W κ gM mtX11_text d (eQI κ gM post) 55 [(0, vR (60, 0)), (2, vI (nI i))] [] N) R := by
  intro k
  induction k with
  | zero =>
    intro a i M N hk h hc hm h4 hi
    obtain ⟨⟨t1, t2, t3⟩, _, _, e, e1, e2, _, _, _, _, tk, en⟩ := h.2.1
    have an : a = n := by omega
    have e39 : M.1 (9, 0) 4 = 39 := by
      rcases en with w | w
      · exact w.1
      · omega
    have m8 : N.1 (60, 0) 8 = 0 := by
      obtain ⟨t, ek, ht, hq⟩ := tkN tk
      have t39 : t = 39 := (nIq ht 39 (by omega)).mp (ek.symm.trans e39)
      rcases hq with y | y | y | y | y | y | y
      · exact y.2
      · omega
      · omega
      · omega
      · omega
      · omega
      · omega
    refine PX.c (fun κ d hd post z => vX10_text_34 (by omega) M _ _ ⟨fun _ => z, fun _ x ex => ⟨fun _ => z, fun x0 => ?_⟩⟩) (PX.m (fun κ d hd post z => vX11_text_55 (by omega) N _ ⟨fun _ => z, fun y => absurd m8 y⟩) (hE i M N (by omega) (an ▸ h) hc hm h4))
    rw [ex] at x0
    unfold fX6_atEnd at x0
    rw [if_neg (fun y => y h.2.2.2.2.2.2.1), if_neg (fun y => y e39)] at x0
    exact absurd x0 (by decide)
  | succ k ih =>
    intro a i M N hk h hc hm h4 hi
    have hA := h.2.1
    obtain ⟨⟨t1, t2, t3⟩, _, _, e, e1, e2, _, _, _, _, tk, en⟩ := hA
    obtain ⟨t, ek, ht, hq⟩ := tkN tk
    by_cases e39 : M.1 (9, 0) 4 = 39
    · have an : a = n := by
        rcases en with w | w
        · exact w.2
        · exact absurd e39 w.1
      exact ih a i M N (by omega) h hc hm h4 hi
    · have an : a < n := by
        rcases en with w | w
        · exact absurd w.1 e39
        · omega
      have m8 : ¬ N.1 (60, 0) 8 = 0 := by
        rcases hq with y | y | y | y | y | y | y
        · exact absurd (by rw [ek, y.1]; rfl) e39
        · rw [y.2.1]; decide
        · rw [y.2.1]; decide
        · rw [y.2.1]; decide
        · rw [y.2.1]; decide
        · rw [y.2.2.1]; decide
        · rw [y.2]; decide
      have ni : ¬ nI n ≤ nI i := fun z => by
        have := (nI_le' (by omega) (by omega)).mp z
        omega
      have at0 : ∀ x, x = fX6_atEnd M → x = 0 := fun x ex => by
        rw [ex]
        unfold fX6_atEnd
        rw [if_neg (fun y => y h.2.2.2.2.2.2.1), if_pos e39]
      obtain ⟨r, M1, N1, ca, cb, cR⟩ := LINE0 h
      rcases cR with ⟨er, ⟨a1, ha1, h1⟩, wc1, wm1, e4⟩ | ⟨er, fl⟩
      · have hr : ¬ r = 0 := by rw [er]; decide
        rcases SGN h1.2.1 (w := 36) (by omega) with ⟨s1, s2⟩ | ⟨s1, s2⟩
        · obtain ⟨M2, N2, da, db, ⟨p1, p2⟩, ⟨p3, p4⟩, a2, p5, p6, p7⟩ := ADV h1.2.1
          have h2 : RD q n a2 (sI M2 (6, 0) 4 (M2.1 (6, 0) 4 + 1)) N2 := (h1.f p1 p3 p7).s4
          have q4 : (sI M2 (6, 0) 4 (M2.1 (6, 0) 4 + 1)).1 (6, 0) 4 = nI (i + 1) := by
            rw [sI_i, if_pos ⟨rfl, rfl⟩, p2, e4, h4, nI_1]
          have := ih a2 (i + 1) _ N2 (by omega) h2 (hc.tr (wc1.tr (p1.w.tr (wC.s (Or.inr (Or.inl rfl)))))) (hm.tr (wm1.tr p3.w)) q4 (by omega)
          refine PX.c (fun κ d hd post z => vX10_text_34 (by omega) M _ _ ⟨fun y => absurd y ni, fun _ x ex => ⟨fun y => absurd (at0 x ex) y, fun _ => ⟨_, ca κ (d - 1) (by omega), fun x5 M6 hZ => ⟨fun y => absurd (hZ.1.symm.trans y) hr, fun _ => ⟨fun Z => Z = sI M2 (6, 0) 4 (M2.1 (6, 0) 4 + 1), ?_, fun M10 hM10 x12 e12 => ?_⟩⟩⟩⟩⟩) (PX.m (fun κ d hd post z => vX11_text_55 (by omega) N _ ⟨fun y => absurd y m8, fun _ => ⟨fun x Z => x = 1 ∧ Z = N2, cb κ (d - 1) (by omega) _ (fun r' N' hr' => ⟨fun y => absurd (hr'.1.symm.trans y) hr, fun _ => ?_⟩), fun x4 M5 hZ => ⟨fun _ x8 e8 => ?_, fun y => absurd (hZ.1.symm.trans y) (by decide)⟩⟩⟩) this)
          · rw [hZ.2]
            exact eg_S.of rfl (Nat.le_of_ble_eq_true rfl) (vX6_endLine_0 (by omega) M1 ⟨fun _ => ⟨_, da κ (d - 1 - 1) (by omega), fun Z hZ M4 e4 => by rw [e4, hZ]⟩, fun y => absurd s1 y⟩)
          · rw [hM10, e12, nI_1]; exact z
          · rw [hr'.2]
            refine vX11_lineRead_201 (by omega) N1 _ ⟨fun _ x3 e3 => ⟨fun _ => ⟨_, db κ (d - 1 - 1) (by omega), fun Z hZ => ⟨rfl, hZ⟩⟩, fun y => ?_⟩, fun y => absurd (hr'.1.symm.trans y) hr⟩
            rw [e3] at y
            exact absurd (s2.symm.trans y) (by decide)
          · rw [hZ.2, e8, nI_1]; exact z
        · have fl1 : FL q M0 N0 (fX6_refuse M1 1).2 (fX11_wrong N1 1).2 := (FL_mk q h1.2.1 1 (by decide)).pre (hc.tr wc1) (hm.tr wm1)
          have f2 : ¬ (fX6_refuse M1 1).2.1 (6, 0) 2 = 0 := by rw [fl1.2.2.1]; exact fl1.2.2.2.2
          refine PX.c (fun κ d hd post z => vX10_text_34 (by omega) M _ _ ⟨fun y => absurd y ni, fun _ x ex => ⟨fun y => absurd (at0 x ex) y, fun _ => ⟨_, ca κ (d - 1) (by omega), fun x5 M6 hZ => ⟨fun y => absurd (hZ.1.symm.trans y) hr, fun _ => ⟨fun Z => Z = (fX6_refuse M1 1).2, ?_, fun M10 hM10 x12 e12 => ?_⟩⟩⟩⟩⟩) (PX.m (fun κ d hd post z => vX11_text_55 (by omega) N _ ⟨fun y => absurd y m8, fun _ => ⟨fun x Z => x = 0 ∧ Z = (fX11_wrong N1 1).2, cb κ (d - 1) (by omega) _ (fun r' N' hr' => ⟨fun y => absurd (hr'.1.symm.trans y) hr, fun _ => ?_⟩), fun x4 M5 hZ => ⟨fun y => absurd hZ.1 y, fun _ => ?_⟩⟩⟩) (PX.e (hF _ _ fl1)))
          · rw [hZ.2]
            exact eg_S.of rfl (Nat.le_of_ble_eq_true rfl) (vX6_endLine_0 (by omega) M1 ⟨fun y => absurd y s1, fun _ x6 M5 e5 => congrArg Prod.snd e5⟩)
          · rw [hM10]
            exact T_f (by omega) f2 z
          · rw [hr'.2]
            refine vX11_lineRead_201 (by omega) N1 _ ⟨fun _ x3 e3 => ⟨fun y => absurd (e3.trans s2) y, fun _ x8 M7 e7 => lx_f (P := fun x Z => x = 0 ∧ Z = (fX11_wrong N1 1).2) e7 (fun _ => ⟨rfl, congrArg Prod.snd e7⟩)⟩, fun y => absurd (hr'.1.symm.trans y) hr⟩
          · rw [hZ.2]; exact z
      · have fl1 : FL q M0 N0 M1 N1 := fl.pre hc hm
        have f2 : ¬ M1.1 (6, 0) 2 = 0 := by rw [fl1.2.2.1]; exact fl1.2.2.2.2
        refine PX.c (fun κ d hd post z => vX10_text_34 (by omega) M _ _ ⟨fun y => absurd y ni, fun _ x ex => ⟨fun y => absurd (at0 x ex) y, fun _ => ⟨_, ca κ (d - 1) (by omega), fun x5 M6 hZ => ⟨fun _ x9 _ => ?_, fun y => absurd (hZ.1.trans er) y⟩⟩⟩⟩) (PX.m (fun κ d hd post z => vX11_text_55 (by omega) N _ ⟨fun y => absurd y m8, fun _ => ⟨fun x Z => x = 0 ∧ Z = N1, cb κ (d - 1) (by omega) _ (fun r' N' hr' => ⟨fun _ => ⟨rfl, hr'.2⟩, fun y => absurd (hr'.1.trans er) y⟩), fun x4 M5 hZ => ⟨fun y => absurd hZ.1 y, fun _ => ?_⟩⟩⟩) (PX.e (hF _ _ fl1)))
        · rw [hZ.2]
          exact T_f (by omega) f2 z
        · rw [hZ.2]; exact z
