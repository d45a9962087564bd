/-! BOTH SIDES WALKED TOGETHER -/
def PW (dc dm : Nat) (Kc Km : eg_K → Nat → (Int32 → eg_H → Prop) → Prop) (R : Int32 → eg_H → eg_H → Prop) : Prop := ∃ r M1 N1, (∀ κ d, dc ≤ d → Kc κ d (fun x X => x = r ∧ X = M1)) ∧ (∀ κ d, dm ≤ d → Km κ d (fun x X => x = r ∧ X = N1)) ∧ R r M1 N1
abbrev pwK : Type := eg_K → Nat → (Int32 → eg_H → Prop) → Prop
section PWS
variable {dc dm : Nat} {Kc Km Kc' Km' X Y : pwK} {R : Int32 → eg_H → eg_H → Prop} {A B : Prop}
theorem PW.c (h : ∀ κ d, dc ≤ d → ∀ post, Kc' κ d post → Kc κ d post) (k : PW dc dm Kc' Km R) : PW dc dm Kc Km R := by
  obtain ⟨r, M1, N1, a, b, c⟩ := k
  exact ⟨r, M1, N1, fun κ d hd => h κ d hd _ (a κ d hd), b, c⟩
theorem PW.m (h : ∀ κ d, dm ≤ d → ∀ post, Km' κ d post → Km κ d post) (k : PW dc dm Kc Km' R) : PW dc dm Kc Km R := by
  obtain ⟨r, M1, N1, a, b, c⟩ := k
  exact ⟨r, M1, N1, a, fun κ d hd => h κ d hd _ (b κ d hd), c⟩
theorem PW.e {r : Int32} {M1 N1 : eg_H} (h : R r M1 N1) : PW dc dm (fun _ _ post => post r M1) (fun _ _ post => post r N1) R := ⟨r, M1, N1, fun _ _ _ => ⟨rfl, rfl⟩, fun _ _ _ => ⟨rfl, rfl⟩, h⟩
theorem PW.r {R' : Int32 → eg_H → eg_H → Prop} (h : ∀ r M1 N1, R' r M1 N1 → R r M1 N1) (k : PW dc dm Kc Km R') : PW dc dm Kc Km R := by
  obtain ⟨r, M1, N1, a, b, c⟩ := k
  exact ⟨r, M1, N1, a, b, h _ _ _ c⟩
theorem PI.w {mc mm : eg_M} {ac am : List eg_V} {M N : eg_H} (k : PW dc dm (fun κ d post => eg_S κ gC mc d ac M (eQI κ gC post)) (fun κ d post => eg_S κ gM mm d am N (eQI κ gM post)) R) : PI mc mm ac am dc dm M N R := k
/-! the class -/
theorem PW.cl (h : A) (n : ¬ B) (k : PW dc dm X Km R) : PW dc dm (fun κ d post => (A → X κ d post) ∧ (B → Y κ d post)) Km R :=
  PW.c (fun _ _ _ _ q => ⟨fun _ => q, fun b => absurd b n⟩) k
theorem PW.cr (n : ¬ A) (h : B) (k : PW dc dm Y Km R) : PW dc dm (fun κ d post => (A → X κ d post) ∧ (B → Y κ d post)) Km R :=
  PW.c (fun _ _ _ _ q => ⟨fun b => absurd b n, fun _ => q⟩) k
theorem PW.cT (h : A) (k : PW dc dm X Km R) : PW dc dm (fun κ d post => (A → X κ d post) ∧ (¬ A → Y κ d post)) Km R := PW.cl h (fun q => q h) k
theorem PW.cF (h : ¬ A) (k : PW dc dm Y Km R) : PW dc dm (fun κ d post => (A → X κ d post) ∧ (¬ A → Y κ d post)) Km R := PW.cr h h k
theorem PW.cNT (h : ¬ A) (k : PW dc dm X Km R) : PW dc dm (fun κ d post => (¬ A → X κ d post) ∧ (A → Y κ d post)) Km R := PW.cl h h k
theorem PW.cNF (h : A) (k : PW dc dm Y Km R) : PW dc dm (fun κ d post => (¬ A → X κ d post) ∧ (A → Y κ d post)) Km R := PW.cr (fun q => q h) h k
theorem PW.cg (g : A) (k : PW dc dm X Km R) : PW dc dm (fun κ d post => A ∧ X κ d post) Km R := PW.c (fun _ _ _ _ q => ⟨g, q⟩) k
theorem PW.ci (h : A) (k : PW dc dm X Km R) : PW dc dm (fun κ d post => A → X κ d post) Km R := PW.c (fun _ _ _ _ q _ => q) k
theorem PW.cp {M : eg_H} {q : Nat} {K : Nat → pwK} (hq : q < 2) (e : M.2.2 (6, 0) 1 = (5, q)) (k : PW dc dm (K q) Km R) : PW dc dm (fun κ d post => ∃ p : Nat, p < 2 ∧ M.2.2 (6, 0) 1 = (5, p) ∧ K p κ d post) Km R := PW.c (fun _ _ _ _ z => ⟨q, hq, e, z⟩) k
theorem PW.ch {α : Type} {E : α} {K : α → pwK} (k : ∀ Z, Z = E → PW dc dm (K Z) Km R) : PW dc dm (fun κ d post => ∀ Z : α, Z = E → K Z κ d post) Km R := PW.c (fun _ _ _ _ z Z hZ => by rw [hZ]; exact z) (k E rfl)
theorem PW.cf {f : Int32 × eg_H} {K : Int32 → eg_H → pwK} (k : PW dc dm (K f.1 f.2) Km R) : PW dc dm (fun κ d post => ∀ (x : Int32) (M1 : eg_H), (x, M1) = f → K x M1 κ d post) Km R := PW.c (fun κ d _ post z x M1 h => by have a : x = f.1 := congrArg Prod.fst h; have b : M1 = f.2 := congrArg Prod.snd h; rw [a, b]; exact z) k
/-! the model -/
theorem PW.ml (h : A) (n : ¬ B) (k : PW dc dm Kc X R) : PW dc dm Kc (fun κ d post => (A → X κ d post) ∧ (B → Y κ d post)) R :=
  PW.m (fun _ _ _ _ q => ⟨fun _ => q, fun b => absurd b n⟩) k
theorem PW.mr (n : ¬ A) (h : B) (k : PW dc dm Kc Y R) : PW dc dm Kc (fun κ d post => (A → X κ d post) ∧ (B → Y κ d post)) R :=
  PW.m (fun _ _ _ _ q => ⟨fun b => absurd b n, fun _ => q⟩) k
theorem PW.mT (h : A) (k : PW dc dm Kc X R) : PW dc dm Kc (fun κ d post => (A → X κ d post) ∧ (¬ A → Y κ d post)) R := PW.ml h (fun q => q h) k
theorem PW.mF (h : ¬ A) (k : PW dc dm Kc Y R) : PW dc dm Kc (fun κ d post => (A → X κ d post) ∧ (¬ A → Y κ d post)) R := PW.mr h h k
theorem PW.mNT (h : ¬ A) (k : PW dc dm Kc X R) : PW dc dm Kc (fun κ d post => (¬ A → X κ d post) ∧ (A → Y κ d post)) R := PW.ml h h k
theorem PW.mNF (h : A) (k : PW dc dm Kc Y R) : PW dc dm Kc (fun κ d post => (¬ A → X κ d post) ∧ (A → Y κ d post)) R := PW.mr (fun q => q h) h k
theorem PW.mg (g : A) (k : PW dc dm Kc X R) : PW dc dm Kc (fun κ d post => A ∧ X κ d post) R := PW.m (fun _ _ _ _ q => ⟨g, q⟩) k
theorem PW.mi (h : A) (k : PW dc dm Kc X R) : PW dc dm Kc (fun κ d post => A → X κ d post) R := PW.m (fun _ _ _ _ q _ => q) k
theorem PW.mh {α : Type} {E : α} {K : α → pwK} (k : ∀ Z, Z = E → PW dc dm Kc (K Z) R) : PW dc dm Kc (fun κ d post => ∀ Z : α, Z = E → K Z κ d post) R := PW.m (fun _ _ _ _ z Z hZ => by rw [hZ]; exact z) (k E rfl)
theorem PW.mf {f : Int32 × eg_H} {K : Int32 → eg_H → pwK} (k : PW dc dm Kc (K f.1 f.2) R) : PW dc dm Kc (fun κ d post => ∀ (x : Int32) (M1 : eg_H), (x, M1) = f → K x M1 κ d post) R := PW.m (fun κ d _ post z x M1 h => by have a : x = f.1 := congrArg Prod.fst h; have b : M1 = f.2 := congrArg Prod.snd h; rw [a, b]; exact z) k
/-! both -/
theorem PW.cv {mc mm : eg_M} {ac am : List eg_V} {ec em : Nat} {M N : eg_H} {Q : eg_H → eg_H → Prop} {U V : eg_H → pwK} (h : PV mc mm ac am ec em M N Q) (hc : ec < dc) (hm : em < dm) (k : ∀ M1 N1, Q M1 N1 → PW dc dm (U M1) (V N1) R) : PW dc dm (fun κ d post => eCV κ gC mc d ac M (fun Z => U Z κ d post)) (fun κ d post => eCV κ gM mm d am N (fun Z => V Z κ d post)) R := by
  obtain ⟨M1, N1, a, b, c⟩ := h
  exact PW.c (fun κ d hd post z => ⟨_, a κ (d - 1) (by omega), fun Z hZ => by rw [hZ]; exact z⟩) (PW.m (fun κ d hd post z => ⟨_, b κ (d - 1) (by omega), fun Z hZ => by rw [hZ]; exact z⟩) (k M1 N1 c))
theorem PW.cn {mc mm : eg_M} {ac am : List eg_V} {ec em : Nat} {M N : eg_H} {Q : Int32 → eg_H → eg_H → Prop} {U V : Int32 → eg_H → pwK} (h : PI mc mm ac am ec em M N Q) (hc : ec < dc) (hm : em < dm) (k : ∀ r M1 N1, Q r M1 N1 → PW dc dm (U r M1) (V r N1) R) : PW dc dm (fun κ d post => eCI κ gC mc d ac M (fun x Z => U x Z κ d post)) (fun κ d post => eCI κ gM mm d am N (fun x Z => V x Z κ d post)) R := by
  obtain ⟨r, M1, N1, a, b, c⟩ := h
  exact PW.c (fun κ d hd post z => ⟨_, a κ (d - 1) (by omega), fun x Z hZ => by rw [hZ.1, hZ.2]; exact z⟩) (PW.m (fun κ d hd post z => ⟨_, b κ (d - 1) (by omega), fun x Z hZ => by rw [hZ.1, hZ.2]; exact z⟩) (k r M1 N1 c))
theorem PW.adv {M N : eg_H} {n a : Nat} {U V : eg_H → pwK} (h : tA M N n a) (hc : 7 < dc) (hm : 2 < dm) (k : ∀ M1 N1 a1, fC M M1 → M1.1 (6, 0) = M.1 (6, 0) → fM N N1 → N1.1 (60, 0) 11 = N.1 (60, 0) 11 → a ≤ a1 → (¬ M.1 (9, 0) 4 = 39 → a < a1) → tA M1 N1 n a1 → PW dc dm (U M1) (V N1) R) : PW dc dm (fun κ d post => eCV κ gC mtX9_advance d [vR (9, 0)] M (fun Z => U Z κ d post)) (fun κ d post => eCV κ gM mtX11_token d [vR (60, 0)] N (fun Z => V Z κ d post)) R := by
  refine PW.cv (ADV h) hc hm ?_
  rintro M1 N1 ⟨⟨p1, p2⟩, ⟨p3, p4⟩, a1, p5, p6, p7⟩
  exact k M1 N1 a1 p1 p2 p3 p4 p5 p6 p7
theorem PW.num {M N : eg_H} {n a : Nat} {lo hi : Int32} {U V : eg_H → pwK} (h : tA M N n a) (hc : 8 < dc) (hm : 3 < dm) (hf : ∀ M1 N1, (∀ q, FL q M N M1 N1) → R 0 M1 N1) (k : ∀ M1 N1 a1 v, fC M M1 → fM N N1 → a < a1 → tA M1 N1 n a1 → M1.1 (6, 0) 6 = v → N1.1 (60, 0) 11 = v → lo.toInt ≤ v.toInt → v.toInt ≤ hi.toInt → PW dc dm (U M1) (V N1) R) : PW dc dm (fun κ d post => eCI κ gC mtX6_readNumber d [vR (6, 0), vI lo, vI hi] M (fun x Z => ((¬ x = 0) → U Z κ d post) ∧ (x = 0 → post 0 Z))) (fun κ d post => eCI κ gM mtX11_number d [vR (60, 0), vI lo, vI hi] N (fun x Z => ((¬ x = 0) → V Z κ d post) ∧ (x = 0 → post 0 Z))) R := by
  refine PW.cn (NUM h lo hi) hc hm ?_
  rintro r M1 N1 (⟨e, p1, p2, ⟨a1, p3, p4⟩, p5, p6, p7⟩ | ⟨e, p1⟩)
  · have hr : ¬ r = 0 := by rw [e]; decide
    exact PW.cNT hr (PW.mNT hr (k M1 N1 a1 _ p1 p2 p3 p4 p5 rfl p6 p7))
  · exact PW.cNF e (PW.mNF e (PW.e (hf M1 N1 p1)))
theorem PW.ref {M N : eg_H} {w : Int32} (h : R 0 (fX6_refuse M w).2 (fX11_wrong N w).2) : PW dc dm (fun _ _ post => ∀ (x : Int32) (M1 : eg_H), (x, M1) = fX6_refuse M w → post x M1) (fun _ _ post => ∀ (x : Int32) (M1 : eg_H), (x, M1) = fX11_wrong N w → post x M1) R :=
  PW.cf (K := fun x M1 _ _ post => post x M1) (PW.mf (K := fun x M1 _ _ post => post x M1) (PW.e (r := 0) h))
end PWS
/-- frames go with writes -/
theorem fC.s {P M : eg_H} {r : eg_R} {k : Nat} {x : Int32} (h : fC P M) (h9 : r ≠ (9, 0)) (h6 : r ≠ (6, 0)) : fC (sI P r k x) (sI M r k x) := by
  refine ⟨fun z a b => ?_, fun j a b => ?_, h.2.2⟩
  · funext j
    rw [sI_i, sI_i, h.1 z a b]
  · rw [sI_ne (Ne.symm h6), sI_ne (Ne.symm h6)]
    exact h.2.1 j a b
theorem fC.s6 {P M : eg_H} {k : Nat} {x : Int32} (h : fC P M) (hk : k = 6 ∨ k = 7) : fC P (sI M (6, 0) k x) := by
  refine ⟨fun z a b => ?_, fun j a b => ?_, h.2.2⟩
  · rw [sI_ne b]
    exact h.1 z a b
  · rw [sI_i, if_neg (by omega)]
    exact h.2.1 j a b
theorem fM.s {P N : eg_H} {r : eg_R} {k : Nat} {x : Int32} (h : fM P N) (h6 : r ≠ (60, 0) ∨ k < 7 ∨ 11 < k) : fM (sI P r k x) (sI N r k x) := by
  refine ⟨fun z a => ?_, fun j a => ?_, h.2.2⟩
  · funext j
    rw [sI_i, sI_i, h.1 z a]
  · rw [sI_i, sI_i, h.2.1 j a]
theorem wC.s {q : Nat} {M : eg_H} {r : eg_R} {k : Nat} {x : Int32} (h : pOf r q ∨ r.1 = 6 ∨ r.1 = 9 ∨ r.1 = 36) : wC q M (sI M r k x) := by
  refine ⟨fun z a b c d => sI_ne (fun e => ?_), rfl⟩
  rw [e] at a b c d
  rcases h with h | h | h | h
  · exact a h
  · exact b h
  · exact c h
  · exact d h
/-- the model's second halves laid as first halves -/
def kof (r : Nat) : Nat := if r = 88 then 5 else if r = 89 then 30 else if r = 90 then 9 else if r = 91 ∨ r = 92 then 15 else if r = 93 then 75 else if r = 94 ∨ r = 95 then 4 else if r = 96 ∨ r = 97 then 7 else if r = 98 then 3 else if r = 99 ∨ r = 100 ∨ r = 101 then 64 else 0
def kp (N : eg_H) : eg_H := (fun r k => if r.1 = 60 then N.1 r (if 12 ≤ k ∧ k ≤ 18 then k + 7 else k) else N.1 r (k + kof r.1), N.2)
theorem kp_60 (N : eg_H) {k : Nat} (h : 12 ≤ k ∧ k ≤ 18) : (kp N).1 (60, 0) k = N.1 (60, 0) (k + 7) := by
  unfold kp
  dsimp only
  rw [if_pos rfl, if_pos h]
theorem kp_r (N : eg_H) {r : eg_R} (h : r.1 ≠ 60) (k : Nat) : (kp N).1 r k = N.1 r (k + kof r.1) := if_neg h
theorem kp_row {N N1 : eg_H} {r : eg_R} (h : r.1 ≠ 60) (e : N1.1 r = N.1 r) : (kp N1).1 r = (kp N).1 r := by
  funext k
  rw [kp_r N1 h, kp_r N h, e]
theorem skF_cong {kc km pt ot kc' km' pt' ot' : Nat → Int32} {a : Nat} : ∀ {n : Nat} {l : List Nat}, (∀ i, a ≤ i → i < a + n → kc' i = kc i ∧ km' i = km i ∧ pt' i = pt i ∧ ot' i = ot i) → skF kc km pt ot a n l → skF kc' km' pt' ot' a n l := by
  intro n
  induction n with
  | zero => exact fun _ h => h
  | succ n ih =>
    intro l he h
    obtain ⟨l0, h0, h1⟩ := h
    refine ⟨l0, ih (fun i a b => he i a (by omega)) h0, ?_⟩
    obtain ⟨e1, e2, e3, e4⟩ := he (a + n) (by omega) (by omega)
    unfold stp
    rw [e1, e2, e3, e4]
    exact h1
theorem LR.congH {M M1 N N1 : eg_H} {p k : Nat} {w : Int32} (h : LR M p w N k) (hk : k < 7) (h1 : ∀ r, pOf r p → M1.1 r = M.1 r) (h2 : hlf N N1) : LR M1 p w N1 k := by
  obtain ⟨u, a, b, e1, hu, hw, hab, hb, e3, e4, e5, e6, hs⟩ := h
  obtain ⟨_, _, _, _, _, b6, _, b8⟩ := h2
  refine ⟨u, a, b, e1, hu, ?_, hab, hb, ?_, ?_, ?_, ?_, ?_⟩
  · rw [h1 _ (pOf_k (by omega))]; exact hw
  · rw [h1 _ (pOf_k (by omega))]; exact e3
  · rw [h1 _ (pOf_k (by omega))]; exact e4
  · rw [(b6 k hk).1]; exact e5
  · rw [(b6 k hk).2]; exact e6
  · refine skF_cong (fun i x y => ?_) hs
    obtain ⟨q1, q2, q3⟩ := b8 i (by omega)
    exact ⟨by rw [h1 _ (pOf_k (by omega))], q1, q2, q3⟩
theorem PL.congH {M M1 N N1 : eg_H} {p : Nat} (h : PL M p N) (h1 : ∀ r, pOf r p → M1.1 r = M.1 r) (h2 : hlf N N1) (f : ∀ k, 12 ≤ k → k ≤ 18 → N1.1 (60, 0) k = N.1 (60, 0) k) : PL M1 p N1 := by
  have a5 := h1 (5, p) (pOf_k (by omega))
  obtain ⟨b1, b2, b3, b4, b5, b6, b7, b8⟩ := h2
  have n5 := (nI_of' h.hn (by omega)).2
  have n9 := (nI_of' h.hg (by omega)).2
  have n4 := (nI_of' h.hm (by omega)).2
  unfold PL
  rw [a5, h1 (3, p) (pOf_k (by omega)), f 12 (by omega) (by omega), f 13 (by omega) (by omega), f 14 (by omega) (by omega), f 15 (by omega) (by omega), f 16 (by omega) (by omega), f 17 (by omega) (by omega), f 18 (by omega) (by omega)]
  refine ⟨h.p2, ⟨h.hn, h.en⟩, ⟨h.hg, h.eg⟩, ⟨h.hm, h.em⟩, h.ek, ⟨h.hp, h.ep⟩, ⟨h.ha, h.ea⟩, ⟨h.hc, h.ec⟩, fun s hs => ?_, fun g hg => ?_, fun y hy => ?_, fun l hl => ?_⟩
  · unfold plS
    rw [h1 _ (pOf_1 (by omega)), b1 s (by omega), b2 (6 * s) (by omega), b2 (6 * s + 1) (by omega), b2 (6 * s + 2) (by omega), b2 (6 * s + 3) (by omega), b2 (6 * s + 4) (by omega), b2 (6 * s + 5) (by omega)]
    exact h.s hs
  · unfold plG
    obtain ⟨q1, q2, q3⟩ := b3 g (by omega)
    rw [h1 _ (pOf_0 (by omega)), h1 _ (pOf_20 (by omega)), q1, q2, q3]
    obtain ⟨c1, c2, c3, c4⟩ := h.g hg
    refine ⟨c1, c2, c3, fun k hk => ?_⟩
    rw [b4 (5 * g + k) (by omega)]
    exact c4 k hk
  · unfold plM
    obtain ⟨q1, q2⟩ := b5 y (by omega)
    rw [h1 _ (pOf_k (by omega)), h1 _ (pOf_k (by omega)), h1 _ (pOf_k (by omega)), q1, q2]
    obtain ⟨c1, c2, c3, c4⟩ := h.m hy
    exact ⟨c1, c2, c3, c4.congH (by omega) h1 ⟨b1, b2, b3, b4, b5, b6, b7, b8⟩⟩
  · unfold plL
    rw [h1 _ (pOf_k (by omega)), b7 l hl]
    rcases h.l hl with q | q
    · exact Or.inl q
    · exact Or.inr ⟨q.1, q.2.congH (by omega) h1 ⟨b1, b2, b3, b4, b5, b6, b7, b8⟩⟩
