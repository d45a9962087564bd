/-! THE MODEL'S LAWS -/
theorem sI_self (M : eg_H) (r : eg_R) (k : Nat) : sI M r k (M.1 r k) = M := by
  refine eg_ext (fun z j => ?_) (fun _ _ => rfl) (fun _ _ => rfl)
  rw [sI_i]
  by_cases h : z = r ∧ j = k
  · rw [if_pos h, h.1, h.2]
  · rw [if_neg h]
theorem sI_sI (M : eg_H) (r : eg_R) (k : Nat) (x y : Int32) : sI (sI M r k x) r k y = sI M r k y := by
  refine eg_ext (fun z j => ?_) (fun _ _ => rfl) (fun _ _ => rfl)
  rw [sI_i, sI_i, sI_i]
  by_cases h : z = r ∧ j = k
  · rw [if_pos h, if_pos h]
  · rw [if_neg h, if_neg h, if_neg h]
def divE (e : Int32) (b : Int64) : Int32 := if ¬ e = 0 then 1 else if ¬ lg_cmp b 0 = 0 then 0 else 1
/-- a knot's own value, out of its parts': the value and whether there was an error -/
def opP (k : Int32) (a b : Int64) (e : Int32) : Int64 × Int32 :=
  if k = 2 then (if ¬ lg_cmp a 0 = 0 then 0 else 1, e)
  else if k = 3 then (if lg_cmp a 0 = 0 then 0 else if lg_cmp b 0 = 0 then 0 else 1, e)
  else if k = 4 then (if ¬ lg_cmp a 0 = 0 then 1 else if lg_cmp b 0 = 0 then 0 else 1, e)
  else if k = 11 then (if bndE e (a + b) = 0 then a + b else 0, bndE e (a + b))
  else if k = 12 then (if bndE e (a - b) = 0 then a - b else 0, bndE e (a - b))
  else if k = 13 then (if mulE e a b = 0 then a * b else 0, mulE e a b)
  else if k = 14 then (if divE e b = 0 then a / b else 0, divE e b)
  else (if cmpE k a b = 0 then 0 else 1, e)
def valP (kn pt ot : Nat → Int32) (nm v : Nat → Int64) (e : Int32) (i : Nat) : Int64 × Int32 :=
  if kn i = 0 then ((pt i).toInt64, e) else if kn i = 1 then (nm (pt i).toNatClampNeg, e) else opP (kn i) (v (pt i).toNatClampNeg) (v (ot i).toNatClampNeg) e
def knW (kn pt ot : Nat → Int32) (i : Nat) : Prop := kn i = 0 ∨ (kn i = 1 ∧ vp_in (pt i) 8) ∨ (¬ kn i = 1 ∧ vp_in (pt i) 64 ∧ vp_in (ot i) 64) ∨ (kn i = 2 ∧ vp_in (pt i) 64)
def vPM (M : eg_H) (i : Nat) : Int64 × Int32 := valP (M.1 (99, 0)) (M.1 (100, 0)) (M.1 (101, 0)) (M.2.1 (127, 0)) (M.2.1 (128, 0)) (M.1 (60, 0) 68) i
def fX11_valueOf (M : eg_H) (k : Int32) : Int64 × eg_H := ((vPM M k.toNatClampNeg).1, sI M (60, 0) 68 (vPM M k.toNatClampNeg).2)
def gX11_valueOf (M : eg_H) (k : Int32) : Prop := vp_in k 64 ∧ knW (M.1 (99, 0)) (M.1 (100, 0)) (M.1 (101, 0)) k.toNatClampNeg
theorem sX11_valueOf {κ : eg_K} {d : Nat} (hd : 1 ≤ d) (M : eg_H) (l1 : Int32) (hg : gX11_valueOf M l1) : eg_S κ gM mtX11_valueOf d [vR (60, 0), vI l1] M (eQL κ gM (fun r M1 => (r, M1) = fX11_valueOf M l1)) := by
  obtain ⟨h1, h2⟩ := hg
  obtain ⟨e, hlt⟩ := nI_of' h1 (by omega)
  have h128 : vp_in l1 128 := by rw [e]; exact nI_in' (by omega) (by omega)
  unfold fX11_valueOf
  generalize l1.toNatClampNeg = i at e hlt h2
  refine eg_S.of rfl (Nat.le_of_ble_eq_true rfl) (vX11_valueOf_0 hd M l1 ?_)
  have ei : l1.toNatClampNeg = i := by rw [e, nI_t (by omega)]
  rw [ei]
  have same : ∀ x, vPM M i = (x, M.1 (60, 0) 68) → (x, M) = ((vPM M i).1, sI M (60, 0) 68 (vPM M i).2) := by
    intro x hx
    rw [hx]
    show (x, M) = (x, sI M (60, 0) 68 (M.1 (60, 0) 68))
    rw [sI_self]
  refine ⟨h128, fun c0 => ⟨fun c1 => ?_, fun c1 => ?_⟩, fun c0 => same _ (by unfold vPM valP; rw [if_pos c0])⟩
  · have hp : vp_in (M.1 (100, 0) i) 64 := by
      rcases h2 with q | q | q | q
      · exact absurd q c0
      · exact absurd q.1 c1
      · exact q.2.1
      · exact q.2
    have ev : vPM M i = opP (M.1 (99, 0) i) (M.2.1 (128, 0) (M.1 (100, 0) i).toNatClampNeg) (M.2.1 (128, 0) (M.1 (101, 0) i).toNatClampNeg) (M.1 (60, 0) 68) := by
      unfold vPM valP
      rw [if_neg c0, if_neg c1]
    refine ⟨hp, fun x5 e5 => ⟨fun c2 => ?_, fun c2 x e => same _ ?_⟩⟩
    · have hq : vp_in (M.1 (101, 0) i) 64 := by
        rcases h2 with q | q | q | q
        · exact absurd q c0
        · exact absurd q.1 c1
        · exact q.2.2
        · exact absurd q.1 c2
      refine ⟨hq, fun x8 e8 => ?_⟩
      rw [← e5, ← e8] at ev
      unfold opP at ev
      rw [if_neg c2] at ev
      refine ⟨fun c3 c4 c11 c12 c13 c14 => ?_, fun c x e => same _ ?_, fun c x e => same _ ?_, fun c x N e => ?_, fun c x N e => ?_, fun c x N e => ?_, fun c x e N eN => ?_⟩
      · rw [if_neg c3, if_neg c4, if_neg c11, if_neg c12, if_neg c13, if_neg c14] at ev
        refine vX11_valueOf_259 hd M l1 _ _ ?_
        rw [ei]
        refine ⟨h128, fun x3 e3 x4 e4 => same _ ?_⟩
        rw [ev, e4, e3]; rfl
      · rw [ev, if_pos c, e]
      · rw [ev, if_neg (by rw [c]; decide), if_pos c, e]
      · rw [ev, if_neg (by rw [c]; decide), if_neg (by rw [c]; decide), if_pos c, e]; rfl
      · rw [ev, if_neg (by rw [c]; decide), if_neg (by rw [c]; decide), if_neg (by rw [c]; decide), if_pos c, e]; rfl
      · rw [ev, if_neg (by rw [c]; decide), if_neg (by rw [c]; decide), if_neg (by rw [c]; decide), if_neg (by rw [c]; decide), if_pos c, e]; rfl
      · rw [if_neg (by rw [c]; decide), if_neg (by rw [c]; decide), if_neg (by rw [c]; decide), if_neg (by rw [c]; decide), if_neg (by rw [c]; decide), if_pos c] at ev
        have ex : x = divE (M.1 (60, 0) 68) x8 := e
        have er : N.1 (60, 0) 68 = x := by rw [eN, sI_i, if_pos ⟨rfl, rfl⟩]
        rw [er]
        rw [ev]
        refine ⟨fun q => ⟨?_, ?_⟩, fun q => ?_⟩
        · intro q8
          rw [ex] at q
          unfold divE at q
          by_cases hq : ¬ M.1 (60, 0) 68 = 0
          · rw [if_pos hq] at q; exact absurd q (by decide)
          · rw [if_neg hq, if_neg (fun z => z ((lg0 x8).mpr q8))] at q; exact absurd q (by decide)
        · show (_, N) = _
          rw [eN, ← ex, if_pos q]
        · show (_, N) = _
          rw [eN, ← ex, if_neg q]
    · rw [ev]
      unfold opP
      rw [if_pos c2, e, e5]
  · have hp : vp_in (M.1 (100, 0) i) 8 := by
      rcases h2 with q | q | q | q
      · exact absurd q c0
      · exact q.2
      · exact absurd c1 q.1
      · rw [q.1] at c1; exact absurd c1 (by decide)
    exact ⟨hp, same _ (by unfold vPM valP; rw [if_neg c0, if_pos c1])⟩
/-- the knots from a on, one after the other: their values, and whether there was an error -/
def stV (kn pt ot : Nat → Int32) (nm : Nat → Int64) (i : Nat) (s : (Nat → Int64) × Int32) : (Nat → Int64) × Int32 := (vp_updL s.1 i (valP kn pt ot nm s.1 s.2 i).1, (valP kn pt ot nm s.1 s.2 i).2)
def smV (kn pt ot : Nat → Int32) (nm v : Nat → Int64) (a n : Nat) : (Nat → Int64) × Int32 := itr (fun j s => stV kn pt ot nm (a + j) s) n (v, 0)
def smM (M : eg_H) (a n : Nat) : (Nat → Int64) × Int32 := smV (M.1 (99, 0)) (M.1 (100, 0)) (M.1 (101, 0)) (M.2.1 (127, 0)) (M.2.1 (128, 0)) a n
/-- the heap with values v and error e -/
def sVE (M : eg_H) (s : (Nat → Int64) × Int32) : eg_H := sI (sU M (128, 0) s.1) (60, 0) 68 s.2
def fX11_sumOf (M : eg_H) (k : Int32) : Int64 × eg_H :=
  let a := (M.1 (96, 0) k.toNatClampNeg).toNatClampNeg
  let b := (M.1 (97, 0) k.toNatClampNeg).toNatClampNeg
  let s := smM M a (b - a)
  (if s.2 = 0 then s.1 (b - 1) else 0, sVE M s)
def gX11_sumOf (M : eg_H) (k : Int32) : Prop := vp_in k 14 ∧ vp_in (M.1 (96, 0) k.toNatClampNeg) 64 ∧ vp_in (M.1 (97, 0) k.toNatClampNeg) 65 ∧ (M.1 (96, 0) k.toNatClampNeg).toNatClampNeg < (M.1 (97, 0) k.toNatClampNeg).toNatClampNeg ∧ ∀ i, (M.1 (96, 0) k.toNatClampNeg).toNatClampNeg ≤ i → i < (M.1 (97, 0) k.toNatClampNeg).toNatClampNeg → knW (M.1 (99, 0)) (M.1 (100, 0)) (M.1 (101, 0)) i
theorem sVE_o (M : eg_H) (s : (Nat → Int64) × Int32) : ((sVE M s).1 (96, 0) = M.1 (96, 0)) ∧ ((sVE M s).1 (97, 0) = M.1 (97, 0)) ∧ ((sVE M s).1 (99, 0) = M.1 (99, 0)) ∧ ((sVE M s).1 (100, 0) = M.1 (100, 0)) ∧ ((sVE M s).1 (101, 0) = M.1 (101, 0)) ∧ ((sVE M s).1 (60, 0) 68 = s.2) ∧ ((sVE M s).2.1 (128, 0) = s.1) ∧ ((sVE M s).2.1 (127, 0) = M.2.1 (127, 0)) := by
  unfold sVE
  refine ⟨sI_ne (by decide), sI_ne (by decide), sI_ne (by decide), sI_ne (by decide), sI_ne (by decide), by rw [sI_i, if_pos ⟨rfl, rfl⟩], sU_at _ _ _, sU_ne _ _ (by decide)⟩
theorem sVE_next (M : eg_H) (s : (Nat → Int64) × Int32) (i : Nat) (x : Int64) (e : Int32) : sL (sI (sVE M s) (60, 0) 68 e) (128, 0) i x = sVE M (vp_updL s.1 i x, e) := by
  unfold sVE
  rw [sI_sI]
  refine eg_ext (fun _ _ => rfl) (fun z j => ?_) (fun _ _ => rfl)
  show (if z = (128, 0) ∧ j = i then x else (sU M (128, 0) s.1).2.1 z j) = (sU M (128, 0) (vp_updL s.1 i x)).2.1 z j
  by_cases hz : z = (128, 0)
  · subst hz
    rw [sU_at, sU_at]
    unfold vp_updL
    by_cases hj : j = i
    · rw [if_pos ⟨rfl, hj⟩, if_pos hj]
    · rw [if_neg (fun q => hj q.2), if_neg hj]
  · rw [sU_ne _ _ hz, sU_ne _ _ hz, if_neg (fun q => hz q.1)]
theorem sX11_sumOf {κ : eg_K} {d : Nat} (hd : 2 ≤ d) (M : eg_H) (l1 : Int32) (hg : gX11_sumOf M l1) : eg_S κ gM mtX11_sumOf d [vR (60, 0), vI l1] M (eQL κ gM (fun r M1 => (r, M1) = fX11_sumOf M l1)) := by
  obtain ⟨h1, h2, h3, h4, h5⟩ := hg
  obtain ⟨ea, ha⟩ := nI_of' h2 (by omega)
  obtain ⟨eb, hb⟩ := nI_of' h3 (by omega)
  unfold fX11_sumOf
  generalize (M.1 (96, 0) l1.toNatClampNeg).toNatClampNeg = a at ea ha h4 h5 ⊢
  generalize (M.1 (97, 0) l1.toNatClampNeg).toNatClampNeg = b at eb hb h4 h5 ⊢
  generalize hQ : (eQL κ gM (fun r M1 => (r, M1) = (let a := a; let b := b; let s := smM M a (b - a); (if s.2 = 0 then s.1 (b - 1) else 0, sVE M s)))) = Q
  refine eg_S.of rfl (Nat.le_of_ble_eq_true rfl) ?_
  show eg_W κ gM mtX11_sumOf d Q 0 [(0, vR (60, 0)), (1, vI l1)] [] M
  subst hQ
  refine vX11_sumOf_0 M l1 (fun M1 e1 => ⟨h1, fun x3 e3 => ?_⟩)
  have e1' : M1 = sVE M (smM M a 0) := by
    rw [e1]
    show sI M (60, 0) 68 0 = sI (sU M (128, 0) (M.2.1 (128, 0))) (60, 0) 68 0
    rw [sU_self]
  rw [e1', (sVE_o M _).1, ea] at e3
  subst e3
  rw [e1']
  clear e1 e1' M1
  refine eg_down (P := fun j => eg_W κ gM mtX11_sumOf d (eQL κ gM (fun r M1 => (r, M1) = (let a := a; let b := b; let s := smM M a (b - a); (if s.2 = 0 then s.1 (b - 1) else 0, sVE M s)))) 12 [(0, vR (60, 0)), (1, vI l1), (2, vI (nI (a + j)))] [] (sVE M (smM M a j))) (b - a) (fun j hj k => ?_) ?_
  · refine vX11_sumOf_12 (by omega) _ l1 _ ⟨h1, fun c => ?_, fun _ => ?_⟩
    · rw [(sVE_o M _).2.1, eb, nI_leI (by omega) (by omega)] at c
      omega
    · have hk : gX11_valueOf (sVE M (smM M a j)) (nI (a + j)) := by
        refine ⟨nI_in' (by omega) (by omega), ?_⟩
        rw [nI_t (by omega)]
        simp only [sVE_o]
        exact h5 _ (by omega) (by omega)
      refine ⟨_, sX11_valueOf (by omega) _ _ hk, fun x6 M7 e7 => ⟨nI_in' (by omega) (by omega), fun M10 e10 x11 e11 => ?_⟩⟩
      obtain ⟨e8, e9⟩ := Prod.mk.inj e7
      subst e10; subst e11
      rw [e8, e9]
      rw [nI_t (by omega), sVE_next, nI_1]
      have e12 : vPM (sVE M (smM M a j)) (a + j) = valP (M.1 (99, 0)) (M.1 (100, 0)) (M.1 (101, 0)) (M.2.1 (127, 0)) (smM M a j).1 (smM M a j).2 (a + j) := by
        unfold vPM
        simp only [sVE_o]
      rw [e12]
      exact k
  · have e0 : a + (b - a) = b := by omega
    rw [e0]
    refine vX11_sumOf_12 (by omega) _ l1 _ ⟨h1, fun _ => ?_, fun c => ?_⟩
    · rw [(sVE_o M _).2.1, eb]
      have eb1 : nI b - 1 = nI (b - 1) := by
        have := nI_pred (b - 1)
        rwa [show b - 1 + 1 = b by omega] at this
      rw [eb1, nI_t (by omega)]
      refine ⟨fun _ => nI_in' (by omega) (by omega), fun x4 e4 => ?_⟩
      subst e4
      simp only [sVE_o]
    · rw [(sVE_o M _).2.1, eb] at c
      exact absurd (nI_le (Nat.le_refl b) (by omega)) c
