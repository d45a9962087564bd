/-! EXPRESSIONS: the state between two words -/
def clb (b o : Nat) : Nat := if b.testBit o then b - 2 ^ o else b
theorem bits0 : ∀ b, b < 512 → ∀ o, o < 9 → (nI b &&& (((1 : Int32) <<< (nI o &&& 31)) ^^^ (-1 : Int32)) = nI (clb b o) ∧ clb b o < 512) ∧ (nI b ||| ((1 : Int32) <<< (nI o &&& 31)) = nI (b ||| 2 ^ o) ∧ b ||| 2 ^ o < 512) ∧ (((nI b >>> (nI o &&& 31)) &&& (1 : Int32)) = if b.testBit o then 1 else 0) := by decide +kernel
theorem bits1 : ∀ b, b < 512 → ∀ o, o < 9 → ∀ i, i < 9 → (clb b o).testBit i = (b.testBit i && !(i == o)) := by decide +kernel
theorem bits2 : ∀ b, b < 512 → ∀ o, o < 9 → ∀ i, i < 9 → (b ||| 2 ^ o).testBit i = (b.testBit i || (i == o)) := by decide +kernel
def hc : List Nat → Bool
  | [] => false
  | t :: L => if 5 ≤ rk t then hc L else rk t == 4
def okB (b : Nat) : List Nat → Prop
  | [] => True
  | t :: L => (t = 34 → b.testBit (lev L) = hc L) ∧ okB b L
theorem okB_c {b b' : Nat} : ∀ {L : List Nat}, (∀ i, i < lev L → b'.testBit i = b.testBit i) → okB b L → okB b' L
  | [], _, _ => trivial
  | t :: L, he, h => by
    have e : lev (t :: L) = lev L + if t = 34 then 1 else 0 := rfl
    refine ⟨fun z => ?_, okB_c (fun i hi => he i (by rw [e]; omega)) h.2⟩
    rw [he (lev L) (by rw [e, if_pos z]; omega)]
    exact h.1 z
theorem drp_lev {r : Nat} (hr : 1 ≤ r) : ∀ L, lev (drp r L) = lev L
  | [] => rfl
  | t :: L => by
    by_cases c : rk t < r
    · rw [show drp r (t :: L) = t :: L from if_pos c]
    · have : t ≠ 34 := fun z => c (by rw [z]; exact hr)
      rw [show drp r (t :: L) = drp r L from if_neg c, drp_lev hr L]
      show _ = lev L + if t = 34 then 1 else 0
      rw [if_neg this]
      rfl
theorem drp_ok {r b : Nat} : ∀ {L : List Nat}, okB b L → okB b (drp r L)
  | [], _ => trivial
  | t :: L, h => by
    by_cases c : rk t < r
    · rw [show drp r (t :: L) = t :: L from if_pos c]; exact h
    · rw [show drp r (t :: L) = drp r L from if_neg c]; exact drp_ok h.2
theorem drp_hc {r : Nat} (hr : 5 ≤ r) : ∀ L, hc (drp r L) = hc L
  | [] => rfl
  | t :: L => by
    by_cases c : rk t < r
    · rw [show drp r (t :: L) = t :: L from if_pos c]
    · rw [show drp r (t :: L) = drp r L from if_neg c, drp_hc hr L]
      show _ = if 5 ≤ rk t then hc L else _
      rw [if_pos (by omega)]
theorem agr_45 : ∀ {L : List Nat}, hc L = false → agr 4 5 L
  | [], _ => trivial
  | t :: L, h => by
    have h' : (if 5 ≤ rk t then hc L else rk t == 4) = false := h
    by_cases c : 5 ≤ rk t
    · rw [if_pos c] at h'
      exact ⟨by omega, fun _ => agr_45 h'⟩
    · rw [if_neg c] at h'
      have n4 : ¬ rk t = 4 := fun z => by rw [z] at h'; exact absurd h' (by decide)
      exact ⟨by omega, fun z => absurd z (by omega)⟩
theorem drp_1 : ∀ {L : List Nat}, 0 < lev L → (∀ t ∈ L, rk t = 0 → t = 34) → ∃ L', drp 1 L = 34 :: L'
  | [], h, _ => absurd h (by decide)
  | t :: L, h, hv => by
    by_cases c : rk t < 1
    · refine ⟨L, ?_⟩
      rw [show drp 1 (t :: L) = t :: L from if_pos c, hv t List.mem_cons_self (by omega)]
    · have t34 : t ≠ 34 := fun z => c (by rw [z]; decide)
      have e : lev (t :: L) = lev L := by show lev L + (if t = 34 then 1 else 0) = _; rw [if_neg t34]; rfl
      obtain ⟨L', h'⟩ := drp_1 (L := L) (by omega) (fun x hx => hv x (List.mem_cons_of_mem _ hx))
      exact ⟨L', by rw [show drp 1 (t :: L) = drp 1 L from if_neg c]; exact h'⟩
theorem stk_v {f g : Nat → Int32} : ∀ {L : List Nat}, stk f g L → ∀ t ∈ L, vsb t = true
  | [], _, _, h => absurd h List.not_mem_nil
  | _ :: _, h, t, ht => by
    rcases List.mem_cons.mp ht with z | z
    · rw [z]; exact h.1.2.2
    · exact stk_v h.2 t z
/-- without the word that is read next -/
def XP (q a : Nat) (M N : eg_H) (L l : List Nat) (k b : Nat) (W Y : Int32) : Prop := core q a M N L l k ∧ M.2.2 (6, 0) 1 = (5, q) ∧ (M.1 (6, 0) 11 = nI (lev L) ∧ N.1 (60, 0) 45 = nI (lev L)) ∧ (M.1 (6, 0) 12 = nI b ∧ b < 512 ∧ b.testBit (lev L) = hc L ∧ okB b L) ∧ (M.1 (6, 0) 13 = W ∧ N.1 (60, 0) 47 = W) ∧ (M.1 (6, 0) 14 = Y ∧ N.1 (60, 0) 48 = Y) ∧ (M.1 (6, 0) 8 = nI (k + nop L) ∧ N.1 (60, 0) 46 = nI (k + nop L)) ∧ ((W = 1 ∧ l.length = bin L ∧ (¬ Y = 0 → hc L = false)) ∨ (W = 0 ∧ l.length = bin L + 1))
theorem core_f {q a k : Nat} {M N M1 N1 : eg_H} {L l : List Nat} (h : core q a M N L l k) (h9 : ∀ r, r ≠ (9, 0) → M1.1 r = M.1 r) (fm : fM N N1) : core q a M1 N1 L l k := by
  obtain ⟨⟨c1, c2, c3, c4⟩, ⟨c5, c6, c7, c8⟩, c9, c10, c11⟩ := h
  unfold core
  rw [h9 _ (kd_ne (by omega)), h9 _ (kd_ne (by omega)), h9 _ (kd_ne (by omega)), h9 _ (kd_ne (by omega)), fm.1 (102, 0) (by decide), fm.1 (99, 0) (by decide), fm.1 (100, 0) (by decide), fm.1 (101, 0) (by decide), fm.1 (103, 0) (by decide), fm.2.1 43 (by omega), fm.2.1 22 (by omega), fm.2.1 44 (by omega)]
  exact ⟨⟨c1, c2, c3, c4⟩, ⟨c5, c6, c7, c8⟩, c9, c10, c11⟩
theorem XP.f {q a k b : Nat} {M N M1 N1 : eg_H} {L l : List Nat} {W Y : Int32} (h : XP q a M N L l k b W Y) (h9 : ∀ r, r ≠ (9, 0) → M1.1 r = M.1 r) (h2 : M1.2 = M.2) (fm : fM N N1) : XP q a M1 N1 L l k b W Y := by
  obtain ⟨p1, p2, p3, p4, p5, p6, p7, p8⟩ := h
  refine ⟨core_f p1 h9 fm, by rw [h2]; exact p2, ?_, ?_, ?_, ?_, ?_, p8⟩
  · rw [h9 _ (by decide), fm.2.1 45 (by omega)]; exact p3
  · rw [h9 _ (by decide)]; exact p4
  · rw [h9 _ (by decide), fm.2.1 47 (by omega)]; exact p5
  · rw [h9 _ (by decide), fm.2.1 48 (by omega)]; exact p6
  · rw [h9 _ (by decide), fm.2.1 46 (by omega)]; exact p7
def xC (q k : Nat) (M M1 : eg_H) : Prop := (∀ r, r ≠ (9, 0) → r ≠ (6, 0) → r ≠ (36, 0) → r ≠ (23, q) → r ≠ (3, q) → M1.1 r = M.1 r) ∧ (∀ i, i < k → M1.1 (23, q) i = M.1 (23, q) i) ∧ (∀ i, i ≠ 3 → M1.1 (3, q) i = M.1 (3, q) i) ∧ (∀ i, i < 6 → M1.1 (6, 0) i = M.1 (6, 0) i) ∧ M1.2 = M.2
def xM (k : Nat) (N N1 : eg_H) : Prop := (∀ r, r ≠ (60, 0) → r.1 < 99 ∨ 103 < r.1 → N1.1 r = N.1 r) ∧ (∀ i, i < 64 + k → N1.1 (99, 0) i = N.1 (99, 0) i ∧ N1.1 (100, 0) i = N.1 (100, 0) i ∧ N1.1 (101, 0) i = N.1 (101, 0) i) ∧ (∀ i, i < 7 ∨ (11 < i ∧ i < 22) ∨ (22 < i ∧ i < 43) ∨ 48 < i → N1.1 (60, 0) i = N.1 (60, 0) i) ∧ N1.2 = N.2
theorem xC.rf (q k : Nat) (M : eg_H) : xC q k M M := ⟨fun _ _ _ _ _ _ => rfl, fun _ _ => rfl, fun _ _ => rfl, fun _ _ => rfl, rfl⟩
theorem xM.rf (k : Nat) (N : eg_H) : xM k N N := ⟨fun _ _ _ => rfl, fun _ _ => ⟨rfl, rfl, rfl⟩, fun _ _ => rfl, rfl⟩
theorem xC.tr {q k : Nat} {M M1 M2 : eg_H} (h : xC q k M M1) (g : xC q k M1 M2) : xC q k M M2 := ⟨fun r a b c d e => (g.1 r a b c d e).trans (h.1 r a b c d e), fun i hi => (g.2.1 i hi).trans (h.2.1 i hi), fun i hi => (g.2.2.1 i hi).trans (h.2.2.1 i hi), fun i hi => (g.2.2.2.1 i hi).trans (h.2.2.2.1 i hi), g.2.2.2.2.trans h.2.2.2.2⟩
theorem xM.tr {k : Nat} {N N1 N2 : eg_H} (h : xM k N N1) (g : xM k N1 N2) : xM k N N2 := ⟨fun r a b => (g.1 r a b).trans (h.1 r a b), fun i hi => ⟨(g.2.1 i hi).1.trans (h.2.1 i hi).1, (g.2.1 i hi).2.1.trans (h.2.1 i hi).2.1, (g.2.1 i hi).2.2.trans (h.2.1 i hi).2.2⟩, fun i a => (g.2.2.1 i a).trans (h.2.2.1 i a), g.2.2.2.trans h.2.2.2⟩
theorem rC.x {q k k1 : Nat} {M M1 : eg_H} (h : rC q k1 M M1) (hk : k ≤ k1) : xC q k M M1 := ⟨fun r _ b _ c d => h.1 r b c d, fun i hi => h.2.1 i (by omega), h.2.2.1, fun i hi => h.2.2.2.1 i (by omega), h.2.2.2.2⟩
theorem rM.x {k k1 : Nat} {N N1 : eg_H} (h : rM k1 N N1) (hk : k ≤ k1) : xM k N N1 := ⟨fun r a b => h.1 r a (by omega), fun i hi => h.2.1 i (by omega), fun i hi => h.2.2.1 i (by omega) (by omega) (by omega), h.2.2.2⟩
theorem fC.x {q k : Nat} {M M1 : eg_H} (h : fC M M1) : xC q k M M1 := ⟨fun r a b _ _ _ => h.1 r a b, fun i _ => by rw [h.1 _ (kd_ne (by omega)) (kd_ne (by omega))], fun i _ => by rw [h.1 _ (kd_ne (by omega)) (kd_ne (by omega))], fun i hi => h.2.1 i (by omega) (by omega), h.2.2⟩
theorem fM.x {k : Nat} {N N1 : eg_H} (h : fM N N1) : xM k N N1 := ⟨fun r a _ => h.1 r a, fun i _ => by rw [h.1 _ (by decide), h.1 _ (by decide), h.1 _ (by decide)]; exact ⟨rfl, rfl, rfl⟩, fun i hi => h.2.1 i (by omega), h.2.2⟩
theorem xC.s6 {q k j : Nat} {M : eg_H} {x : Int32} (hj : 6 ≤ j) : xC q k M (sI M (6, 0) j x) := ⟨fun r _ b _ _ _ => sI_ne b, fun i _ => by rw [sI_ne (kd_ne (by omega))], fun i _ => by rw [sI_ne (kd_ne (by omega))], fun i hi => by rw [sI_rr, if_neg (by omega)], rfl⟩
theorem xC.s36 {q k j : Nat} {M : eg_H} {x : Int32} : xC q k M (sI M (36, 0) j x) := ⟨fun r _ _ c _ _ => sI_ne c, fun i _ => by rw [sI_ne (kd_ne (by omega))], fun i _ => by rw [sI_ne (kd_ne (by omega))], fun i hi => by rw [sI_ne (by decide)], rfl⟩
theorem xM.s6 {k j : Nat} {N : eg_H} {x : Int32} (hj : j = 22 ∨ (43 ≤ j ∧ j ≤ 48)) : xM k N (sI N (60, 0) j x) := ⟨fun r a _ => sI_ne a, fun i _ => by rw [sI_ne (by decide), sI_ne (by decide), sI_ne (by decide)]; exact ⟨rfl, rfl, rfl⟩, fun i hi => by rw [sI_60, if_neg (by omega)], rfl⟩
theorem xM.s102 {k j : Nat} {N : eg_H} {x : Int32} : xM k N (sI N (102, 0) j x) := ⟨fun r _ b => sI_ne (fun e => by rw [e] at b; dsimp only at b; omega), fun i _ => by rw [sI_ne (by decide), sI_ne (by decide), sI_ne (by decide)]; exact ⟨rfl, rfl, rfl⟩, fun i hi => by rw [sI_ne (by decide)], rfl⟩
theorem xC.w {q k : Nat} {M M1 : eg_H} (h : xC q k M M1) : wC q M M1 := ⟨fun r a b c d => h.1 r (fun e => c (by rw [e])) (fun e => b (by rw [e])) (fun e => d (by rw [e])) (fun e => a (by rw [e]; exact pOf_k (by omega))) (fun e => a (by rw [e]; exact pOf_k (by omega))), by rw [h.2.2.2.2]⟩
theorem xM.w {k : Nat} {N N1 : eg_H} (h : xM k N N1) : wM N N1 := by
  have o : ∀ r, r < 99 → r ≠ 60 → N1.1 (r, 0) = N.1 (r, 0) := fun r a b => h.1 _ (kd_ne b) (Or.inl a)
  refine ⟨fun r a b => h.1 r (fun e => a (by rw [e])) (by omega), fun i hi => h.2.2.1 i (by omega), ⟨fun i _ => by rw [o 88 (by omega) (by omega)], fun i _ => by rw [o 89 (by omega) (by omega)], fun i _ => by rw [o 90 (by omega) (by omega), o 91 (by omega) (by omega), o 92 (by omega) (by omega)]; exact ⟨rfl, rfl, rfl⟩, fun i _ => by rw [o 93 (by omega) (by omega)], fun i _ => by rw [o 94 (by omega) (by omega), o 95 (by omega) (by omega)]; exact ⟨rfl, rfl⟩, fun i _ => by rw [o 96 (by omega) (by omega), o 97 (by omega) (by omega)]; exact ⟨rfl, rfl⟩, fun i _ => by rw [o 98 (by omega) (by omega)], fun i hi => h.2.1 i (by omega)⟩, h.2.2.2⟩
/-- a sign put to those that wait -/
def hsC (M : eg_H) (n t : Nat) : eg_H := sI (sI M (36, 0) n (nI t)) (6, 0) 10 (nI (n + 1))
def hsM (N : eg_H) (n t : Nat) : eg_H := sI (sI N (102, 0) n (nI (wmt t))) (60, 0) 43 (nI (n + 1))
theorem hsC_e {M : eg_H} {n : Nat} (t : Nat) (hn : n < 72) (e : M.1 (6, 0) 10 = nI n) : gX6_holdSign M (nI t) ∧ fX6_holdSign M (nI t) = hsC M n t := by
  have n72 : ¬ (72 : Int32) ≤ nI n := fun z => by
    have := (nI_le' (a := 72) (by omega) (by omega)).mp z
    omega
  unfold gX6_holdSign fX6_holdSign hsC
  rw [e, nI_t (by omega), sI_ne (by decide), e, if_neg n72, (nAl n).2.1]
  exact ⟨fun _ => nI_in' hn (by omega), rfl⟩
theorem hsM_e {N : eg_H} {n : Nat} (t : Nat) (hn : n < 96) (e : N.1 (60, 0) 43 = nI n) : gX11_waitsFor N (nI (wmt t)) ∧ fX11_waitsFor N (nI (wmt t)) = hsM N n t := by
  unfold gX11_waitsFor fX11_waitsFor hsM
  rw [e, nI_t (by omega), sI_ne (by decide), e, (nAl n).2.1]
  exact ⟨nI_in' hn (by omega), rfl⟩
theorem ckC {M : eg_H} {c : Nat} (hc : c ≤ 64) (e : M.1 (6, 0) 8 = nI c) : (c < 64 ∧ fX6_countKnot M = (1, sI M (6, 0) 8 (nI (c + 1)))) ∨ (c = 64 ∧ fX6_countKnot M = (0, (fX6_refuse M 2).2)) := by
  unfold fX6_countKnot
  rw [e, (nAl c).2.1]
  by_cases z : c < 64
  · have y : nI c < (64 : Int32) := (nI_lt' (b := 64) (by omega) (by omega)).mpr z
    exact Or.inl ⟨z, by rw [if_pos y]⟩
  · have y : ¬ nI c < (64 : Int32) := fun y => z ((nI_lt' (b := 64) (by omega) (by omega)).mp y)
    exact Or.inr ⟨by omega, by rw [if_neg y]; rfl⟩
theorem ckM {N : eg_H} {c : Nat} (hc : c ≤ 64) (e : N.1 (60, 0) 46 = nI c) : (c < 64 ∧ fX11_isCounted N = (1, sI N (60, 0) 46 (nI (c + 1)))) ∨ (c = 64 ∧ fX11_isCounted N = (0, (fX11_wrong N 2).2)) := by
  unfold fX11_isCounted
  rw [e, (nAl c).2.1]
  by_cases z : c < 64
  · have y : ¬ nI c = (64 : Int32) := fun y => by
      have := (nI_eq' (b := 64) (by omega) (by omega)).mp y
      omega
    exact Or.inl ⟨z, by rw [if_pos y]⟩
  · have y : ¬ ¬ nI c = (64 : Int32) := fun y => y ((nI_eq' (b := 64) (by omega) (by omega)).mpr (by omega))
    refine Or.inr ⟨by omega, ?_⟩
    rw [if_neg y]
    rfl
theorem isSign_n {N : eg_H} (w : Int32) : fX11_isSign N w = if N.1 (60, 0) 8 = 4 ∧ N.1 (60, 0) 9 = w then 1 else 0 := by
  unfold fX11_isSign
  by_cases c : N.1 (60, 0) 8 = 4
  · by_cases c2 : N.1 (60, 0) 9 = w
    · rw [if_neg (fun z => z c), if_neg (fun z => z c2), if_pos ⟨c, c2⟩]
    · rw [if_neg (fun z => z c), if_pos c2, if_neg (fun z => c2 z.2)]
  · rw [if_pos c, if_neg (fun z => c z.1)]
