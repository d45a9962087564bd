/-! READING: the tokens' state, numbers, names -/
def sgc (t : Nat) : Int32 := if t = 24 then 43 else if t = 25 then 45 else if t = 26 then 42 else if t = 27 then 47 else if t = 34 then 40 else if t = 35 then 41 else 59
theorem sgL_t : ∀ x ∈ sgL, (x.1 = 24 ∧ x.2 = 43) ∨ (x.1 = 25 ∧ x.2 = 45) ∨ (x.1 = 26 ∧ x.2 = 42) ∨ (x.1 = 27 ∧ x.2 = 47) ∨ (x.1 = 34 ∧ x.2 = 40) ∨ (x.1 = 35 ∧ x.2 = 41) ∨ (x.1 = 36 ∧ x.2 = 59) := by decide +kernel
theorem tkN {k num le kd wh : Int32} (h : tkR k num le kd wh) : ∃ t, k = nI t ∧ t ≤ 40 ∧ ((t = 39 ∧ kd = 0) ∨ (t < 24 ∧ kd = 1 ∧ wh = nI (prm t)) ∨ (t = 38 ∧ kd = 2 ∧ wh = le) ∨ (t = 37 ∧ kd = 3 ∧ wh = num ∧ 0 ≤ num.toInt ∧ num.toInt ≤ 99999) ∨ ((t = 24 ∨ t = 25 ∨ t = 26 ∨ t = 27 ∨ t = 34 ∨ t = 35 ∨ t = 36) ∧ kd = 4 ∧ wh = sgc t) ∨ (28 ≤ t ∧ t < 34 ∧ kd = 5 ∧ wh = nI (t - 28)) ∨ (t = 40 ∧ kd = 6)) := by
  rcases h with ⟨a, b⟩ | ⟨w, hw, a, b, c⟩ | ⟨a, b, c⟩ | ⟨a, b, c, d1, d2⟩ | ⟨c, hm, b, d⟩ | ⟨j, hj, a, b, c⟩ | ⟨a, b⟩
  · exact ⟨39, a, by omega, Or.inl ⟨rfl, b⟩⟩
  · exact ⟨w, a, by omega, Or.inr (Or.inl ⟨hw, b, c⟩)⟩
  · exact ⟨38, a, by omega, Or.inr (Or.inr (Or.inl ⟨rfl, b, c⟩))⟩
  · exact ⟨37, a, by omega, Or.inr (Or.inr (Or.inr (Or.inl ⟨rfl, b, c, d1, d2⟩)))⟩
  · rcases sgL_t _ hm with ⟨x1, x2⟩ | ⟨x1, x2⟩ | ⟨x1, x2⟩ | ⟨x1, x2⟩ | ⟨x1, x2⟩ | ⟨x1, x2⟩ | ⟨x1, x2⟩
    · exact ⟨24, x1, by omega, Or.inr (Or.inr (Or.inr (Or.inr (Or.inl ⟨by omega, b, d.trans x2⟩))))⟩
    · exact ⟨25, x1, by omega, Or.inr (Or.inr (Or.inr (Or.inr (Or.inl ⟨by omega, b, d.trans x2⟩))))⟩
    · exact ⟨26, x1, by omega, Or.inr (Or.inr (Or.inr (Or.inr (Or.inl ⟨by omega, b, d.trans x2⟩))))⟩
    · exact ⟨27, x1, by omega, Or.inr (Or.inr (Or.inr (Or.inr (Or.inl ⟨by omega, b, d.trans x2⟩))))⟩
    · exact ⟨34, x1, by omega, Or.inr (Or.inr (Or.inr (Or.inr (Or.inl ⟨by omega, b, d.trans x2⟩))))⟩
    · exact ⟨35, x1, by omega, Or.inr (Or.inr (Or.inr (Or.inr (Or.inl ⟨by omega, b, d.trans x2⟩))))⟩
    · exact ⟨36, x1, by omega, Or.inr (Or.inr (Or.inr (Or.inr (Or.inl ⟨by omega, b, d.trans x2⟩))))⟩
  · exact ⟨28 + j, a, by omega, Or.inr (Or.inr (Or.inr (Or.inr (Or.inr (Or.inl ⟨by omega, by omega, b, by rw [c]; congr 1; omega⟩)))))⟩
  · exact ⟨40, a, by omega, Or.inr (Or.inr (Or.inr (Or.inr (Or.inr (Or.inr ⟨rfl, b⟩)))))⟩
theorem nIq {t : Nat} (ht : t ≤ 40) (c : Nat) (hc : c < 1000) : nI t = nI c ↔ t = c := nI_eq' (by omega) (by omega)
def tA (M N : eg_H) (n a : Nat) : Prop := (M.1 (9, 0) 1 = nI n ∧ N.1 (60, 0) 6 = nI n ∧ n ≤ 800) ∧ (∀ i, i < n → bR (M.1 (50, 0) i) (N.1 (61, 0) i)) ∧ (∀ i, i < 121 → N.1 (64, 0) i = wdM i) ∧ ∃ e, a ≤ e ∧ e ≤ n ∧ M.1 (9, 0) 2 = nI a ∧ N.1 (60, 0) 10 = nI a ∧ M.1 (9, 0) 3 = nI e ∧ N.1 (60, 0) 7 = nI e ∧ tkR (M.1 (9, 0) 4) (M.1 (9, 0) 5) (M.1 (9, 0) 6) (N.1 (60, 0) 8) (N.1 (60, 0) 9) ∧ ((M.1 (9, 0) 4 = 39 ∧ a = n) ∨ (¬ M.1 (9, 0) 4 = 39 ∧ a < e))
theorem tA.cong {M N M1 N1 : eg_H} {n a : Nat} (h : tA M N n a) (h9 : M1.1 (9, 0) = M.1 (9, 0)) (h50 : M1.1 (50, 0) = M.1 (50, 0)) (h60 : ∀ k, 6 ≤ k → k ≤ 10 → N1.1 (60, 0) k = N.1 (60, 0) k) (h61 : N1.1 (61, 0) = N.1 (61, 0)) (h64 : N1.1 (64, 0) = N.1 (64, 0)) : tA M1 N1 n a := by
  unfold tA
  rw [h9, h50, h61, h64, h60 6 (by omega) (by omega), h60 7 (by omega) (by omega), h60 8 (by omega) (by omega), h60 9 (by omega) (by omega), h60 10 (by omega) (by omega)]
  exact h
theorem tA.tk {M N : eg_H} {n a : Nat} (h : tA M N n a) : tkR (M.1 (9, 0) 4) (M.1 (9, 0) 5) (M.1 (9, 0) 6) (N.1 (60, 0) 8) (N.1 (60, 0) 9) := by
  obtain ⟨_, _, _, e, _, _, _, _, _, _, t, _⟩ := h
  exact t
theorem tA.at' {M N : eg_H} {n a : Nat} (h : tA M N n a) : M.1 (9, 0) 2 = nI a ∧ N.1 (60, 0) 10 = nI a ∧ a ≤ n := by
  obtain ⟨_, _, _, e, a1, a2, a3, a4, _⟩ := h
  exact ⟨a3, a4, by omega⟩
/-- what a token, a number, a name changes -/
def fC (M M1 : eg_H) : Prop := (∀ r, r ≠ (9, 0) → r ≠ (6, 0) → M1.1 r = M.1 r) ∧ (∀ k, k ≠ 6 → k ≠ 7 → M1.1 (6, 0) k = M.1 (6, 0) k) ∧ M1.2 = M.2
def fM (N N1 : eg_H) : Prop := (∀ r, r ≠ (60, 0) → N1.1 r = N.1 r) ∧ (∀ k, k < 7 ∨ 11 < k → N1.1 (60, 0) k = N.1 (60, 0) k) ∧ N1.2 = N.2
theorem fC.rf (M : eg_H) : fC M M := ⟨fun _ _ _ => rfl, fun _ _ _ => rfl, rfl⟩
theorem fM.rf (N : eg_H) : fM N N := ⟨fun _ _ => rfl, fun _ _ => rfl, rfl⟩
theorem fC.tr {M M1 M2 : eg_H} (h : fC M M1) (k : fC M1 M2) : fC M M2 := ⟨fun r a b => (k.1 r a b).trans (h.1 r a b), fun j a b => (k.2.1 j a b).trans (h.2.1 j a b), k.2.2.trans h.2.2⟩
theorem fM.tr {N N1 N2 : eg_H} (h : fM N N1) (k : fM N1 N2) : fM N N2 := ⟨fun r a => (k.1 r a).trans (h.1 r a), fun j a => (k.2.1 j a).trans (h.2.1 j a), k.2.2.trans h.2.2⟩
/-- what reading a text changes -/
def wC (q : Nat) (M M1 : eg_H) : Prop := (∀ r, ¬ pOf r q → r.1 ≠ 6 → r.1 ≠ 9 → r.1 ≠ 36 → M1.1 r = M.1 r) ∧ M1.2.2 = M.2.2
def hlf (N N1 : eg_H) : Prop := (∀ k, k < 5 → N1.1 (88, 0) k = N.1 (88, 0) k) ∧ (∀ k, k < 30 → N1.1 (89, 0) k = N.1 (89, 0) k) ∧ (∀ k, k < 9 → N1.1 (90, 0) k = N.1 (90, 0) k ∧ N1.1 (91, 0) k = N.1 (91, 0) k ∧ N1.1 (92, 0) k = N.1 (92, 0) k) ∧ (∀ k, k < 45 → N1.1 (93, 0) k = N.1 (93, 0) k) ∧ (∀ k, k < 4 → N1.1 (94, 0) k = N.1 (94, 0) k ∧ N1.1 (95, 0) k = N.1 (95, 0) k) ∧ (∀ k, k < 7 → N1.1 (96, 0) k = N.1 (96, 0) k ∧ N1.1 (97, 0) k = N.1 (97, 0) k) ∧ (∀ k, k < 3 → N1.1 (98, 0) k = N.1 (98, 0) k) ∧ ∀ k, k < 64 → N1.1 (99, 0) k = N.1 (99, 0) k ∧ N1.1 (100, 0) k = N.1 (100, 0) k ∧ N1.1 (101, 0) k = N.1 (101, 0) k
theorem hlf.rf {N N1 : eg_H} (h : ∀ k, 88 ≤ k → k ≤ 101 → N1.1 (k, 0) = N.1 (k, 0)) : hlf N N1 := by
  unfold hlf
  rw [h 88 (by omega) (by omega), h 89 (by omega) (by omega), h 90 (by omega) (by omega), h 91 (by omega) (by omega), h 92 (by omega) (by omega), h 93 (by omega) (by omega), h 94 (by omega) (by omega), h 95 (by omega) (by omega), h 96 (by omega) (by omega), h 97 (by omega) (by omega), h 98 (by omega) (by omega), h 99 (by omega) (by omega), h 100 (by omega) (by omega), h 101 (by omega) (by omega)]
  exact ⟨fun _ _ => rfl, fun _ _ => rfl, fun _ _ => ⟨rfl, rfl, rfl⟩, fun _ _ => rfl, fun _ _ => ⟨rfl, rfl⟩, fun _ _ => ⟨rfl, rfl⟩, fun _ _ => rfl, fun _ _ => ⟨rfl, rfl, rfl⟩⟩
theorem hlf.tr {N N1 N2 : eg_H} (h : hlf N N1) (k : hlf N1 N2) : hlf N N2 := by
  obtain ⟨a1, a2, a3, a4, a5, a6, a7, a8⟩ := h
  obtain ⟨b1, b2, b3, b4, b5, b6, b7, b8⟩ := k
  exact ⟨fun j hj => (b1 j hj).trans (a1 j hj), fun j hj => (b2 j hj).trans (a2 j hj), fun j hj => ⟨(b3 j hj).1.trans (a3 j hj).1, (b3 j hj).2.1.trans (a3 j hj).2.1, (b3 j hj).2.2.trans (a3 j hj).2.2⟩, fun j hj => (b4 j hj).trans (a4 j hj), fun j hj => ⟨(b5 j hj).1.trans (a5 j hj).1, (b5 j hj).2.trans (a5 j hj).2⟩, fun j hj => ⟨(b6 j hj).1.trans (a6 j hj).1, (b6 j hj).2.trans (a6 j hj).2⟩, fun j hj => (b7 j hj).trans (a7 j hj), fun j hj => ⟨(b8 j hj).1.trans (a8 j hj).1, (b8 j hj).2.1.trans (a8 j hj).2.1, (b8 j hj).2.2.trans (a8 j hj).2.2⟩⟩
def wM (N N1 : eg_H) : Prop := (∀ r, r.1 ≠ 60 → (r.1 < 88 ∨ 103 < r.1) → N1.1 r = N.1 r) ∧ (∀ k, (k < 4 ∨ (11 < k ∧ k < 19) ∨ (26 < k ∧ k < 43) ∨ 48 < k) → N1.1 (60, 0) k = N.1 (60, 0) k) ∧ hlf N N1 ∧ N1.2 = N.2
theorem wC.rf (q : Nat) (M : eg_H) : wC q M M := ⟨fun _ _ _ _ _ => rfl, rfl⟩
theorem wM.rf (N : eg_H) : wM N N := ⟨fun _ _ _ => rfl, fun _ _ => rfl, hlf.rf (fun _ _ _ => rfl), rfl⟩
theorem wC.tr {q : Nat} {M M1 M2 : eg_H} (h : wC q M M1) (k : wC q M1 M2) : wC q M M2 := ⟨fun r a b c d => (k.1 r a b c d).trans (h.1 r a b c d), k.2.trans h.2⟩
theorem wM.tr {N N1 N2 : eg_H} (h : wM N N1) (k : wM N1 N2) : wM N N2 := ⟨fun r a b => (k.1 r a b).trans (h.1 r a b), fun j a => (k.2.1 j a).trans (h.2.1 j a), h.2.2.1.tr k.2.2.1, k.2.2.2.trans h.2.2.2⟩
theorem fC.w {q : Nat} {M M1 : eg_H} (h : fC M M1) : wC q M M1 := ⟨fun r _ b c _ => h.1 r (fun z => c (by rw [z])) (fun z => b (by rw [z])), by rw [h.2.2]⟩
theorem fM.w {N N1 : eg_H} (h : fM N N1) : wM N N1 := ⟨fun r a _ => h.1 r (fun z => a (by rw [z])), fun k hk => h.2.1 k (by omega), hlf.rf (fun k _ _ => h.1 (k, 0) (kd_ne (by omega))), h.2.2⟩
/-- a fault told alike -/
def FL (q : Nat) (M N M1 N1 : eg_H) : Prop := wC q M M1 ∧ wM N N1 ∧ M1.1 (6, 0) 2 = N1.1 (60, 0) 4 ∧ M1.1 (6, 0) 3 = N1.1 (60, 0) 5 ∧ ¬ N1.1 (60, 0) 4 = 0
theorem FL.pre {q : Nat} {M0 N0 M N M1 N1 : eg_H} (hc : wC q M0 M) (hm : wM N0 N) (h : FL q M N M1 N1) : FL q M0 N0 M1 N1 := ⟨hc.tr h.1, hm.tr h.2.1, h.2.2⟩
theorem FL_mk (q : Nat) {M N : eg_H} {n a : Nat} (h : tA M N n a) (w : Int32) (hw : ¬ w = 0) : FL q M N (fX6_refuse M w).2 (fX11_wrong N w).2 := by
  obtain ⟨a1, a2, _⟩ := h.at'
  unfold fX6_refuse fX11_wrong
  dsimp only
  have e9 : (sI M (6, 0) 2 w).1 (9, 0) = M.1 (9, 0) := sI_ne (by decide)
  refine ⟨⟨fun r _ b _ _ => by rw [sI_ne (fun z => b (by rw [z])), sI_ne (fun z => b (by rw [z]))], rfl⟩, ⟨fun r b _ => by rw [sI_ne (fun z => b (by rw [z])), sI_ne (fun z => b (by rw [z]))], fun k hk => by rw [sI_60, if_neg (by omega), sI_60, if_neg (by omega)], hlf.rf (fun k _ _ => by rw [sI_ne (kd_ne (by omega)), sI_ne (kd_ne (by omega))]), rfl⟩, ?_, ?_, ?_⟩
  · rw [sI_i, if_neg (by decide), sI_i, if_pos ⟨rfl, rfl⟩, sI_60, if_neg (by decide), sI_60, if_pos rfl]
  · rw [sI_i, if_pos ⟨rfl, rfl⟩, sI_60, if_pos rfl, e9, a1, sI_60, if_neg (by decide), a2]
  · rw [sI_60, if_neg (by decide), sI_60, if_pos rfl]; exact hw
theorem ADV {M N : eg_H} {n a : Nat} (h : tA M N n a) : PV mtX9_advance mtX11_token [vR (9, 0)] [vR (60, 0)] 7 2 M N (fun M1 N1 => (fC M M1 ∧ M1.1 (6, 0) = M.1 (6, 0)) ∧ (fM N N1 ∧ N1.1 (60, 0) 11 = N.1 (60, 0) 11) ∧ ∃ a1, a ≤ a1 ∧ (¬ M.1 (9, 0) 4 = 39 → a < a1) ∧ tA M1 N1 n a1) := by
  obtain ⟨⟨h1, h6, hn⟩, hb, hw, e, hae, hen, ha, ha2, he, he2, tk, en⟩ := h
  obtain ⟨M1, N1, c, m, ⟨c1, c2, c3⟩, ⟨d1, d2, d3⟩, a1, e1, x1, x2, x3, x4, x5, x6, x7, x8, x9⟩ := TOK (M := M) (N := N) (n := n) (e := e) ⟨⟨h1, h6, hn⟩, ⟨he, he2, hen⟩, hb, hw⟩
  refine ⟨M1, N1, c, m, ⟨⟨fun r b _ => c1 r b, fun k _ _ => by rw [c1 _ (by decide)], c2⟩, c1 _ (by decide)⟩, ⟨⟨d1, fun k hk => d3 k (by omega), d2⟩, d3 11 (by omega)⟩, a1, by omega, fun z => ?_, ⟨⟨by rw [c3]; exact h1, by rw [d3 6 (by omega)]; exact h6, hn⟩, ?_, ?_, e1, x2, x3, x4, x5, x6, x7, x8, x9⟩⟩
  · rcases en with w | w
    · exact absurd w.1 z
    · omega
  · rw [c1 _ (by decide), d1 _ (by decide)]; exact hb
  · rw [d1 _ (by decide)]; exact hw
theorem NUM {M N : eg_H} {n a : Nat} (h : tA M N n a) (lo hi : Int32) : PI mtX6_readNumber mtX11_number [vR (6, 0), vI lo, vI hi] [vR (60, 0), vI lo, vI hi] 8 3 M N (fun r M1 N1 => (r = 1 ∧ fC M M1 ∧ fM N N1 ∧ (∃ a1, a < a1 ∧ tA M1 N1 n a1) ∧ M1.1 (6, 0) 6 = N1.1 (60, 0) 11 ∧ lo.toInt ≤ (N1.1 (60, 0) 11).toInt ∧ (N1.1 (60, 0) 11).toInt ≤ hi.toInt) ∨ (r = 0 ∧ ∀ q, FL q M N M1 N1)) := by
  obtain ⟨t, ek, ht, hc⟩ := tkN h.tk
  have k37 := nIq ht 37 (by omega)
  have k39 := nIq ht 39 (by omega)
  by_cases c : t = 37
  · have hkd : N.1 (60, 0) 8 = 3 ∧ N.1 (60, 0) 9 = M.1 (9, 0) 5 := by
      rcases hc with z | z | z | z | z | z | z
      · omega
      · omega
      · omega
      · exact ⟨z.2.1, z.2.2.1⟩
      · omega
      · omega
      · omega
    have e37 : M.1 (9, 0) 4 = 37 := by rw [ek, c]; rfl
    rcases isIn_n N (M.1 (9, 0) 5) lo hi with z | z
    · refine ⟨0, (fX6_refuse M 2).2, (fX11_wrong N 2).2, fun κ d hd => ?_, fun κ d hd => ?_, Or.inr ⟨rfl, fun q => FL_mk q h 2 (by decide)⟩⟩
      · refine eg_S.of rfl (Nat.le_of_ble_eq_true rfl) (vX6_readNumber_0 (by omega) M _ _ ⟨fun _ => ⟨fun _ x4 M3 e3 => ?_, fun y => ⟨fun y2 => ?_, fun _ x4 M3 e3 => ?_⟩⟩, fun y => absurd e37 y⟩)
        · exact ⟨congrArg Prod.fst e3, congrArg Prod.snd e3⟩
        · rw [t_lt] at y
          rw [t_le] at y2
          exact absurd ⟨by omega, y2⟩ z.2
        · exact ⟨congrArg Prod.fst e3, congrArg Prod.snd e3⟩
      · refine eg_S.of rfl (Nat.le_of_ble_eq_true rfl) (vX11_number_0 (by omega) N _ _ ⟨fun _ x3 e3 => ⟨fun y => ?_, fun _ x9 M8 e8 => ⟨congrArg Prod.fst e8, congrArg Prod.snd e8⟩⟩, fun y => absurd hkd.1 y⟩)
        rw [hkd.2] at e3
        exact absurd (e3.trans z.1) y
    · have hA : tA (sI M (6, 0) 6 (M.1 (9, 0) 5)) (sI N (60, 0) 11 (M.1 (9, 0) 5)) n a := h.cong (sI_ne (by decide)) (sI_ne (by decide)) (fun k _ _ => by rw [sI_60, if_neg (by omega)]) (sI_ne (by decide)) (sI_ne (by decide))
      obtain ⟨M1, N1, p1, p2, ⟨p3, p4⟩, ⟨p5, p6⟩, a1, p7, p8, p9⟩ := ADV hA
      have f0 : fC M (sI M (6, 0) 6 (M.1 (9, 0) 5)) := ⟨fun r _ b => sI_ne b, fun k x _ => by rw [sI_i, if_neg (fun w => x w.2)], rfl⟩
      have m0 : fM N (sI N (60, 0) 11 (M.1 (9, 0) 5)) := ⟨fun r b => sI_ne b, fun k x => by rw [sI_60, if_neg (by omega)], rfl⟩
      have v1 : M1.1 (6, 0) 6 = M.1 (9, 0) 5 := by rw [p4, sI_i, if_pos ⟨rfl, rfl⟩]
      have v2 : N1.1 (60, 0) 11 = M.1 (9, 0) 5 := by rw [p6, sI_60, if_pos rfl]
      refine ⟨1, M1, N1, fun κ d hd => ?_, fun κ d hd => ?_, Or.inl ⟨rfl, f0.tr p3, m0.tr p5, ⟨a1, p8 ?_, p9⟩, by rw [v1, v2], by rw [v2]; exact z.2.1, by rw [v2]; exact z.2.2⟩⟩
      · refine eg_S.of rfl (Nat.le_of_ble_eq_true rfl) (vX6_readNumber_0 (by omega) M _ _ ⟨fun _ => ⟨fun y => ?_, fun _ => ⟨fun _ M6 e6 => ?_, fun y => ?_⟩⟩, fun y => absurd e37 y⟩)
        · rw [t_lt] at y
          exact absurd z.2.1 (by omega)
        · rw [e6]
          exact ⟨_, p1 κ (d - 1) (by omega), fun M7 e7 => ⟨rfl, e7⟩⟩
        · rw [t_le] at y
          exact absurd z.2.2 y
      · refine eg_S.of rfl (Nat.le_of_ble_eq_true rfl) (vX11_number_0 (by omega) N _ _ ⟨fun _ x3 e3 => ⟨fun _ M5 e5 => ?_, fun y => ?_⟩, fun y => absurd hkd.1 y⟩)
        · rw [hkd.2] at e5
          rw [e5]
          exact ⟨_, p2 κ (d - 1) (by omega), fun M7 e7 => ⟨rfl, e7⟩⟩
        · rw [hkd.2] at e3
          exact absurd (y.symm.trans (e3.trans z.1)) (by decide)
      · rw [sI_ne (by decide), e37]; decide
  · have n37 : ¬ M.1 (9, 0) 4 = 37 := fun z => c (k37.mp (ek.symm.trans z))
    have nkd : ¬ N.1 (60, 0) 8 = 3 := by
      rcases hc with z | z | z | z | z | z | z
      · rw [z.2]; decide
      · rw [z.2.1]; decide
      · rw [z.2.1]; decide
      · exact absurd z.1 c
      · rw [z.2.1]; decide
      · rw [z.2.2.1]; decide
      · rw [z.2]; decide
    refine ⟨0, (fX6_refuse M 1).2, (fX11_wrong N 1).2, fun κ d hd => ?_, fun κ d hd => ?_, Or.inr ⟨rfl, fun q => FL_mk q h 1 (by decide)⟩⟩
    · exact eg_S.of rfl (Nat.le_of_ble_eq_true rfl) (vX6_readNumber_0 (by omega) M _ _ ⟨fun y => absurd y n37, fun _ x4 M3 e3 => ⟨congrArg Prod.fst e3, congrArg Prod.snd e3⟩⟩)
    · exact eg_S.of rfl (Nat.le_of_ble_eq_true rfl) (vX11_number_0 (by omega) N _ _ ⟨fun y => absurd y nkd, fun _ x4 M3 e3 => ⟨congrArg Prod.fst e3, congrArg Prod.snd e3⟩⟩)
