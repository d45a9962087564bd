/-! A TEXT BEGINS -/
def clPl (M : eg_H) (q : Nat) : eg_H := sI (sI (sI (sI (sI (sI (sI (sI (sI (sI (sI M (5, q) 0 0) (5, q) 2 0) (5, q) 4 0) (5, q) 5 0) (5, q) 6 3600) (5, q) 7 0) (35, q) 0 (-1)) (35, q) 1 (-1)) (35, q) 2 (-1)) (3, q) 3 0) (3, q) 4 0
theorem sX5_clear {κ : eg_K} {d : Nat} (hd : 1 ≤ d) (M : eg_H) {q : Nat} (hq : q < 2) : eg_S κ gC mtX5_clear d [vR (5, q)] M (eQV κ gC (fun X => X = clPl M q)) := by
  refine eg_S.of rfl (Nat.le_of_ble_eq_true rfl) (vX5_clear_0 M hq (fun M1 e1 M2 e2 M3 e3 M4 e4 M5 e5 M6 e6 => ?_))
  refine vX5_clear_34 hd M6 hq _ ⟨fun c => absurd c (by decide), fun _ => ⟨nI_in' (n := 0) (by omega) (by omega), fun A1 a1 x1 b1 => ?_⟩⟩
  rw [b1.trans (show (0 : Int32) + 1 = 1 by decide)]
  refine vX5_clear_34 hd A1 hq _ ⟨fun c => absurd c (by decide), fun _ => ⟨nI_in' (n := 1) (by omega) (by omega), fun A2 a2 x2 b2 => ?_⟩⟩
  rw [b2.trans (show (1 : Int32) + 1 = 2 by decide)]
  refine vX5_clear_34 hd A2 hq _ ⟨fun c => absurd c (by decide), fun _ => ⟨nI_in' (n := 2) (by omega) (by omega), fun A3 a3 x3 b3 => ?_⟩⟩
  rw [b3.trans (show (2 : Int32) + 1 = 3 by decide)]
  refine vX5_clear_34 hd A3 hq _ ⟨fun _ Z z => ?_, fun c => absurd (by decide) c⟩
  rw [z, a3, a2, a1, e6, e5, e4, e3, e2, e1]
  rfl
def plH (N : eg_H) : eg_H := sI (sI (sI (sI (sI (sI (sI (sI (sI (sI (sI (sI N (60, 0) 19 0) (60, 0) 20 0) (60, 0) 21 0) (60, 0) 22 0) (60, 0) 46 0) (60, 0) 23 0) (60, 0) 24 0) (60, 0) 25 3600) (60, 0) 26 0) (98, 0) 3 0) (98, 0) 4 0) (98, 0) 5 0
theorem sX11_plain {κ : eg_K} {d : Nat} (N : eg_H) : eg_S κ gM mtX11_plain d [vR (60, 0)] N (eQV κ gM (fun X => X = plH N)) := by
  refine eg_S.of rfl (Nat.le_of_ble_eq_true rfl) (vX11_plain_0 N (fun M1 e1 M2 e2 M3 e3 M4 e4 M5 e5 M6 e6 M7 e7 M8 e8 M9 e9 => ?_))
  refine vX11_plain_49 M9 _ ⟨fun c => absurd c (by decide), fun _ => ⟨nI_in' (n := 3) (by omega) (by omega), fun A1 a1 x1 b1 => ?_⟩⟩
  rw [b1.trans (show (0 : Int32) + 1 = 1 by decide)]
  refine vX11_plain_49 A1 _ ⟨fun c => absurd c (by decide), fun _ => ⟨nI_in' (n := 4) (by omega) (by omega), fun A2 a2 x2 b2 => ?_⟩⟩
  rw [b2.trans (show (1 : Int32) + 1 = 2 by decide)]
  refine vX11_plain_49 A2 _ ⟨fun c => absurd c (by decide), fun _ => ⟨nI_in' (n := 5) (by omega) (by omega), fun A3 a3 x3 b3 => ?_⟩⟩
  rw [b3.trans (show (2 : Int32) + 1 = 3 by decide)]
  refine vX11_plain_49 A3 _ ⟨fun _ => ?_, fun c => absurd (by decide) c⟩
  rw [nar0] at a1 a2 a3
  rw [a3, a2, a1, e9, e8, e7, e6, e5, e4, e3, e2, e1]
  rfl
/-- the heaps before the first token -/
def bgC (M : eg_H) (q n : Nat) : eg_H := sI (sI (sI (sI (sI (sI (sI (clPl (sR (sI M (10, 0) 1 0) (6, 0) 1 (5, q)) q) (6, 0) 2 0) (6, 0) 3 (-1)) (6, 0) 4 0) (6, 0) 8 0) (6, 0) 5 0) (9, 0) 1 (nI n)) (9, 0) 3 0
def bgN (N : eg_H) (n : Nat) : eg_H := plH (sI (sI (sI (sI (sI (sI N (60, 0) 2 0) (60, 0) 6 (nI n)) (60, 0) 1 0) (60, 0) 4 0) (60, 0) 5 (-1)) (60, 0) 7 0)
theorem clPl_o {M : eg_H} {q : Nat} {r : eg_R} (h1 : r ≠ (5, q)) (h2 : r ≠ (35, q)) (h3 : r ≠ (3, q)) : (clPl M q).1 r = M.1 r := by
  unfold clPl
  rw [sI_ne h3, sI_ne h3, sI_ne h2, sI_ne h2, sI_ne h2, sI_ne h1, sI_ne h1, sI_ne h1, sI_ne h1, sI_ne h1, sI_ne h1]
theorem clPl_5 (M : eg_H) (q k : Nat) : (clPl M q).1 (5, q) k = if k = 7 then 0 else if k = 6 then 3600 else if k = 5 then 0 else if k = 4 then 0 else if k = 2 then 0 else if k = 0 then 0 else M.1 (5, q) k := by
  unfold clPl
  rw [sI_ne (kd_ne (by decide)), sI_ne (kd_ne (by decide)), sI_ne (kd_ne (by decide)), sI_ne (kd_ne (by decide)), sI_ne (kd_ne (by decide)), sI_rr, sI_rr, sI_rr, sI_rr, sI_rr, sI_rr]
theorem clPl_35 (M : eg_H) (q : Nat) {l : Nat} (h : l < 3) : (clPl M q).1 (35, q) l = -1 := by
  unfold clPl
  rw [sI_ne (kd_ne (by decide)), sI_ne (kd_ne (by decide)), sI_rr, sI_rr, sI_rr]
  have : l = 0 ∨ l = 1 ∨ l = 2 := by omega
  rcases this with z | z | z <;> subst z <;> rfl
theorem clPl_3 (M : eg_H) (q : Nat) {l : Nat} (h : l = 3 ∨ l = 4) : (clPl M q).1 (3, q) l = 0 := by
  unfold clPl
  rw [sI_rr, sI_rr]
  rcases h with z | z <;> subst z <;> rfl
theorem bgC_o {M : eg_H} {q n : Nat} {r : eg_R} (h : r ≠ (5, q) ∧ r ≠ (35, q) ∧ r ≠ (3, q) ∧ r ≠ (6, 0) ∧ r ≠ (9, 0) ∧ r ≠ (10, 0)) : (bgC M q n).1 r = M.1 r := by
  unfold bgC
  rw [sI_ne h.2.2.2.2.1, sI_ne h.2.2.2.2.1, sI_ne h.2.2.2.1, sI_ne h.2.2.2.1, sI_ne h.2.2.2.1, sI_ne h.2.2.2.1, sI_ne h.2.2.2.1, clPl_o h.1 h.2.1 h.2.2.1]
  show (sI M (10, 0) 1 0).1 r = _
  rw [sI_ne h.2.2.2.2.2]
theorem bgC_p {M : eg_H} {q n : Nat} {r : eg_R} (h : r ≠ (6, 0) ∧ r ≠ (9, 0)) : (bgC M q n).1 r = (clPl (sR (sI M (10, 0) 1 0) (6, 0) 1 (5, q)) q).1 r := by
  unfold bgC
  rw [sI_ne h.2, sI_ne h.2, sI_ne h.1, sI_ne h.1, sI_ne h.1, sI_ne h.1, sI_ne h.1]
theorem bgC_6 (M : eg_H) (q n : Nat) : (bgC M q n).1 (6, 0) 2 = 0 ∧ (bgC M q n).1 (6, 0) 3 = -1 ∧ (bgC M q n).1 (6, 0) 4 = 0 ∧ (bgC M q n).1 (6, 0) 8 = 0 ∧ (bgC M q n).1 (6, 0) 5 = 0 := by
  unfold bgC
  rw [sI_ne (by decide), sI_ne (by decide)]
  refine ⟨?_, ?_, ?_, ?_, ?_⟩
  all_goals
    rw [sI_rr, sI_rr, sI_rr, sI_rr, sI_rr]
    rfl
theorem bgC_10 (M : eg_H) (q n k : Nat) : (bgC M q n).1 (10, 0) k = if k = 1 then 0 else M.1 (10, 0) k := by
  rw [bgC_p ⟨by decide, by decide⟩, clPl_o (kd_ne (by decide)) (kd_ne (by decide)) (kd_ne (by decide))]
  show (sI M (10, 0) 1 0).1 (10, 0) k = _
  rw [sI_rr]
theorem bgC_r (M : eg_H) (q n : Nat) (r : eg_R) (k : Nat) : (bgC M q n).2.2 r k = if r = (6, 0) ∧ k = 1 then (5, q) else M.2.2 r k := rfl
theorem bgN_o {N : eg_H} {n : Nat} {r : eg_R} (h : r ≠ (60, 0) ∧ r ≠ (98, 0)) : (bgN N n).1 r = N.1 r := by
  unfold bgN plH
  rw [sI_ne h.2, sI_ne h.2, sI_ne h.2, sI_ne h.1, sI_ne h.1, sI_ne h.1, sI_ne h.1, sI_ne h.1, sI_ne h.1, sI_ne h.1, sI_ne h.1, sI_ne h.1, sI_ne h.1, sI_ne h.1, sI_ne h.1, sI_ne h.1, sI_ne h.1, sI_ne h.1]
theorem bgN_98 (N : eg_H) (n k : Nat) : (bgN N n).1 (98, 0) k = if k = 5 then 0 else if k = 4 then 0 else if k = 3 then 0 else N.1 (98, 0) k := by
  unfold bgN plH
  rw [sI_rr, sI_rr, sI_rr, sI_ne (by decide), sI_ne (by decide), sI_ne (by decide), sI_ne (by decide), sI_ne (by decide), sI_ne (by decide), sI_ne (by decide), sI_ne (by decide), sI_ne (by decide), sI_ne (by decide), sI_ne (by decide), sI_ne (by decide), sI_ne (by decide), sI_ne (by decide), sI_ne (by decide)]
theorem bgN_f (N : eg_H) (n k : Nat) : (bgN N n).1 (60, 0) k = if k = 26 then 0 else if k = 25 then 3600 else if k = 24 then 0 else if k = 23 then 0 else if k = 46 then 0 else if k = 22 then 0 else if k = 21 then 0 else if k = 20 then 0 else if k = 19 then 0 else if k = 7 then 0 else if k = 5 then -1 else if k = 4 then 0 else if k = 1 then 0 else if k = 6 then nI n else if k = 2 then 0 else N.1 (60, 0) k := by
  unfold bgN plH
  rw [sI_ne (by decide), sI_ne (by decide), sI_ne (by decide), sI_60, sI_60, sI_60, sI_60, sI_60, sI_60, sI_60, sI_60, sI_60, sI_60, sI_60, sI_60, sI_60, sI_60, sI_60]
theorem bgN_k (N : eg_H) (n : Nat) {k : Nat} (h : k ≠ 26 ∧ k ≠ 25 ∧ k ≠ 24 ∧ k ≠ 23 ∧ k ≠ 46 ∧ k ≠ 22 ∧ k ≠ 21 ∧ k ≠ 20 ∧ k ≠ 19 ∧ k ≠ 7 ∧ k ≠ 5 ∧ k ≠ 4 ∧ k ≠ 1 ∧ k ≠ 6 ∧ k ≠ 2) : (bgN N n).1 (60, 0) k = N.1 (60, 0) k := by
  rw [bgN_f, if_neg (by omega), if_neg (by omega), if_neg (by omega), if_neg (by omega), if_neg (by omega), if_neg (by omega), if_neg (by omega), if_neg (by omega), if_neg (by omega), if_neg (by omega), if_neg (by omega), if_neg (by omega), if_neg (by omega), if_neg (by omega), if_neg (by omega)]
theorem bg_tI {M N : eg_H} {q n t : Nat} (hn : n ≤ t) (ht : t ≤ 800) (hb : ∀ i, i < t → bR (M.1 (50, 0) i) (N.1 (61, 0) i)) (hw : ∀ i, i < 121 → N.1 (64, 0) i = wdM i) : tI (bgC M q n) (bgN N n) n 0 := by
  refine ⟨⟨?_, ?_, by omega⟩, ⟨?_, ?_, by omega⟩, fun i hi => ?_, fun i hi => ?_⟩
  · unfold bgC
    rw [sI_rr, if_neg (by decide), sI_rr, if_pos rfl]
  · rw [bgN_f]; rfl
  · unfold bgC
    rw [sI_rr, if_pos rfl]; rfl
  · rw [bgN_f]; rfl
  · rw [bgC_o ⟨kd_ne (by decide), kd_ne (by decide), kd_ne (by decide), by decide, by decide, by decide⟩, bgN_o ⟨by decide, by decide⟩]
    exact hb i (by omega)
  · rw [bgN_o ⟨by decide, by decide⟩]; exact hw i hi
theorem bg_RD {M N M1 N1 : eg_H} {q n : Nat} (hq : q < 2) (hI : tI (bgC M q n) (bgN N n) n 0) (hO : tO (bgC M q n) (bgN N n) n 0 M1 N1) : ∃ a, RD q n a M1 N1 ∧ wC q (bgC M q n) M1 ∧ wM (bgN N n) N1 ∧ M1.1 (6, 0) 4 = nI 0 := by
  obtain ⟨⟨i1, i2, i3⟩, _, i5, i6⟩ := hI
  obtain ⟨⟨c1, c2, c3⟩, ⟨d1, d2, d3⟩, a, e1, x1, x2, x3, x4, x5, x6, x7, x8, x9⟩ := hO
  have g6 := bgC_6 M q n
  have m6 : M1.1 (6, 0) = (bgC M q n).1 (6, 0) := c1 _ (by decide)
  have mp : ∀ k, k = 5 ∨ k = 35 ∨ k = 3 → M1.1 (k, q) = (clPl (sR (sI M (10, 0) 1 0) (6, 0) 1 (5, q)) q).1 (k, q) := fun k hk => by
    rw [c1 _ (kd_ne (by omega)), bgC_p ⟨kd_ne (by omega), kd_ne (by omega)⟩]
  have n98 : N1.1 (98, 0) = (bgN N n).1 (98, 0) := d1 _ (by decide)
  have z98 : ∀ l, l < 3 → N1.1 (98, 0) (3 + l) = 0 := fun l hl => by
    rw [n98, bgN_98]
    have : l = 0 ∨ l = 1 ∨ l = 2 := by omega
    rcases this with z | z | z <;> subst z <;> rfl
  have nf : ∀ k, 19 ≤ k ∧ k ≤ 26 ∨ k = 46 ∨ k = 4 ∨ k = 5 → N1.1 (60, 0) k = (bgN N n).1 (60, 0) k := fun k hk => d3 k (by omega)
  have n21 : N1.1 (60, 0) 21 = 0 := by rw [nf 21 (by omega), bgN_f]; rfl
  have tl0 : tl N1 = 0 := by
    unfold tl
    rw [show N1.1 (98, 0) 3 = 0 from z98 0 (by omega), show N1.1 (98, 0) 4 = 0 from z98 1 (by omega), show N1.1 (98, 0) 5 = 0 from z98 2 (by omega), n21]
    rfl
  refine ⟨a, ⟨⟨hq, ?_⟩, ⟨⟨by rw [c3]; exact i1, by rw [d3 6 (by omega)]; exact i2, i3⟩, ?_, ?_, e1, x2, x3, x4, x5, x6, x7, x8, x9⟩, ?_, ⟨?_, Or.inl ?_⟩, ⟨0, by omega, ?_, ?_, ?_, fun u hu => ?_⟩, ?_, ?_, ?_, ?_, ?_, fun l hl => Or.inl (z98 l hl)⟩, ?_, ?_, ?_⟩
  · rw [c2]; rfl
  · rw [c1 _ (by decide), d1 _ (by decide)]; exact i5
  · rw [d1 _ (by decide)]; exact i6
  · have k5 : ∀ k, M1.1 (5, q) k = (clPl (sR (sI M (10, 0) 1 0) (6, 0) 1 (5, q)) q).1 (5, q) k := fun k => by rw [mp 5 (by omega)]
    have e17 : (kp N1).1 (60, 0) 17 = 0 := by rw [kp_60 _ (by omega), nf _ (by omega), bgN_f]; rfl
    have e18 : (kp N1).1 (60, 0) 18 = 3600 := by rw [kp_60 _ (by omega), nf _ (by omega), bgN_f]; rfl
    refine ⟨hq, ⟨?_, ?_⟩, ⟨?_, ?_⟩, ⟨?_, ?_⟩, ?_, ⟨Or.inl ?_, ?_⟩, ⟨⟨?_, ?_⟩, ?_⟩, ⟨⟨?_, ?_⟩, ?_⟩, fun s hs => absurd hs ?_, fun s hs => absurd hs ?_, fun s hs => absurd hs ?_, fun l hl => Or.inl ⟨?_, ?_⟩⟩
    · rw [kp_60 _ (by omega), nf _ (by omega), bgN_f]; exact nI_in' (n := 0) (by omega) (by omega)
    · rw [kp_60 _ (by omega), nf _ (by omega), bgN_f, k5, clPl_5]; rfl
    · rw [kp_60 _ (by omega), nf _ (by omega), bgN_f]; exact nI_in' (n := 0) (by omega) (by omega)
    · rw [kp_60 _ (by omega), nf _ (by omega), bgN_f, k5, clPl_5]; rfl
    · rw [kp_60 _ (by omega), nf _ (by omega), bgN_f]; exact nI_in' (n := 0) (by omega) (by omega)
    · rw [kp_60 _ (by omega), nf _ (by omega), bgN_f, k5, clPl_5]; rfl
    · rw [kp_60 _ (by omega), nf _ (by omega), bgN_f, mp 3 (by omega), clPl_3 _ _ (by omega)]; rfl
    · rw [kp_60 _ (by omega), nf _ (by omega), bgN_f]; rfl
    · rw [kp_60 _ (by omega), nf _ (by omega), bgN_f, k5, clPl_5]; rfl
    · rw [e17]; decide
    · rw [e17]; decide
    · rw [kp_60 _ (by omega), nf _ (by omega), bgN_f, k5, clPl_5]; rfl
    · rw [e18]; decide
    · rw [e18]; decide
    · rw [kp_60 _ (by omega), nf _ (by omega), bgN_f, k5, clPl_5]; rfl
    · rw [kp_60 _ (by omega), nf _ (by omega), bgN_f]; exact Nat.not_lt_zero s
    · rw [kp_60 _ (by omega), nf _ (by omega), bgN_f]; exact Nat.not_lt_zero s
    · rw [kp_60 _ (by omega), nf _ (by omega), bgN_f]; exact Nat.not_lt_zero s
    · rw [mp 35 (by omega), clPl_35 _ _ hl]
    · rw [kp_98, Nat.add_comm]; exact z98 l hl
  · rw [m6, g6.2.2.2.2, nf 26 (by omega), bgN_f]; rfl
  · rw [nf 26 (by omega), bgN_f]; rfl
  · rw [m6, g6.2.2.2.1]; rfl
  · rw [nf 46 (by omega), bgN_f]; rfl
  · rw [nf 22 (by omega), bgN_f]; rfl
  · rw [tl0] at hu; exact absurd hu (Nat.not_lt_zero u)
  · rw [tl0, mp 3 (by omega), clPl_3 _ _ (by omega)]; rfl
  · rw [m6, g6.1]
  · rw [m6, g6.2.1]
  · rw [nf 4 (by omega), bgN_f]; rfl
  · rw [nf 5 (by omega), bgN_f]; rfl
  · exact ⟨fun r _ _ h9 _ => c1 r (fun z => h9 (by rw [z])), by rw [c2]⟩
  · exact ⟨fun r h6 _ => d1 r (fun z => h6 (by rw [z])), fun k hk => d3 k (by omega), hlf.rf (fun k _ _ => d1 _ (kd_ne (by omega))), d2⟩
  · rw [m6, g6.2.2.1]; rfl
