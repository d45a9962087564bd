/-! EASY QUESTIONS: fault, named, row, line, all, station -/
theorem t0_k (N : eg_H) {k : Nat} (hk : k ≠ 2) : (t0 N).1 (60, 0) k = N.1 (60, 0) k := by
  show (sI N (60, 0) 2 0).1 (60, 0) k = _
  rw [sI_60, if_neg hk]
theorem t0_o (N : eg_H) {r : eg_R} (h : r ≠ (60, 0)) : (t0 N).1 r = N.1 r := sI_ne h
theorem st_fault {M N : eg_H} {C p : Nat} (h : JJ M N C p) (x : Int32) : StI mtX10_fault mtX11_fault [vI x] M N C := by
  have F0 : FrN N (t0 N) := FrN_f N (by omega) 0
  obtain ⟨_, _, e2, e3, _⟩ := h.2.2.2.2
  have k4 : (sI N (60, 0) 2 (0 : Int32)).1 (60, 0) 4 = N.1 (60, 0) 4 := t0_k N (by decide)
  have k5 : (sI N (60, 0) 2 (0 : Int32)).1 (60, 0) 5 = N.1 (60, 0) 5 := t0_k N (by decide)
  refine StI.q h (fX10_fault M x) (fun κ => ?_) (fun κ => ?_)
  · refine eg_S.of rfl (Nat.le_of_ble_eq_true rfl) (vX10_fault_0 M _ ⟨fun c => ⟨fun c1 => ⟨?_, FrQ.rf p M⟩, fun c1 => ⟨?_, FrQ.rf p M⟩⟩, fun c => ⟨?_, FrQ.rf p M⟩⟩)
    · unfold fX10_fault; rw [if_pos c, if_pos c1]
    · unfold fX10_fault; rw [if_pos c, if_neg (fun q => q c1)]
    · unfold fX10_fault; rw [if_neg (fun q => q c)]
  · refine eg_S.of rfl (Nat.le_of_ble_eq_true rfl) (vX11_fault_0 N _ ⟨fun c => ⟨fun c1 => ⟨?_, F0⟩, fun c1 => ⟨?_, F0⟩⟩, fun c => ⟨?_, F0⟩⟩)
    · unfold fX10_fault; rw [if_pos c, if_pos c1]
    · unfold fX10_fault; rw [if_pos c, if_neg (fun q => q c1), k5, e3]
    · unfold fX10_fault; rw [if_neg (fun q => q c), k4, e2]
theorem named_e {M N : eg_H} {p : Nat} (h : PL M p N) (x : Int32) : fX5_stationOf M p x = fX11_find N (88, 0) 0 (N.1 (60, 0) 12) x ∧ fX5_guestOf M p x = fX11_find N (90, 0) 0 (N.1 (60, 0) 13) x ∧ fX5_mayOf M p x = fX11_find N (94, 0) 0 (N.1 (60, 0) 14) x := by
  have z : (0 : Int32).toNatClampNeg = 0 := rfl
  unfold fX5_stationOf fX5_guestOf fX5_mayOf fX11_find
  rw [z, h.en, h.eg, h.em]
  refine ⟨fst1_cong _ _ (fun j _ hj => ?_), fst1_cong _ _ (fun j _ hj => ?_), fst1_cong _ _ (fun j _ hj => ?_)⟩
  · rw [(h.s (s := j) (by omega)).1, Nat.zero_add]
  · rw [(h.g (g := j) (by omega)).1, Nat.zero_add]
  · rw [(h.m (y := j) (by omega)).1, Nat.zero_add]
theorem st_named {M N : eg_H} {C p : Nat} (h : JJ M N C p) (x y : Int32) : StI mtX10_named mtX11_named [vI x, vI y] M N C := by
  have F0 : FrN N (t0 N) := FrN_f N (by omega) 0
  have hp := h.hp
  have pl0 : PL M p (t0 N) := h.1.2.1.cong (fun _ _ => rfl) F0.T
  obtain ⟨n0, n1, n2⟩ := named_e pl0 y
  have a0 := vp_lt pl0.hn
  have a1 := vp_lt pl0.hg
  have a2 := vp_lt pl0.hm
  have i0 := pl0.hn
  have i1 := pl0.hg
  have i2 := pl0.hm
  rw [t_in] at i0 i1 i2
  refine StI.q h (if x = 0 then fX5_stationOf M p y else if x = 1 then fX5_guestOf M p y else if x = 2 then fX5_mayOf M p y else -1) (fun κ => ?_) (fun κ => ?_)
  · refine eg_S.of rfl (Nat.le_of_ble_eq_true rfl) (vX10_named_0 (by omega) M _ _ ⟨fun c0 c1 c2 => ⟨?_, FrQ.rf p M⟩, fun c => ⟨p, hp.2.1, hp.1.1, ?_, fun x4 e4 => ⟨?_, FrQ.rf p M⟩⟩, fun c => ⟨p, hp.2.1, hp.1.1, ?_, fun x4 e4 => ⟨?_, FrQ.rf p M⟩⟩, fun c => ⟨p, hp.2.1, hp.1.1, ?_, fun x4 e4 => ⟨?_, FrQ.rf p M⟩⟩⟩)
    · rw [if_neg c0, if_neg c1, if_neg c2]
    · show vp_in (M.1 (5, p) 0) 6
      rw [pl0.en]; exact pl0.hn
    · rw [e4, if_pos c]
    · show vp_in (M.1 (5, p) 2) 10
      rw [pl0.eg]; exact pl0.hg
    · rw [e4, c, if_neg (by decide), if_pos rfl]
    · show vp_in (M.1 (5, p) 7) 5
      rw [pl0.em]; exact pl0.hm
    · rw [e4, c, if_neg (by decide), if_neg (by decide), if_pos rfl]
  · refine eg_S.of rfl (Nat.le_of_ble_eq_true rfl) (vX11_named_0 (by omega) N _ _ (fun M1 e1 => ?_))
    have e1 : M1 = t0 N := e1
    rw [e1]
    refine ⟨fun c0 => ⟨fun c1 => ⟨fun c2 => ⟨?_, F0⟩, fun c => ⟨?_, fun x4 e4 => ⟨?_, F0⟩⟩⟩, fun c => ⟨?_, fun x4 e4 => ⟨?_, F0⟩⟩⟩, fun c => ⟨?_, fun x4 e4 => ⟨?_, F0⟩⟩⟩
    · rw [if_neg c0, if_neg c1, if_neg c2]
    · refine ⟨nI_in' (n := 0) (by omega) (by omega), by rw [t_in]; omega, ?_⟩
      show 0 + _ ≤ 8
      omega
    · rw [e4, c, if_neg (by decide), if_neg (by decide), if_pos rfl, n2]
    · refine ⟨nI_in' (n := 0) (by omega) (by omega), by rw [t_in]; omega, ?_⟩
      show 0 + _ ≤ 18
      omega
    · rw [e4, c, if_neg (by decide), if_pos rfl, n1]
    · refine ⟨nI_in' (n := 0) (by omega) (by omega), by rw [t_in]; omega, ?_⟩
      show 0 + _ ≤ 10
      omega
    · rw [e4, if_pos c, n0]
theorem st_row {M N : eg_H} {C p : Nat} (h : JJ M N C p) (x : Int32) : StI mtX10_row mtX11_row [vI x] M N C := by
  have F0 : FrN N (t0 N) := FrN_f N (by omega) 0
  have hp := h.hp
  have pl0 : PL M p (t0 N) := h.1.2.1.cong (fun _ _ => rfl) F0.T
  have n6 := (cN_e pl0.cW).2
  rcases isStation_n (t0 N) x pl0.hn with z | z
  · refine StI.q h (-1) (fun κ => ?_) (fun κ => ?_)
    · refine eg_S.of rfl (Nat.le_of_ble_eq_true rfl) (vX10_row_0 (by omega) M _ ⟨p, hp.2.1, hp.1.1, fun x3 e3 => ?_⟩)
      rw [hasStation_n pl0, z.1] at e3
      exact ⟨fun c => absurd e3 c, fun x5 e5 => ⟨by rw [e5, if_pos e3], FrQ.rf p M⟩⟩
    · exact eg_S.of rfl (Nat.le_of_ble_eq_true rfl) (vX11_row_0 (by omega) N _ ⟨fun _ => ⟨rfl, F0⟩, fun c => absurd z.1 c⟩)
  · have hx := z.2
    rw [← pl0.n1] at hx
    obtain ⟨ex, hs⟩ := nI_of' hx (by omega)
    refine StI.q h (M.1 (40, 0) x.toNatClampNeg) (fun κ => ?_) (fun κ => ?_)
    · refine eg_S.of rfl (Nat.le_of_ble_eq_true rfl) (vX10_row_0 (by omega) M _ ⟨p, hp.2.1, hp.1.1, fun x3 e3 => ?_⟩)
      rw [hasStation_n pl0, z.1] at e3
      have c : ¬ x3 = 0 := by rw [e3]; decide
      exact ⟨fun _ => by rw [t_in] at hx ⊢; omega, fun x5 e5 => ⟨by rw [e5, if_neg c], FrQ.rf p M⟩⟩
    · have c : ¬ fX11_isStation (t0 N) x = 0 := by rw [z.1]; decide
      have e : (360 : Int32) + x = nI (360 + x.toNatClampNeg) := by
        rw [← nI_add, ← ex]; rfl
      refine eg_S.of rfl (Nat.le_of_ble_eq_true rfl) (vX11_row_0 (by omega) N _ ⟨fun q => absurd q c, fun _ => ?_⟩)
      rw [e]
      refine ⟨nI_in' (by omega) (by omega), ?_, F0⟩
      rw [nI_t (by omega), h.row hs]
      rfl
theorem st_line {M N : eg_H} {C p : Nat} (h : JJ M N C p) (x : Int32) : StI mtX10_line mtX11_line [vI x] M N C := by
  have F0 : FrN N (t0 N) := FrN_f N (by omega) 0
  have ry := h.1.2.2.1.1
  have ti := h.1.2.2.1.2.1.1
  have e6 : M.1 (7, 0) 6 = N.1 (111, 0) 1 := ry.q
  have hY := h.1.2.1.cW.2.2.2.2.1.2.1
  have e111 : (sI N (60, 0) 2 (0 : Int32)).1 (111, 0) = N.1 (111, 0) := t0_o N (by decide)
  have o1 : (1 : Int32).toNatClampNeg = 1 := rfl
  obtain ⟨ey, hy⟩ := nI_of' ti.1 (by omega)
  have k : ¬ x < 0 → ¬ N.1 (111, 0) 1 ≤ x → ∃ n, x = nI n ∧ n < (N.1 (111, 0) 1).toNatClampNeg := by
    intro c1 c2
    rw [ey, t_le, t_nI (by omega)] at c2
    rw [t_lt, t_0] at c1
    have hx : vp_in x (N.1 (111, 0) 1).toNatClampNeg := by rw [t_in]; omega
    exact ⟨_, nI_of' hx (by omega)⟩
  refine StI.q h (fX10_line M x) (fun κ => ?_) (fun κ => ?_)
  · refine eg_S.of rfl (Nat.le_of_ble_eq_true rfl) (vX10_line_0 M _ ⟨fun c => ⟨?_, FrQ.rf p M⟩, fun c => ⟨fun c1 => ⟨?_, FrQ.rf p M⟩, fun c1 => ⟨?_, ?_, FrQ.rf p M⟩⟩⟩)
    · unfold fX10_line; rw [if_pos c]
    · unfold fX10_line; rw [if_neg c, if_pos c1]
    · rw [e6] at c1
      obtain ⟨n, e, hn⟩ := k c c1
      rw [e]
      exact nI_in' (by omega) (by omega)
    · unfold fX10_line; rw [if_neg c, if_neg c1]
  · refine eg_S.of rfl (Nat.le_of_ble_eq_true rfl) (vX11_line_0 N _ ⟨fun c => ⟨?_, F0⟩, fun c => ⟨nI_in' (n := 1) (by omega) (by omega), fun c1 => ⟨?_, F0⟩, fun c1 => ?_⟩⟩)
    · unfold fX10_line; rw [if_pos c]
    · rw [e111, o1] at c1
      unfold fX10_line; rw [if_neg c, e6, if_pos c1]
    · rw [e111, o1] at c1
      obtain ⟨n, e, hn⟩ := k c c1
      have e2 : (2 : Int32) + x = nI (2 + n) := by rw [← nI_add, ← e]; rfl
      rw [e2]
      refine ⟨nI_in' (by omega) (by omega), ?_, F0⟩
      unfold fX10_line
      rw [if_neg c, e6, if_neg c1, e111, nI_t (by omega), e, nI_t (by omega), ← ry.k hn, aT_q _ _ _ (by omega)]
