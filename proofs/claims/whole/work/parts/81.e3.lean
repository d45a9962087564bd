/-! FEED -/
theorem bR_y (y : Int32) : bR (vp_nar .byte (y.toInt8.toInt32)) (y &&& 255) := by
  have e1 : (vp_nar .byte (y.toInt8.toInt32)).toInt = y.toInt.bmod 256 := by
    rw [vp_nar_byte, Int8.toInt_toInt32, Int32.toInt_toInt8, Int8.toInt_toInt32, Int32.toInt_toInt8]
    exact Int.bmod_bmod
  have e2 : (y &&& 255).toInt = ((y.toBitVec.toNat % 256 : Nat) : Int) := by
    have a : (y &&& 255).toBitVec.toNat = y.toBitVec.toNat % 256 := by
      rw [Int32.toBitVec_and, BitVec.toNat_and]
      exact Nat.and_two_pow_sub_one_eq_mod _ 8
    show (y &&& 255).toBitVec.toInt = _
    rw [BitVec.toInt_eq_toNat_bmod, a]
    have : y.toBitVec.toNat % 256 < 256 := Nat.mod_lt _ (by decide)
    exact Int.bmod_eq_of_le (by omega) (by omega)
  have e3 : y.toInt = (y.toBitVec.toNat : Int).bmod (2 ^ 32) := BitVec.toInt_eq_toNat_bmod _
  have e4 : y.toInt.bmod 256 = (y.toBitVec.toNat : Int).bmod 256 := by
    rw [e3]
    exact Int.bmod_bmod_of_dvd ⟨16777216, by decide⟩
  rw [e4] at e1
  generalize y.toBitVec.toNat = n at e1 e2
  have e5 : (n : Int).bmod 256 = if n % 256 < 128 then ((n % 256 : Nat) : Int) else ((n % 256 : Nat) : Int) - 256 := by
    rw [Int.bmod_def]
    split <;> split <;> omega
  rw [e5] at e1
  by_cases c : n % 256 < 128
  · rw [if_pos c] at e1
    exact Or.inl ⟨by omega, by omega, t_eq.mpr (by omega)⟩
  · rw [if_neg c] at e1
    exact Or.inr ⟨by omega, by omega, by omega⟩
def wv (l : Nat → Int32) (n : Nat) : Int32 := l (n / 4) >>> (nI (24 - 8 * (n % 4)) &&& 31)
def hf (M : eg_H) (t n : Nat) (l : Nat → Int32) : eg_H := sI (sW M (50, 0) (putR (M.1 (50, 0)) (fun j => vp_nar .byte ((wv l j).toInt8.toInt32)) t n)) (10, 0) 1 (nI (t + n))
def mf (N : eg_H) (t n : Nat) (l : Nat → Int32) : eg_H := sW (t0 N) (61, 0) (putR (N.1 (61, 0)) (fun j => wv l j &&& 255) t n)
theorem hf_1 {κ : eg_K} {d : Nat} {post : eg_H → Prop} (M : eg_H) {t n k q : Nat} (l : Nat → Int32) (h : t + n < 800) (hq : q < 4) (en : n = 4 * k + q) (x x' : Int32) (ex : x = nI (24 - 8 * q)) (ex' : x' = x + (-8)) (w : eg_W κ gC mtX10_feedNumber d (eQV κ gC post) 3 [(0, vR (10, 0)), (1, vI (l k)), (2, vI x')] [] (hf M t (n + 1) l)) : eg_W κ gC mtX10_feedNumber d (eQV κ gC post) 3 [(0, vR (10, 0)), (1, vI (l k)), (2, vI x)] [] (hf M t n l) := by
  have e1 : (hf M t n l).1 (10, 0) 1 = nI (t + n) := by unfold hf; rw [sI_upd]; exact pk_us
  refine vX10_feedNumber_3 _ _ _ ⟨fun c => ?_, fun _ => ⟨fun c => ?_, fun _ => ?_⟩⟩
  · rw [ex, t_lt, t_0, t_nI (by omega)] at c; omega
  · rw [e1] at c
    exact absurd ((nI_le' (a := 800) (by omega) (by omega)).mp c) (by omega)
  · rw [e1, nI_t (by omega)]
    refine ⟨nI_in' h (by omega), fun M4 e4 M5 e5 x6 e6 => ?_⟩
    have e41 : M4.1 (10, 0) 1 = nI (t + n) := by rw [e4, sI_ne (by decide)]; exact e1
    rw [e41, nI_1] at e5
    rw [e6, ← ex', e5, e4]
    have ew : l k >>> (x &&& 31) = wv l n := by
      unfold wv
      rw [ex, en, show (4 * k + q) / 4 = k by omega, show (4 * k + q) % 4 = q by omega]
    have e : sI (sI (hf M t n l) (50, 0) (t + n) (vp_nar .byte ((l k >>> (x &&& 31)).toInt8.toInt32))) (10, 0) 1 (nI (t + n + 1)) = hf M t (n + 1) l := by
      rw [ew]
      unfold hf
      rw [sI_eq _ (50, 0), sI_ne (by decide), sW_at, putR_s _ (fun j => vp_nar .byte ((wv l j).toInt8.toInt32)), ← sI_sWo _ _ _ _ (by decide), sI_sI, sW_sW]
      rfl
    rw [e]
    exact w
theorem sX10_feedNumber {κ : eg_K} {d : Nat} (M : eg_H) {t k : Nat} (l : Nat → Int32) (h : t + 4 * k + 4 ≤ 800) : eg_S κ gC mtX10_feedNumber d [vR (10, 0), vI (l k)] (hf M t (4 * k) l) (eQV κ gC (fun M1 => M1 = hf M t (4 * (k + 1)) l)) := by
  refine eg_S.of rfl (Nat.le_of_ble_eq_true rfl) (vX10_feedNumber_0 _ _ ?_)
  refine hf_1 M l (q := 0) (by omega) (by omega) rfl 24 16 rfl rfl ?_
  refine hf_1 M l (q := 1) (by omega) (by omega) rfl 16 8 rfl rfl ?_
  refine hf_1 M l (q := 2) (by omega) (by omega) rfl 8 0 rfl rfl ?_
  refine hf_1 M l (q := 3) (by omega) (by omega) rfl 0 (-8) rfl rfl ?_
  exact vX10_feedNumber_3 _ _ _ ⟨fun _ => rfl, fun c => absurd (by decide) c⟩
theorem fd_s : ∀ j : Fin 20, (24 : Int32) - (8 : Int32) * (nI j.1 - nI j.1 / (4 : Int32) * (4 : Int32)) = nI (24 - 8 * (j.1 % 4)) := by decide
theorem st_feed {M N : eg_H} {C p : Nat} (h : JJ M N C p) (x0 x1 x2 x3 x4 : Int32) : StI mtX10_feed mtX11_feed [vI x0, vI x1, vI x2, vI x3, vI x4] M N C := by
  have F0 : FrN N (t0 N) := FrN_f N (by omega) 0
  obtain ⟨t, ht, t1, t2, t3⟩ := h.2.2.2.2.2.1
  have B : (t0 N).1 (60, 0) 1 = nI t := (t0_k N (by decide)).trans t2
  have e20 : nI t + 20 = nI (t + 20) := nI_add t 20
  by_cases z : t + 20 ≤ 800
  · have z' : nI (t + 20) ≤ 800 := (nI_le' (b := 800) (by omega) (by omega)).mpr z
    obtain ⟨l, hl⟩ : ∃ l : Nat → Int32, l = fun k => if k = 0 then x0 else if k = 1 then x1 else if k = 2 then x2 else if k = 3 then x3 else x4 := ⟨_, rfl⟩
    have l0 : x0 = l 0 := by rw [hl]; rfl
    have l1 : x1 = l 1 := by rw [hl]; rfl
    have l2 : x2 = l 2 := by rw [hl]; rfl
    have l3 : x3 = l 3 := by rw [hl]; rfl
    have l4 : x4 = l 4 := by rw [hl]; rfl
    refine ⟨nI (t + 20), fun M1 => M1 = hf M t 20 l, fun N1 => N1 = sI (mf N t 20 l) (60, 0) 1 (nI (t + 20)), fun κ => ?_, fun κ => ?_, fun M1 N1 hP hQ => ⟨p, ?_⟩⟩
    · refine eg_S.of rfl (Nat.le_of_ble_eq_true rfl) (vX10_feed_0 (by omega) M _ _ _ _ _ ⟨fun _ => ?_, fun q => ?_⟩)
      · have e0 : M = hf M t 0 l := by
          unfold hf
          rw [putR_0, sW_self, Nat.add_zero, ← t1, sI_self]
        rw [l0, l1, l2, l3, l4]
        have s0 : eg_S κ gC mtX10_feedNumber (12 - 1) [vR (10, 0), vI (l 0)] M (eQV κ gC (fun M1 => M1 = hf M t (4 * (0 + 1)) l)) := by
          have := sX10_feedNumber (κ := κ) (d := 12 - 1) M (t := t) (k := 0) l (by omega)
          rw [Nat.mul_zero, ← e0] at this
          exact this
        refine ⟨_, s0, fun M2 e2 => ?_⟩
        rw [e2]
        refine ⟨_, sX10_feedNumber M l (by omega), fun M4 e4 => ?_⟩
        rw [e4]
        refine ⟨_, sX10_feedNumber M l (by omega), fun M6 e6 => ?_⟩
        rw [e6]
        refine ⟨_, sX10_feedNumber M l (by omega), fun M8 e8 => ?_⟩
        rw [e8]
        refine ⟨_, sX10_feedNumber M l (by omega), fun M10 e10 => ⟨?_, e10⟩⟩
        rw [e10]
        unfold hf
        rw [sI_upd]
        exact pk_us
      · rw [t1, e20] at q
        exact absurd z' q
    · refine eg_S.of rfl (Nat.le_of_ble_eq_true rfl) (vX11_feed_0 N _ _ _ _ _ (fun M1 e1 => ?_))
      have e1 : M1 = t0 N := e1
      rw [e1, B, e20]
      refine ⟨fun _ => ?_, fun q => absurd z' q⟩
      suffices key : ∀ m j, j + m = 20 → eg_W κ gM mtX11_feed 12 (eQI κ gM (fun r' N1 => r' = nI (t + 20) ∧ N1 = sI (mf N t 20 l) (60, 0) 1 (nI (t + 20)))) 23 [(0, vR (60, 0)), (1, vI x0), (2, vI x1), (3, vI x2), (4, vI x3), (5, vI x4), (6, vI (nI j))] [] (mf N t j l) by
        have k := key 20 0 (by omega)
        have e0 : mf N t 0 l = t0 N := by
          unfold mf
          rw [putR_0, ← t0_ne N (k := 61) (by decide), sW_self]
        rw [e0] at k
        exact k
      intro m
      have Bj : ∀ j, (mf N t j l).1 (60, 0) 1 = nI t := fun j => by unfold mf; rw [sW_ne _ _ (by decide)]; exact B
      induction m with
      | zero =>
        intro j hj
        have ej : j = 20 := by omega
        rw [ej]
        refine vX11_feed_23 _ _ _ _ _ _ _ ⟨fun _ M2 e2 => ?_, fun c => absurd (by decide) c⟩
        rw [Bj, e20] at e2
        exact ⟨by rw [e2, sI_60, if_pos rfl], e2⟩
      | succ m ih =>
        intro j hj
        refine vX11_feed_23 _ _ _ _ _ _ _ ⟨fun c => ?_, fun _ x3' e3 => ?_⟩
        · exact absurd ((nI_le' (a := 20) (by omega) (by omega)).mp c) (by omega)
        · have c4 : ((4 : Int32) ≤ nI j) ↔ 4 ≤ j := nI_le' (a := 4) (by omega) (by omega)
          have c8 : ((8 : Int32) ≤ nI j) ↔ 8 ≤ j := nI_le' (a := 8) (by omega) (by omega)
          have c12 : ((12 : Int32) ≤ nI j) ↔ 12 ≤ j := nI_le' (a := 12) (by omega) (by omega)
          have c16 : ((16 : Int32) ≤ nI j) ↔ 16 ≤ j := nI_le' (a := 16) (by omega) (by omega)
          have ex : x3' = l (j / 4) := by
            rw [e3]
            by_cases d4 : 4 ≤ j
            · rw [if_pos (c4.mpr d4)]
              by_cases d8 : 8 ≤ j
              · rw [if_pos (c8.mpr d8)]
                by_cases d12 : 12 ≤ j
                · rw [if_pos (c12.mpr d12)]
                  by_cases d16 : 16 ≤ j
                  · rw [if_pos (c16.mpr d16), l4, show j / 4 = 4 by omega]
                  · rw [if_neg (fun q => d16 (c16.mp q)), l3, show j / 4 = 3 by omega]
                · rw [if_neg (fun q => d12 (c12.mp q)), l2, show j / 4 = 2 by omega]
              · rw [if_neg (fun q => d8 (c8.mp q)), l1, show j / 4 = 1 by omega]
            · rw [if_neg (fun q => d4 (c4.mp q)), l0, show j / 4 = 0 by omega]
          rw [Bj, nI_add]
          refine ⟨nI_in' (by omega) (by omega), fun M5 e5 x6 e6 => ?_⟩
          have ew : x3' >>> (((24 : Int32) - ((8 : Int32) * (nI j - nI j / (4 : Int32) * (4 : Int32)))) &&& 31) = wv l j := by
            rw [fd_s ⟨j, by omega⟩, ex]
            rfl
          rw [ew, nI_t (by omega)] at e5
          have e : M5 = mf N t (j + 1) l := by
            rw [e5]
            unfold mf
            rw [sI_sW, putR_s _ (fun j => wv l j &&& 255)]
          rw [e, e6, nI_1]
          exact ih (j + 1) (by omega)
    · rw [hP, hQ]
      obtain ⟨c, hc, c1, c2, c3, c4, c5⟩ := h.2.2.2.1
      have hfo : ∀ r, r.1 ≠ 50 → r.1 ≠ 10 → (hf M t 20 l).1 r = M.1 r := fun r a b => by
        unfold hf
        rw [sI_ne (fun q => b (by rw [q])), sW_ne _ _ (fun q => a (by rw [q]))]
      have mfo : ∀ r, r.1 ≠ 60 → r.1 ≠ 61 → (sI (mf N t 20 l) (60, 0) 1 (nI (t + 20))).1 r = N.1 r := fun r a b => by
        unfold mf
        rw [sI_ne (fun q => a (by rw [q])), sW_ne _ _ (fun q => b (by rw [q])), t0_o N (fun q => a (by rw [q]))]
      have m60 : ∀ k, k ≠ 1 → k ≠ 2 → (sI (mf N t 20 l) (60, 0) 1 (nI (t + 20))).1 (60, 0) k = N.1 (60, 0) k := fun k a b => by
        unfold mf
        rw [sI_60, if_neg a, sW_ne _ _ (by decide), t0_k N b]
      refine (h.mono (D := C + 60) (by omega)).gen (fun r _ _ _ _ _ h6 h7 => hfo r h6 h7) (fun k hk => ?_) rfl (fun k h1 h2 _ _ => m60 k h1 h2) (fun r h1 h2 _ _ _ _ => mfo r h1 h2) (fun ecN => ?_) ⟨t + 20, z, ?_, ?_, fun i hi => ?_⟩
      · unfold hf
        rw [sI_upd, pk_un hk, sW_ne _ _ (by decide)]
      · refine ⟨c, hc, ?_, ?_, ?_, ?_, ?_⟩
        · rw [hfo _ (by decide) (by decide)]; exact c1
        · rw [m60 _ (by decide) (by decide)]; exact c2
        · rw [hfo _ (by decide) (by decide), m60 _ (by decide) (by decide)]; exact c3
        · rw [m60 _ (by decide) (by decide)]; exact c4
        · rw [ecN, hfo _ (by decide) (by decide), hfo _ (by decide) (by decide), hfo _ (by decide) (by decide), hfo _ (by decide) (by decide), mfo _ (by decide) (by decide), mfo _ (by decide) (by decide), mfo _ (by decide) (by decide), mfo _ (by decide) (by decide)]
          exact c5
      · unfold hf
        rw [sI_upd]
        exact pk_us
      · rw [sI_60, if_pos rfl]
      · have a : (hf M t 20 l).1 (50, 0) = putR (M.1 (50, 0)) (fun j => vp_nar .byte ((wv l j).toInt8.toInt32)) t 20 := by
          unfold hf
          rw [sI_ne (by decide), sW_at]
        have b : (sI (mf N t 20 l) (60, 0) 1 (nI (t + 20))).1 (61, 0) = putR (N.1 (61, 0)) (fun j => wv l j &&& 255) t 20 := by
          unfold mf
          rw [sI_ne (by decide), sW_at]
        rw [a, b]
        by_cases q : i < t
        · rw [putR_out (by omega), putR_out (by omega)]
          exact t3 i q
        · obtain ⟨j, rfl⟩ : ∃ j, i = t + j := ⟨i - t, by omega⟩
          rw [putR_in (by omega), putR_in (by omega)]
          exact bR_y _
  · have z' : ¬ nI (t + 20) ≤ 800 := fun q => z ((nI_le' (b := 800) (by omega) (by omega)).mp q)
    refine StI.q h (-1) (fun κ => ?_) (fun κ => ?_)
    · refine eg_S.of rfl (Nat.le_of_ble_eq_true rfl) (vX10_feed_0 (by omega) M _ _ _ _ _ ⟨fun q => ?_, fun q => ⟨rfl, FrQ.rf p M⟩⟩)
      rw [t1, e20] at q
      exact absurd q z'
    · refine eg_S.of rfl (Nat.le_of_ble_eq_true rfl) (vX11_feed_0 N _ _ _ _ _ (fun M1 e1 => ?_))
      have e1 : M1 = t0 N := e1
      rw [e1, B, e20]
      exact ⟨fun q => absurd q z', fun _ => ⟨rfl, F0⟩⟩
