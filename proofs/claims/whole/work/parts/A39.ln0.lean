/-! A LINE, WHATEVER IT IS -/
theorem LN.r {q n a : Nat} {M N M1 N1 : eg_H} {r : Int32} (h : LN q n a M N r M1 N1) : r = 0 ∨ r = 1 := by
  rcases h with z | z
  · exact Or.inr z.1
  · exact Or.inl z.1
theorem L0_0 {q n a : Nat} {M N : eg_H} (h : RD q n a M N) (ek : M.1 (9, 0) 4 = 0) (k1 : N.1 (60, 0) 8 = 1) (k2 : N.1 (60, 0) 9 = 0) : PW 11 8 (fun κ d post => eg_S κ gC mtX6_readLine d [vR (6, 0)] M (eQI κ gC post)) (LXm N) (LN q n a M N) := by
  have hk : ¬ M.1 (9, 0) 4 = 39 := by rw [ek]; decide
  obtain ⟨r, M1, N1, ca, cb, cR⟩ := ST1 h hk
  refine ⟨r, M1, N1, fun κ d hd => eg_S.of rfl (Nat.le_of_ble_eq_true rfl) (vX6_readLine_0 (by omega) M ⟨fun n0 n3 n5 n6 n7 n8 n9 => absurd ek n0, fun _ => ⟨_, ca κ (d - 1) (by omega), fun x Z hZ => ⟨by rw [hZ.1]; exact cR.r, hZ⟩⟩, fun y => absurd (ek.symm.trans y) (by decide), fun y => absurd (ek.symm.trans y) (by decide), fun y => absurd (ek.symm.trans y) (by decide), fun y => absurd (ek.symm.trans y) (by decide), fun y => absurd (ek.symm.trans y) (by decide), fun y => absurd (ek.symm.trans y) (by decide)⟩), fun κ d hd => ?_, cR⟩
  intro P hP
  exact eg_S.of rfl (Nat.le_of_ble_eq_true rfl) (vX11_lineRead_0 (by omega) N ⟨fun y => absurd k1 y, fun _ => ⟨fun _ => ⟨fun n0 n1 n2 n3 n4 n5 => absurd k2 n0, fun _ => ⟨_, cb κ (d - 1) (by omega), fun x Z hZ => lx_w (by omega) (hP x Z hZ)⟩, fun y => absurd (k2.symm.trans y) (by decide), fun y => absurd (k2.symm.trans y) (by decide), fun y => absurd (k2.symm.trans y) (by decide), fun y => absurd (k2.symm.trans y) (by decide), fun y => absurd (k2.symm.trans y) (by decide)⟩, fun y => absurd (by rw [k2]; decide) y⟩⟩)
theorem L0_3 {q n a : Nat} {M N : eg_H} (h : RD q n a M N) (ek : M.1 (9, 0) 4 = 3) (k1 : N.1 (60, 0) 8 = 1) (k2 : N.1 (60, 0) 9 = 1) : PW 11 8 (fun κ d post => eg_S κ gC mtX6_readLine d [vR (6, 0)] M (eQI κ gC post)) (LXm N) (LN q n a M N) := by
  have hk : ¬ M.1 (9, 0) 4 = 39 := by rw [ek]; decide
  obtain ⟨r, M1, N1, ca, cb, cR⟩ := GT1 h hk
  refine ⟨r, M1, N1, fun κ d hd => eg_S.of rfl (Nat.le_of_ble_eq_true rfl) (vX6_readLine_0 (by omega) M ⟨fun n0 n3 n5 n6 n7 n8 n9 => absurd ek n3, fun y => absurd (ek.symm.trans y) (by decide), fun _ => ⟨_, ca κ (d - 1) (by omega), fun x Z hZ => ⟨by rw [hZ.1]; exact cR.r, hZ⟩⟩, fun y => absurd (ek.symm.trans y) (by decide), fun y => absurd (ek.symm.trans y) (by decide), fun y => absurd (ek.symm.trans y) (by decide), fun y => absurd (ek.symm.trans y) (by decide), fun y => absurd (ek.symm.trans y) (by decide)⟩), fun κ d hd => ?_, cR⟩
  intro P hP
  exact eg_S.of rfl (Nat.le_of_ble_eq_true rfl) (vX11_lineRead_0 (by omega) N ⟨fun y => absurd k1 y, fun _ => ⟨fun _ => ⟨fun n0 n1 n2 n3 n4 n5 => absurd k2 n1, fun y => absurd (k2.symm.trans y) (by decide), fun _ => ⟨_, cb κ (d - 1) (by omega), fun x Z hZ => lx_w (by omega) (hP x Z hZ)⟩, fun y => absurd (k2.symm.trans y) (by decide), fun y => absurd (k2.symm.trans y) (by decide), fun y => absurd (k2.symm.trans y) (by decide), fun y => absurd (k2.symm.trans y) (by decide)⟩, fun y => absurd (by rw [k2]; decide) y⟩⟩)
theorem L0_5 {q n a : Nat} {M N : eg_H} (h : RD q n a M N) (ek : M.1 (9, 0) 4 = 5) (k1 : N.1 (60, 0) 8 = 1) (k2 : N.1 (60, 0) 9 = 2) : PW 11 8 (fun κ d post => eg_S κ gC mtX6_readLine d [vR (6, 0)] M (eQI κ gC post)) (LXm N) (LN q n a M N) := by
  have hk : ¬ M.1 (9, 0) 4 = 39 := by rw [ek]; decide
  obtain ⟨r, M1, N1, ca, cb, cR⟩ := L_pass h k1 k2 hk
  refine ⟨r, M1, N1, fun κ d hd => eg_S.of rfl (Nat.le_of_ble_eq_true rfl) (vX6_readLine_0 (by omega) M ⟨fun n0 n3 n5 n6 n7 n8 n9 => absurd ek n5, fun y => absurd (ek.symm.trans y) (by decide), fun y => absurd (ek.symm.trans y) (by decide), fun _ => ⟨_, ca κ (d - 1) (by omega), fun x Z hZ => ⟨by rw [hZ.1]; exact cR.r, hZ⟩⟩, fun y => absurd (ek.symm.trans y) (by decide), fun y => absurd (ek.symm.trans y) (by decide), fun y => absurd (ek.symm.trans y) (by decide), fun y => absurd (ek.symm.trans y) (by decide)⟩), fun κ d hd => ?_, cR⟩
  exact cb κ d (by omega)
theorem L0_6 {q n a : Nat} {M N : eg_H} (h : RD q n a M N) (ek : M.1 (9, 0) 4 = 6) (k1 : N.1 (60, 0) 8 = 1) (k2 : N.1 (60, 0) 9 = 3) : PW 11 8 (fun κ d post => eg_S κ gC mtX6_readLine d [vR (6, 0)] M (eQI κ gC post)) (LXm N) (LN q n a M N) := by
  have hk : ¬ M.1 (9, 0) 4 = 39 := by rw [ek]; decide
  obtain ⟨r, M1, N1, ca, cb, cR⟩ := L_again h k1 k2 hk
  refine ⟨r, M1, N1, fun κ d hd => eg_S.of rfl (Nat.le_of_ble_eq_true rfl) (vX6_readLine_0 (by omega) M ⟨fun n0 n3 n5 n6 n7 n8 n9 => absurd ek n6, fun y => absurd (ek.symm.trans y) (by decide), fun y => absurd (ek.symm.trans y) (by decide), fun y => absurd (ek.symm.trans y) (by decide), fun _ => ⟨_, ca κ (d - 1) (by omega), fun x Z hZ => ⟨by rw [hZ.1]; exact cR.r, hZ⟩⟩, fun y => absurd (ek.symm.trans y) (by decide), fun y => absurd (ek.symm.trans y) (by decide), fun y => absurd (ek.symm.trans y) (by decide)⟩), fun κ d hd => ?_, cR⟩
  exact cb κ d (by omega)
theorem L0_7 {q n a : Nat} {M N : eg_H} (h : RD q n a M N) (ek : M.1 (9, 0) 4 = 7) (k1 : N.1 (60, 0) 8 = 1) (k2 : N.1 (60, 0) 9 = 4) : PW 11 8 (fun κ d post => eg_S κ gC mtX6_readLine d [vR (6, 0)] M (eQI κ gC post)) (LXm N) (LN q n a M N) := by
  have hk : ¬ M.1 (9, 0) 4 = 39 := by rw [ek]; decide
  obtain ⟨r, M1, N1, ca, cb, cR⟩ := L_close h k1 k2 hk
  refine ⟨r, M1, N1, fun κ d hd => eg_S.of rfl (Nat.le_of_ble_eq_true rfl) (vX6_readLine_0 (by omega) M ⟨fun n0 n3 n5 n6 n7 n8 n9 => absurd ek n7, fun y => absurd (ek.symm.trans y) (by decide), fun y => absurd (ek.symm.trans y) (by decide), fun y => absurd (ek.symm.trans y) (by decide), fun y => absurd (ek.symm.trans y) (by decide), fun _ => ⟨_, ca κ (d - 1) (by omega), fun x Z hZ => ⟨by rw [hZ.1]; exact cR.r, hZ⟩⟩, fun y => absurd (ek.symm.trans y) (by decide), fun y => absurd (ek.symm.trans y) (by decide)⟩), fun κ d hd => ?_, cR⟩
  exact cb κ d (by omega)
theorem L0_8 {q n a : Nat} {M N : eg_H} (h : RD q n a M N) (ek : M.1 (9, 0) 4 = 8) (k1 : N.1 (60, 0) 8 = 1) (k2 : N.1 (60, 0) 9 = 5) : PW 11 8 (fun κ d post => eg_S κ gC mtX6_readLine d [vR (6, 0)] M (eQI κ gC post)) (LXm N) (LN q n a M N) := by
  have hk : ¬ M.1 (9, 0) 4 = 39 := by rw [ek]; decide
  obtain ⟨r, M1, N1, ca, cb, cR⟩ := LAW h hk
  refine ⟨r, M1, N1, fun κ d hd => eg_S.of rfl (Nat.le_of_ble_eq_true rfl) (vX6_readLine_0 (by omega) M ⟨fun n0 n3 n5 n6 n7 n8 n9 => absurd ek n8, fun y => absurd (ek.symm.trans y) (by decide), fun y => absurd (ek.symm.trans y) (by decide), fun y => absurd (ek.symm.trans y) (by decide), fun y => absurd (ek.symm.trans y) (by decide), fun y => absurd (ek.symm.trans y) (by decide), fun _ => ⟨_, ca κ (d - 1) (by omega), fun x Z hZ => ⟨by rw [hZ.1]; exact cR.r, hZ⟩⟩, fun y => absurd (ek.symm.trans y) (by decide)⟩), fun κ d hd => ?_, cR⟩
  intro P hP
  exact eg_S.of rfl (Nat.le_of_ble_eq_true rfl) (vX11_lineRead_0 (by omega) N ⟨fun y => absurd k1 y, fun _ => ⟨fun _ => ⟨fun n0 n1 n2 n3 n4 n5 => absurd k2 n5, fun y => absurd (k2.symm.trans y) (by decide), fun y => absurd (k2.symm.trans y) (by decide), fun y => absurd (k2.symm.trans y) (by decide), fun y => absurd (k2.symm.trans y) (by decide), fun y => absurd (k2.symm.trans y) (by decide), fun _ => ⟨_, cb κ (d - 1) (by omega), fun x Z hZ => lx_w (by omega) (hP x Z hZ)⟩⟩, fun y => absurd (by rw [k2]; decide) y⟩⟩)
theorem L0_9 {q n a : Nat} {M N : eg_H} (h : RD q n a M N) (ek : M.1 (9, 0) 4 = 9) (k1 : N.1 (60, 0) 8 = 1) (k2 : N.1 (60, 0) 9 = 6) : PW 11 8 (fun κ d post => eg_S κ gC mtX6_readLine d [vR (6, 0)] M (eQI κ gC post)) (LXm N) (LN q n a M N) := by
  have hk : ¬ M.1 (9, 0) 4 = 39 := by rw [ek]; decide
  obtain ⟨r, M1, N1, ca, cb, cR⟩ := MAY h hk
  refine ⟨r, M1, N1, fun κ d hd => eg_S.of rfl (Nat.le_of_ble_eq_true rfl) (vX6_readLine_0 (by omega) M ⟨fun n0 n3 n5 n6 n7 n8 n9 => absurd ek n9, fun y => absurd (ek.symm.trans y) (by decide), fun y => absurd (ek.symm.trans y) (by decide), fun y => absurd (ek.symm.trans y) (by decide), fun y => absurd (ek.symm.trans y) (by decide), fun y => absurd (ek.symm.trans y) (by decide), fun y => absurd (ek.symm.trans y) (by decide), fun _ => ⟨_, ca κ (d - 1) (by omega), fun x Z hZ => ⟨by rw [hZ.1]; exact cR.r, hZ⟩⟩⟩), fun κ d hd => ?_, cR⟩
  intro P hP
  exact eg_S.of rfl (Nat.le_of_ble_eq_true rfl) (vX11_lineRead_0 (by omega) N ⟨fun y => absurd k1 y, fun _ => ⟨fun _ => ⟨fun _ _ _ _ _ _ => ⟨_, cb κ (d - 1) (by omega), fun x Z hZ => lx_w (by omega) (hP x Z hZ)⟩, fun y => absurd (k2.symm.trans y) (by decide), fun y => absurd (k2.symm.trans y) (by decide), fun y => absurd (k2.symm.trans y) (by decide), fun y => absurd (k2.symm.trans y) (by decide), fun y => absurd (k2.symm.trans y) (by decide), fun y => absurd (k2.symm.trans y) (by decide)⟩, fun y => absurd (by rw [k2]; decide) y⟩⟩)
theorem prm_7 : ∀ t, t < 24 → t = 0 ∨ t = 3 ∨ t = 5 ∨ t = 6 ∨ t = 7 ∨ t = 8 ∨ t = 9 ∨ (7 ≤ prm t ∧ prm t < 24) := by decide +kernel
theorem LINE0 {q n a : Nat} {M N : eg_H} (h : RD q n a M N) : PW 11 8 (fun κ d post => eg_S κ gC mtX6_readLine d [vR (6, 0)] M (eQI κ gC post)) (LXm N) (LN q n a M N) := by
  obtain ⟨t, ek, ht40, hk⟩ := tK h.2.1
  have kn : ∀ c, c < 1000 → (M.1 (9, 0) 4 = nI c ↔ t = c) := fun c hc => by rw [ek]; exact nIq ht40 c hc
  have bad : (t ≠ 0 ∧ t ≠ 3 ∧ t ≠ 5 ∧ t ≠ 6 ∧ t ≠ 7 ∧ t ≠ 8 ∧ t ≠ 9) → (¬ N.1 (60, 0) 8 = 1 ∨ (N.1 (60, 0) 8 = 1 ∧ ¬ N.1 (60, 0) 9 ≤ 6)) → PW 11 8 (fun κ d post => eg_S κ gC mtX6_readLine d [vR (6, 0)] M (eQI κ gC post)) (LXm N) (LN q n a M N) := by
    rintro ⟨n0, n3, n5, n6, n7, n8, n9⟩ hb
    refine ⟨0, (fX6_refuse M 1).2, (fX11_wrong N 1).2, fun κ d hd => ?_, fun κ d hd P hP => ?_, Or.inr ⟨rfl, FL_mk q h.2.1 1 (by decide)⟩⟩
    · refine eg_S.of rfl (Nat.le_of_ble_eq_true rfl) (vX6_readLine_0 (by omega) M ⟨fun _ _ _ _ _ _ _ => vX6_readLine_95 (by omega) M (fun x M1 e => ⟨congrArg Prod.fst e, congrArg Prod.snd e⟩), fun y => absurd ((kn 0 (by omega)).mp y) n0, fun y => absurd ((kn 3 (by omega)).mp y) n3, fun y => absurd ((kn 5 (by omega)).mp y) n5, fun y => absurd ((kn 6 (by omega)).mp y) n6, fun y => absurd ((kn 7 (by omega)).mp y) n7, fun y => absurd ((kn 8 (by omega)).mp y) n8, fun y => absurd ((kn 9 (by omega)).mp y) n9⟩)
    · have fin : ∀ (x : Int32) (M1 : eg_H), (x, M1) = fX11_wrong N 1 → P x M1 := fun x M1 e => lx_f e (fun z => (hP x M1 ⟨z, congrArg Prod.snd e⟩).1 z)
      rcases hb with z | ⟨z1, z2⟩
      · exact eg_S.of rfl (Nat.le_of_ble_eq_true rfl) (vX11_lineRead_0 (by omega) N ⟨fun _ => fin, fun y => absurd y z⟩)
      · exact eg_S.of rfl (Nat.le_of_ble_eq_true rfl) (vX11_lineRead_0 (by omega) N ⟨fun y => absurd z1 y, fun _ => ⟨fun y => absurd y z2, fun _ => fin⟩⟩)
  rcases hk with y | y | y | y | y | y | y
  · exact bad (by omega) (Or.inl (by rw [y.2]; decide))
  · obtain ⟨y1, y2, y3⟩ := y
    rcases prm_7 t y1 with z | z | z | z | z | z | z | z
    · exact L0_0 h (by rw [ek, z]; rfl) y2 (by rw [y3, z]; rfl)
    · exact L0_3 h (by rw [ek, z]; rfl) y2 (by rw [y3, z]; rfl)
    · exact L0_5 h (by rw [ek, z]; rfl) y2 (by rw [y3, z]; rfl)
    · exact L0_6 h (by rw [ek, z]; rfl) y2 (by rw [y3, z]; rfl)
    · exact L0_7 h (by rw [ek, z]; rfl) y2 (by rw [y3, z]; rfl)
    · exact L0_8 h (by rw [ek, z]; rfl) y2 (by rw [y3, z]; rfl)
    · exact L0_9 h (by rw [ek, z]; rfl) y2 (by rw [y3, z]; rfl)
    · have w : ¬ nI (prm t) ≤ (6 : Int32) := fun u => by
        have := (nI_le' (b := 6) (by omega) (by omega)).mp u
        omega
      refine bad ⟨fun e => ?_, fun e => ?_, fun e => ?_, fun e => ?_, fun e => ?_, fun e => ?_, fun e => ?_⟩ (Or.inr ⟨y2, by rw [y3]; exact w⟩)
      all_goals
        rw [e] at z
        exact absurd z.1 (by decide)
  · exact bad (by omega) (Or.inl (by rw [y.2.1]; decide))
  · exact bad (by omega) (Or.inl (by rw [y.2.1]; decide))
  · exact bad (by omega) (Or.inl (by rw [y.2.1]; decide))
  · exact bad (by omega) (Or.inl (by rw [y.2.2.1]; decide))
  · exact bad (by omega) (Or.inl (by rw [y.2]; decide))
