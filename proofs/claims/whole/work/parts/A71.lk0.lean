/-! LOOK, WHERE NOTHING IS THROWN -/
theorem dX10_look_0 : decode cX10_look 0 = .ok (.aload_n 0, 1) := by decide +kernel
theorem dX10_look_1 : decode cX10_look 1 = .ok (.getfield 32, 3) := by decide +kernel
theorem dX10_look_4 : decode cX10_look 4 = .ok (.iload_n 1, 1) := by decide +kernel
theorem dX10_look_5 : decode cX10_look 5 = .ok (.invokevirtual 132, 3) := by decide +kernel
theorem dX10_look_8 : decode cX10_look 8 = .ok (.ifCond .ne 13, 3) := by decide +kernel
theorem dX10_look_11 : decode cX10_look 11 = .ok (.new 136, 3) := by decide +kernel
theorem dX10_look_14 : decode cX10_look 14 = .ok (.dup, 1) := by decide +kernel
theorem dX10_look_15 : decode cX10_look 15 = .ok (.ldc 138, 2) := by decide +kernel
theorem dX10_look_17 : decode cX10_look 17 = .ok (.invokespecial 140, 3) := by decide +kernel
theorem dX10_look_20 : decode cX10_look 20 = .ok (.athrow, 1) := by decide +kernel
theorem dX10_look_21 : decode cX10_look 21 = .ok (.aload_n 0, 1) := by decide +kernel
theorem dX10_look_22 : decode cX10_look 22 = .ok (.getfield 65, 3) := by decide +kernel
theorem dX10_look_25 : decode cX10_look 25 = .ok (.getfield 143, 3) := by decide +kernel
theorem dX10_look_28 : decode cX10_look 28 = .ok (.iload_n 1, 1) := by decide +kernel
theorem dX10_look_29 : decode cX10_look 29 = .ok (.aaload, 1) := by decide +kernel
theorem dX10_look_30 : decode cX10_look 30 = .ok (.astore_n 3, 1) := by decide +kernel
theorem dX10_look_31 : decode cX10_look 31 = .ok (.iload_n 2, 1) := by decide +kernel
theorem dX10_look_32 : decode cX10_look 32 = .ok (.tableswitch 115 0 10 #[60, 65, 70, 75, 80, 85, 90, 95, 100, 105, 110], 60) := by decide +kernel
theorem dX10_look_92 : decode cX10_look 92 = .ok (.aload_n 3, 1) := by decide +kernel
theorem dX10_look_93 : decode cX10_look 93 = .ok (.getfield 147, 3) := by decide +kernel
theorem dX10_look_96 : decode cX10_look 96 = .ok (.ireturn, 1) := by decide +kernel
theorem dX10_look_97 : decode cX10_look 97 = .ok (.aload_n 3, 1) := by decide +kernel
theorem dX10_look_98 : decode cX10_look 98 = .ok (.getfield 152, 3) := by decide +kernel
theorem dX10_look_101 : decode cX10_look 101 = .ok (.ireturn, 1) := by decide +kernel
theorem dX10_look_102 : decode cX10_look 102 = .ok (.aload_n 3, 1) := by decide +kernel
theorem dX10_look_103 : decode cX10_look 103 = .ok (.getfield 155, 3) := by decide +kernel
theorem dX10_look_106 : decode cX10_look 106 = .ok (.ireturn, 1) := by decide +kernel
theorem dX10_look_107 : decode cX10_look 107 = .ok (.aload_n 3, 1) := by decide +kernel
theorem dX10_look_108 : decode cX10_look 108 = .ok (.invokevirtual 158, 3) := by decide +kernel
theorem dX10_look_111 : decode cX10_look 111 = .ok (.ireturn, 1) := by decide +kernel
theorem dX10_look_112 : decode cX10_look 112 = .ok (.aload_n 3, 1) := by decide +kernel
theorem dX10_look_113 : decode cX10_look 113 = .ok (.getfield 162, 3) := by decide +kernel
theorem dX10_look_116 : decode cX10_look 116 = .ok (.ireturn, 1) := by decide +kernel
theorem dX10_look_117 : decode cX10_look 117 = .ok (.aload_n 3, 1) := by decide +kernel
theorem dX10_look_118 : decode cX10_look 118 = .ok (.getfield 165, 3) := by decide +kernel
theorem dX10_look_121 : decode cX10_look 121 = .ok (.ireturn, 1) := by decide +kernel
theorem dX10_look_122 : decode cX10_look 122 = .ok (.aload_n 3, 1) := by decide +kernel
theorem dX10_look_123 : decode cX10_look 123 = .ok (.getfield 168, 3) := by decide +kernel
theorem dX10_look_126 : decode cX10_look 126 = .ok (.ireturn, 1) := by decide +kernel
theorem dX10_look_127 : decode cX10_look 127 = .ok (.aload_n 3, 1) := by decide +kernel
theorem dX10_look_128 : decode cX10_look 128 = .ok (.getfield 171, 3) := by decide +kernel
theorem dX10_look_131 : decode cX10_look 131 = .ok (.ireturn, 1) := by decide +kernel
theorem dX10_look_132 : decode cX10_look 132 = .ok (.aload_n 3, 1) := by decide +kernel
theorem dX10_look_133 : decode cX10_look 133 = .ok (.getfield 174, 3) := by decide +kernel
theorem dX10_look_136 : decode cX10_look 136 = .ok (.ireturn, 1) := by decide +kernel
theorem dX10_look_137 : decode cX10_look 137 = .ok (.aload_n 3, 1) := by decide +kernel
theorem dX10_look_138 : decode cX10_look 138 = .ok (.getfield 177, 3) := by decide +kernel
theorem dX10_look_141 : decode cX10_look 141 = .ok (.ireturn, 1) := by decide +kernel
theorem dX10_look_142 : decode cX10_look 142 = .ok (.aload_n 3, 1) := by decide +kernel
theorem dX10_look_143 : decode cX10_look 143 = .ok (.getfield 180, 3) := by decide +kernel
theorem dX10_look_146 : decode cX10_look 146 = .ok (.ireturn, 1) := by decide +kernel
theorem dX10_look_147 : decode cX10_look 147 = .ok (.new 183, 3) := by decide +kernel
theorem dX10_look_150 : decode cX10_look 150 = .ok (.dup, 1) := by decide +kernel
theorem dX10_look_151 : decode cX10_look 151 = .ok (.ldc 185, 2) := by decide +kernel
theorem dX10_look_153 : decode cX10_look 153 = .ok (.invokespecial 187, 3) := by decide +kernel
theorem dX10_look_156 : decode cX10_look 156 = .ok (.athrow, 1) := by decide +kernel
theorem dL_look_0 : decode cL_look 0 = .ok (.aload_n 3, 1) := by decide +kernel
theorem dL_look_1 : decode cL_look 1 = .ok (.iconst 0, 1) := by decide +kernel
theorem dL_look_2 : decode cL_look 2 = .ok (.aload_n 0, 1) := by decide +kernel
theorem dL_look_3 : decode cL_look 3 = .ok (.iload_n 1, 1) := by decide +kernel
theorem dL_look_4 : decode cL_look 4 = .ok (.iload_n 2, 1) := by decide +kernel
theorem dL_look_5 : decode cL_look 5 = .ok (.invokevirtual 7, 3) := by decide +kernel
theorem dL_look_8 : decode cL_look 8 = .ok (.i2l, 1) := by decide +kernel
theorem dL_look_9 : decode cL_look 9 = .ok (.lastore, 1) := by decide +kernel
theorem dL_look_10 : decode cL_look 10 = .ok (.goto 11, 3) := by decide +kernel
theorem dL_look_13 : decode cL_look 13 = .ok (.astore 4, 2) := by decide +kernel
theorem dL_look_15 : decode cL_look 15 = .ok (.iconst 1, 1) := by decide +kernel
theorem dL_look_16 : decode cL_look 16 = .ok (.ireturn, 1) := by decide +kernel
theorem dL_look_17 : decode cL_look 17 = .ok (.astore 4, 2) := by decide +kernel
theorem dL_look_19 : decode cL_look 19 = .ok (.iconst 2, 1) := by decide +kernel
theorem dL_look_20 : decode cL_look 20 = .ok (.ireturn, 1) := by decide +kernel
theorem dL_look_21 : decode cL_look 21 = .ok (.iconst 0, 1) := by decide +kernel
theorem dL_look_22 : decode cL_look 22 = .ok (.ireturn, 1) := by decide +kernel
def lkV (M : eg_H) (x : Nat) : Nat → Int32
  | 0 => M.1 (2, x) 0 | 1 => M.1 (2, x) 1 | 2 => M.1 (2, x) 2 | 3 => fX2_wantsLeft M x | 4 => M.1 (2, x) 4 | 5 => M.1 (2, x) 7 | 6 => M.1 (2, x) 8 | 7 => M.1 (2, x) 9 | 8 => M.1 (2, x) 10 | 9 => M.1 (2, x) 11 | _ => M.1 (2, x) 12
def mkV (Y : Nat → Int32) (a : Nat) : Nat → Int32
  | 0 => Y a | 1 => Y (a + 1) | 2 => Y (a + 2) | 3 => sm (fun k => Y (a + 14 + k)) 5 | 4 => Y (a + 3) | 5 => Y (a + 4) | 6 => Y (a + 5) | 7 => Y (a + 6) | 8 => Y (a + 7) | 9 => Y (a + 8) | _ => Y (a + 9)
theorem le10 {k : Nat} (h : k < 11) : k = 0 ∨ k = 1 ∨ k = 2 ∨ k = 3 ∨ k = 4 ∨ k = 5 ∨ k = 6 ∨ k = 7 ∨ k = 8 ∨ k = 9 ∨ k = 10 := by omega
set_option maxRecDepth 10000 in
theorem lk_c {κ : eg_K} {d : Nat} (hd : 1 ≤ d) (M : eg_H) {p k : Nat} (hp : p < 2) (ep : M.2.2 (10, 0) 3 = (5, p)) (l1 : Int32) (hg : ¬ fX5_hasGuest M p l1 = 0) (g5 : vp_in l1 15) (hk : k < 11) : eg_S κ gC mtX10_look d [vR (10, 0), vI l1, vI (nI k)] M (eQI κ gC (fun r M1 => r = lkV M (15 * 0 + l1.toNatClampNeg) k ∧ M1 = M)) := by
  refine eg_S.of rfl (Nat.le_of_ble_eq_true rfl) ?_
  refine eg_aload_n 0 dX10_look_0 rfl rfl ?_
  refine eg_getD dX10_look_1 fl_10_32 rfl rfl (obC_10 z1) ?_
  rw [ep]
  refine eg_iload_n 1 dX10_look_4 rfl rfl ?_
  refine eg_callVI (av := [vI l1]) (st := []) dX10_look_5 ml_10_132 rfl rfl (obC_5 hp) (by decide) rfl (Nat.le_of_ble_eq_true rfl) (eg_dd (by omega)) (sX5_hasGuest (by omega) M p l1 hp) (fun x3 M2 hq => ?_)
  obtain ⟨ex3, eM2⟩ := hq
  rw [eM2]
  refine eg_if_ne (tgt := 21) dX10_look_8 rfl (fun c4 => ?_) (fun c4 => absurd (ex3.symm.trans c4) hg)
  refine eg_aload_n 0 dX10_look_21 rfl rfl ?_
  refine eg_getR dX10_look_22 fl_10_65 rfl rfl (obC_10 z1) ?_
  show eg_W κ gC mtX10_look d (eQI κ gC (fun r M1 => r = lkV M (15 * 0 + l1.toNatClampNeg) k ∧ M1 = M)) 25 [(0, vR (10, 0)), (1, vI l1), (2, vI (nI k))] [vR (7, 0)] M
  refine eg_getR dX10_look_25 fl_10_143 rfl rfl (obC_7 (by decide : 0 < 4)) ?_
  show eg_W κ gC mtX10_look d (eQI κ gC (fun r M1 => r = lkV M (15 * 0 + l1.toNatClampNeg) k ∧ M1 = M)) 28 [(0, vR (10, 0)), (1, vI l1), (2, vI (nI k))] [vR (42, 0)] M
  refine eg_iload_n 1 dX10_look_28 rfl rfl ?_
  refine eg_aaload7 dX10_look_29 (arC_42 (by decide : 0 < 4) g5) ?_
  show eg_W κ gC mtX10_look d (eQI κ gC (fun r M1 => r = lkV M (15 * 0 + l1.toNatClampNeg) k ∧ M1 = M)) 30 [(0, vR (10, 0)), (1, vI l1), (2, vI (nI k))] [vR (2, 15 * 0 + l1.toNatClampNeg)] M
  refine eg_astore_n dX10_look_30 rfl (by decide) (ls1 := [(3, vR (2, 15 * 0 + l1.toNatClampNeg)), (0, vR (10, 0)), (1, vI l1), (2, vI (nI k))]) rfl ?_
  refine eg_iload_n 3 dX10_look_31 rfl rfl ?_
  rcases le10 hk with z | z | z | z | z | z | z | z | z | z | z <;> subst z
  · refine eg_tabI (tgt := 92) dX10_look_32 (by decide) (by decide) (off := 60) rfl rfl ?_
    refine eg_aload_n 0 dX10_look_92 rfl rfl ?_
    refine eg_getI dX10_look_93 fl_10_147 rfl trivial (obC_2 (ixT15 (by decide : 0 < 4) g5)) ?_
    exact eg_ireturn dX10_look_96 rfl ⟨rfl, rfl⟩
  · refine eg_tabI (tgt := 97) dX10_look_32 (by decide) (by decide) (off := 65) rfl rfl ?_
    refine eg_aload_n 0 dX10_look_97 rfl rfl ?_
    refine eg_getI dX10_look_98 fl_10_152 rfl trivial (obC_2 (ixT15 (by decide : 0 < 4) g5)) ?_
    exact eg_ireturn dX10_look_101 rfl ⟨rfl, rfl⟩
  · refine eg_tabI (tgt := 102) dX10_look_32 (by decide) (by decide) (off := 70) rfl rfl ?_
    refine eg_aload_n 0 dX10_look_102 rfl rfl ?_
    refine eg_getI dX10_look_103 fl_10_155 rfl trivial (obC_2 (ixT15 (by decide : 0 < 4) g5)) ?_
    exact eg_ireturn dX10_look_106 rfl ⟨rfl, rfl⟩
  · refine eg_tabI (tgt := 107) dX10_look_32 (by decide) (by decide) (off := 75) rfl rfl ?_
    refine eg_aload_n 0 dX10_look_107 rfl rfl ?_
    refine eg_callVI (av := []) (st := []) dX10_look_108 ml_10_158 rfl rfl (obC_2 (ixT15 (by decide : 0 < 4) g5)) (by decide) rfl (Nat.le_of_ble_eq_true rfl) (eg_dd (by omega)) (sX2_wantsLeft (by omega) M (15 * 0 + l1.toNatClampNeg) (ixT15 (by decide : 0 < 4) g5)) (fun x9 M9 hq => ?_)
    obtain ⟨ex9, eM9⟩ := hq
    rw [eM9]
    exact eg_ireturn dX10_look_111 rfl ⟨ex9, rfl⟩
  · refine eg_tabI (tgt := 112) dX10_look_32 (by decide) (by decide) (off := 80) rfl rfl ?_
    refine eg_aload_n 0 dX10_look_112 rfl rfl ?_
    refine eg_getI dX10_look_113 fl_10_162 rfl trivial (obC_2 (ixT15 (by decide : 0 < 4) g5)) ?_
    exact eg_ireturn dX10_look_116 rfl ⟨rfl, rfl⟩
  · refine eg_tabI (tgt := 117) dX10_look_32 (by decide) (by decide) (off := 85) rfl rfl ?_
    refine eg_aload_n 0 dX10_look_117 rfl rfl ?_
    refine eg_getI dX10_look_118 fl_10_165 rfl trivial (obC_2 (ixT15 (by decide : 0 < 4) g5)) ?_
    exact eg_ireturn dX10_look_121 rfl ⟨rfl, rfl⟩
  · refine eg_tabI (tgt := 122) dX10_look_32 (by decide) (by decide) (off := 90) rfl rfl ?_
    refine eg_aload_n 0 dX10_look_122 rfl rfl ?_
    refine eg_getI dX10_look_123 fl_10_168 rfl trivial (obC_2 (ixT15 (by decide : 0 < 4) g5)) ?_
    exact eg_ireturn dX10_look_126 rfl ⟨rfl, rfl⟩
  · refine eg_tabI (tgt := 127) dX10_look_32 (by decide) (by decide) (off := 95) rfl rfl ?_
    refine eg_aload_n 0 dX10_look_127 rfl rfl ?_
    refine eg_getI dX10_look_128 fl_10_171 rfl trivial (obC_2 (ixT15 (by decide : 0 < 4) g5)) ?_
    exact eg_ireturn dX10_look_131 rfl ⟨rfl, rfl⟩
  · refine eg_tabI (tgt := 132) dX10_look_32 (by decide) (by decide) (off := 100) rfl rfl ?_
    refine eg_aload_n 0 dX10_look_132 rfl rfl ?_
    refine eg_getI dX10_look_133 fl_10_174 rfl trivial (obC_2 (ixT15 (by decide : 0 < 4) g5)) ?_
    exact eg_ireturn dX10_look_136 rfl ⟨rfl, rfl⟩
  · refine eg_tabI (tgt := 137) dX10_look_32 (by decide) (by decide) (off := 105) rfl rfl ?_
    refine eg_aload_n 0 dX10_look_137 rfl rfl ?_
    refine eg_getI dX10_look_138 fl_10_177 rfl trivial (obC_2 (ixT15 (by decide : 0 < 4) g5)) ?_
    exact eg_ireturn dX10_look_141 rfl ⟨rfl, rfl⟩
  · refine eg_tabI (tgt := 142) dX10_look_32 (by decide) (by decide) (off := 110) rfl rfl ?_
    refine eg_aload_n 0 dX10_look_142 rfl rfl ?_
    refine eg_getI dX10_look_143 fl_10_180 rfl trivial (obC_2 (ixT15 (by decide : 0 < 4) g5)) ?_
    exact eg_ireturn dX10_look_146 rfl ⟨rfl, rfl⟩
theorem lk_s {κ : eg_K} {d : Nat} (N : eg_H) (a : Nat) (ha : a + 19 < 366) : eg_W κ gM mtX11_look d (eQI κ gM (fun r N1 => r = mkV (N.1 (111, 0)) a 3 ∧ N1 = N)) 116 [(0, vR (60, 0)), (3, vI (nI a)), (4, vI (0 : Int32)), (5, vI (0 : Int32))] [] N := by
  refine eg_down (P := fun i => eg_W κ gM mtX11_look d (eQI κ gM (fun r N1 => r = mkV (N.1 (111, 0)) a 3 ∧ N1 = N)) 116 [(0, vR (60, 0)), (3, vI (nI a)), (4, vI (sm (fun k => N.1 (111, 0) (a + 14 + k)) i)), (5, vI (nI i))] [] N) 5 (fun i hi k => ?_) ?_
  · refine vX11_look_116 N _ _ _ ⟨fun c => absurd (show nI 5 ≤ nI i from c) (nI_ge hi (by decide)), fun _ => ?_⟩
    have e : nI a + 14 + nI i = nI (a + 14 + i) := by rw [show (14 : Int32) = nI 14 from rfl, nI_ad, nI_ad]
    rw [e, nI_t (by omega)]
    refine ⟨nI_in' (by omega) (by omega), fun x e1 y e2 => ?_⟩
    subst e1; subst e2
    rw [nI_1]
    exact k
  · exact vX11_look_116 N _ _ _ ⟨fun _ => ⟨rfl, rfl⟩, fun c => absurd (by decide) c⟩
theorem lk_m {κ : eg_K} {d : Nat} (hd : 1 ≤ d) (N : eg_H) {g k : Nat} (hg : ¬ fX11_isGuest (t0 N) (nI g) = 0) (h15 : g < 15) (hk : k < 11) : eg_S κ gM mtX11_look d [vR (60, 0), vI (nI g), vI (nI k)] N (eQI κ gM (fun r N1 => r = mkV (N.1 (111, 0)) (20 + 20 * g) k ∧ N1 = t0 N)) := by
  refine eg_S.of rfl (Nat.le_of_ble_eq_true rfl) (vX11_look_0 hd N _ _ (fun M1 e1 x3 e3 => ?_))
  have e1 : M1 = t0 N := e1
  rw [e1] at e3 ⊢
  refine ⟨fun _ x6 e6 => ?_, fun c => absurd (e3.symm.trans c) hg⟩
  rw [at_n] at e6
  have e111 : (t0 N).1 (111, 0) = N.1 (111, 0) := t0_ne N (by decide)
  subst e6
  rcases le10 hk with z | z | z | z | z | z | z | z | z | z | z <;> subst z
  · refine ⟨fun c0 _ _ _ _ _ _ _ _ _ _ => absurd rfl c0, fun _ => ?_, fun c => absurd c (by decide), fun c => absurd c (by decide), fun c => absurd c (by decide), fun c => absurd c (by decide), fun c => absurd c (by decide), fun c => absurd c (by decide), fun c => absurd c (by decide), fun c => absurd c (by decide), fun c => absurd c (by decide), fun c => absurd c (by decide)⟩
    rw [nI_t (by omega), e111]
    exact ⟨nI_in' (by omega) (by omega), rfl, rfl⟩
  · refine ⟨fun _ c1 _ _ _ _ _ _ _ _ _ => absurd rfl c1, fun c => absurd c (by decide), fun _ => ?_, fun c => absurd c (by decide), fun c => absurd c (by decide), fun c => absurd c (by decide), fun c => absurd c (by decide), fun c => absurd c (by decide), fun c => absurd c (by decide), fun c => absurd c (by decide), fun c => absurd c (by decide), fun c => absurd c (by decide)⟩
    rw [show (nI (20 + 20 * g) + 1 : Int32) = nI (20 + 20 * g + 1) from nI_add _ 1, nI_t (by omega), e111]
    exact ⟨nI_in' (by omega) (by omega), rfl, rfl⟩
  · refine ⟨fun _ _ c2 _ _ _ _ _ _ _ _ => absurd rfl c2, fun c => absurd c (by decide), fun c => absurd c (by decide), fun _ => ?_, fun c => absurd c (by decide), fun c => absurd c (by decide), fun c => absurd c (by decide), fun c => absurd c (by decide), fun c => absurd c (by decide), fun c => absurd c (by decide), fun c => absurd c (by decide), fun c => absurd c (by decide)⟩
    rw [show (nI (20 + 20 * g) + 2 : Int32) = nI (20 + 20 * g + 2) from nI_add _ 2, nI_t (by omega), e111]
    exact ⟨nI_in' (by omega) (by omega), rfl, rfl⟩
  · refine ⟨fun _ _ _ c3 _ _ _ _ _ _ _ => absurd rfl c3, fun c => absurd c (by decide), fun c => absurd c (by decide), fun c => absurd c (by decide), fun _ => ?_, fun c => absurd c (by decide), fun c => absurd c (by decide), fun c => absurd c (by decide), fun c => absurd c (by decide), fun c => absurd c (by decide), fun c => absurd c (by decide), fun c => absurd c (by decide)⟩
    have h := lk_s (κ := κ) (d := d) (t0 N) (20 + 20 * g) (by omega)
    rw [e111] at h
    exact h
  · refine ⟨fun _ _ _ _ c4 _ _ _ _ _ _ => absurd rfl c4, fun c => absurd c (by decide), fun c => absurd c (by decide), fun c => absurd c (by decide), fun c => absurd c (by decide), fun _ => ?_, fun c => absurd c (by decide), fun c => absurd c (by decide), fun c => absurd c (by decide), fun c => absurd c (by decide), fun c => absurd c (by decide), fun c => absurd c (by decide)⟩
    rw [show (nI (20 + 20 * g) + 3 : Int32) = nI (20 + 20 * g + 3) from nI_add _ 3, nI_t (by omega), e111]
    exact ⟨nI_in' (by omega) (by omega), rfl, rfl⟩
  · refine ⟨fun _ _ _ _ _ c5 _ _ _ _ _ => absurd rfl c5, fun c => absurd c (by decide), fun c => absurd c (by decide), fun c => absurd c (by decide), fun c => absurd c (by decide), fun c => absurd c (by decide), fun _ => ?_, fun c => absurd c (by decide), fun c => absurd c (by decide), fun c => absurd c (by decide), fun c => absurd c (by decide), fun c => absurd c (by decide)⟩
    rw [show (nI (20 + 20 * g) + 4 : Int32) = nI (20 + 20 * g + 4) from nI_add _ 4, nI_t (by omega), e111]
    exact ⟨nI_in' (by omega) (by omega), rfl, rfl⟩
  · refine ⟨fun _ _ _ _ _ _ c6 _ _ _ _ => absurd rfl c6, fun c => absurd c (by decide), fun c => absurd c (by decide), fun c => absurd c (by decide), fun c => absurd c (by decide), fun c => absurd c (by decide), fun c => absurd c (by decide), fun _ => ?_, fun c => absurd c (by decide), fun c => absurd c (by decide), fun c => absurd c (by decide), fun c => absurd c (by decide)⟩
    rw [show (nI (20 + 20 * g) + 5 : Int32) = nI (20 + 20 * g + 5) from nI_add _ 5, nI_t (by omega), e111]
    exact ⟨nI_in' (by omega) (by omega), rfl, rfl⟩
  · refine ⟨fun _ _ _ _ _ _ _ c7 _ _ _ => absurd rfl c7, fun c => absurd c (by decide), fun c => absurd c (by decide), fun c => absurd c (by decide), fun c => absurd c (by decide), fun c => absurd c (by decide), fun c => absurd c (by decide), fun c => absurd c (by decide), fun _ => ?_, fun c => absurd c (by decide), fun c => absurd c (by decide), fun c => absurd c (by decide)⟩
    rw [show (nI (20 + 20 * g) + 6 : Int32) = nI (20 + 20 * g + 6) from nI_add _ 6, nI_t (by omega), e111]
    exact ⟨nI_in' (by omega) (by omega), rfl, rfl⟩
  · refine ⟨fun _ _ _ _ _ _ _ _ c8 _ _ => absurd rfl c8, fun c => absurd c (by decide), fun c => absurd c (by decide), fun c => absurd c (by decide), fun c => absurd c (by decide), fun c => absurd c (by decide), fun c => absurd c (by decide), fun c => absurd c (by decide), fun c => absurd c (by decide), fun _ => ?_, fun c => absurd c (by decide), fun c => absurd c (by decide)⟩
    rw [show (nI (20 + 20 * g) + 7 : Int32) = nI (20 + 20 * g + 7) from nI_add _ 7, nI_t (by omega), e111]
    exact ⟨nI_in' (by omega) (by omega), rfl, rfl⟩
  · refine ⟨fun _ _ _ _ _ _ _ _ _ c9 _ => absurd rfl c9, fun c => absurd c (by decide), fun c => absurd c (by decide), fun c => absurd c (by decide), fun c => absurd c (by decide), fun c => absurd c (by decide), fun c => absurd c (by decide), fun c => absurd c (by decide), fun c => absurd c (by decide), fun c => absurd c (by decide), fun _ => ?_, fun c => absurd c (by decide)⟩
    rw [show (nI (20 + 20 * g) + 8 : Int32) = nI (20 + 20 * g + 8) from nI_add _ 8, nI_t (by omega), e111]
    exact ⟨nI_in' (by omega) (by omega), rfl, rfl⟩
  · refine ⟨fun _ _ _ _ _ _ _ _ _ _ c10 => absurd rfl c10, fun c => absurd c (by decide), fun c => absurd c (by decide), fun c => absurd c (by decide), fun c => absurd c (by decide), fun c => absurd c (by decide), fun c => absurd c (by decide), fun c => absurd c (by decide), fun c => absurd c (by decide), fun c => absurd c (by decide), fun c => absurd c (by decide), fun _ => ?_⟩
    rw [show (nI (20 + 20 * g) + 9 : Int32) = nI (20 + 20 * g + 9) from nI_add _ 9, nI_t (by omega), e111]
    exact ⟨nI_in' (by omega) (by omega), rfl, rfl⟩
theorem lk_m1 {κ : eg_K} {d : Nat} (hd : 1 ≤ d) (N : eg_H) {x w : Int32} (hg : fX11_isGuest (t0 N) x = 0) : eg_S κ gM mtX11_look d [vR (60, 0), vI x, vI w] N (eQI κ gM (fun r N1 => r = 0 ∧ N1 = sI (t0 N) (60, 0) 2 1)) := by
  refine eg_S.of rfl (Nat.le_of_ble_eq_true rfl) (vX11_look_0 hd N _ _ (fun M1 e1 x3 e3 => ?_))
  have e1 : M1 = t0 N := e1
  rw [e1] at e3 ⊢
  refine ⟨fun c => absurd (e3.trans hg) c, fun _ x20 M19 e => ?_⟩
  cases e
  exact ⟨rfl, rfl⟩
theorem lk_m2 {κ : eg_K} {d : Nat} (hd : 1 ≤ d) (N : eg_H) {x w : Int32} (hg : ¬ fX11_isGuest (t0 N) x = 0) (hw : ∀ k, k < 11 → w ≠ nI k) : eg_S κ gM mtX11_look d [vR (60, 0), vI x, vI w] N (eQI κ gM (fun r N1 => r = 0 ∧ N1 = sI (t0 N) (60, 0) 2 2)) := by
  refine eg_S.of rfl (Nat.le_of_ble_eq_true rfl) (vX11_look_0 hd N _ _ (fun M1 e1 x3 e3 => ?_))
  have e1 : M1 = t0 N := e1
  rw [e1] at e3 ⊢
  refine ⟨fun _ x6 e6 => ⟨fun _ _ _ _ _ _ _ _ _ _ _ x8 M7 e => ?_, fun c => absurd c (hw 0 (by decide)), fun c => absurd c (hw 1 (by decide)), fun c => absurd c (hw 2 (by decide)), fun c => absurd c (hw 3 (by decide)), fun c => absurd c (hw 4 (by decide)), fun c => absurd c (hw 5 (by decide)), fun c => absurd c (hw 6 (by decide)), fun c => absurd c (hw 7 (by decide)), fun c => absurd c (hw 8 (by decide)), fun c => absurd c (hw 9 (by decide)), fun c => absurd c (hw 10 (by decide))⟩, fun c => absurd (e3.symm.trans c) hg⟩
  cases e
  exact ⟨rfl, rfl⟩
/-- both values are the same -/
theorem lk_v {M N : eg_H} {C p g k : Nat} (h : JJ M N C p) (hg : g < cP M p) (hk : k < 11) : lkV M (15 * 0 + g) k = mkV (N.1 (111, 0)) (20 + 20 * g) k := by
  have F0 : FrN N (t0 N) := FrN_f N (by omega) 0
  have pl0 : PL M p (t0 N) := h.1.2.1.cong (fun _ _ => rfl) F0.T
  have hW := h.1.2.1.cW
  have hE := hW.2.2.2.2.1
  have hN := hE.2.1
  have hN16 : cP M p < 16 := hN
  have ry := h.1.2.2.1.1
  have hg' : g < eP (cE M p) := hg
  have h15 : g < 15 := by omega
  have pg := pl0.g (by rw [← pl0.g1]; exact hg)
  have eC0 : ¬ eC (cE M p) g 0 = -1 := by
    have a : eC (cE M p) g 0 = M.1 (0, 15 * p + g) 1 := if_pos hg
    rw [a, pg.2.1.2, t_eq, t_m1]
    have := pg.2.1.1
    omega
  rcases le10 hk with z | z | z | z | z | z | z | z | z | z | z <;> subst z
  · have a := aT_g M 0 g 0 0 h15 rfl
    rw [Nat.add_zero] at a
    show M.1 (2, 15 * 0 + g) 0 = _
    rw [← a]
    rcases ry.G hg' with w | w
    · exact w.1
    · exact absurd w.2.2 eC0
  · exact (aT_g M 0 g 1 1 h15 rfl).symm.trans (ry.g 1 hg' (by omega))
  · exact (aT_g M 0 g 2 2 h15 rfl).symm.trans (ry.g 2 hg' (by omega))
  · show sm (fun k => M.1 (22, 15 * 0 + g) k) 5 = sm (fun k => N.1 (111, 0) (20 + 20 * g + 14 + k)) 5
    refine sm_cong (fun k hk => ?_)
    rw [← ry.w hg' hk, show 20 + 20 * g + 14 + k = 34 + 20 * g + k by omega]
    exact (aT_w M 0 g k h15 hk).symm
  · exact (aT_g M 0 g 4 3 h15 rfl).symm.trans (ry.g 3 hg' (by omega))
  · exact (aT_g M 0 g 7 4 h15 rfl).symm.trans (ry.g 4 hg' (by omega))
  · exact (aT_g M 0 g 8 5 h15 rfl).symm.trans (ry.g 5 hg' (by omega))
  · exact (aT_g M 0 g 9 6 h15 rfl).symm.trans (ry.g 6 hg' (by omega))
  · exact (aT_g M 0 g 10 7 h15 rfl).symm.trans (ry.g 7 hg' (by omega))
  · exact (aT_g M 0 g 11 8 h15 rfl).symm.trans (ry.g 8 hg' (by omega))
  · exact (aT_g M 0 g 12 9 h15 rfl).symm.trans (ry.g 9 hg' (by omega))
