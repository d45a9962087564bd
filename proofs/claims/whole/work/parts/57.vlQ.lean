theorem dX5_copyFrom_0 : decode cX5_copyFrom 0 = .ok (.aload_n 0, 1) := by decide +kernel
theorem dX5_copyFrom_1 : decode cX5_copyFrom 1 = .ok (.aload_n 1, 1) := by decide +kernel
theorem dX5_copyFrom_2 : decode cX5_copyFrom 2 = .ok (.getfield 45, 3) := by decide +kernel
theorem dX5_copyFrom_5 : decode cX5_copyFrom 5 = .ok (.putfield 45, 3) := by decide +kernel
theorem dX5_copyFrom_8 : decode cX5_copyFrom 8 = .ok (.iconst 0, 1) := by decide +kernel
theorem dX5_copyFrom_9 : decode cX5_copyFrom 9 = .ok (.istore_n 2, 1) := by decide +kernel
theorem dX5_copyFrom_10 : decode cX5_copyFrom 10 = .ok (.iload_n 2, 1) := by decide +kernel
theorem dX5_copyFrom_11 : decode cX5_copyFrom 11 = .ok (.aload_n 0, 1) := by decide +kernel
theorem dX5_copyFrom_12 : decode cX5_copyFrom 12 = .ok (.getfield 45, 3) := by decide +kernel
theorem dX5_copyFrom_15 : decode cX5_copyFrom 15 = .ok (.if_icmp .ge 29, 3) := by decide +kernel
theorem dX5_copyFrom_18 : decode cX5_copyFrom 18 = .ok (.iload_n 2, 1) := by decide +kernel
theorem dX5_copyFrom_19 : decode cX5_copyFrom 19 = .ok (.iconst 5, 1) := by decide +kernel
theorem dX5_copyFrom_20 : decode cX5_copyFrom 20 = .ok (.if_icmp .ge 24, 3) := by decide +kernel
theorem dX5_copyFrom_23 : decode cX5_copyFrom 23 = .ok (.aload_n 0, 1) := by decide +kernel
theorem dX5_copyFrom_24 : decode cX5_copyFrom 24 = .ok (.getfield 11, 3) := by decide +kernel
theorem dX5_copyFrom_27 : decode cX5_copyFrom 27 = .ok (.iload_n 2, 1) := by decide +kernel
theorem dX5_copyFrom_28 : decode cX5_copyFrom 28 = .ok (.aaload, 1) := by decide +kernel
theorem dX5_copyFrom_29 : decode cX5_copyFrom 29 = .ok (.aload_n 1, 1) := by decide +kernel
theorem dX5_copyFrom_30 : decode cX5_copyFrom 30 = .ok (.getfield 11, 3) := by decide +kernel
theorem dX5_copyFrom_33 : decode cX5_copyFrom 33 = .ok (.iload_n 2, 1) := by decide +kernel
theorem dX5_copyFrom_34 : decode cX5_copyFrom 34 = .ok (.aaload, 1) := by decide +kernel
theorem dX5_copyFrom_35 : decode cX5_copyFrom 35 = .ok (.invokevirtual 68, 3) := by decide +kernel
theorem dX5_copyFrom_38 : decode cX5_copyFrom 38 = .ok (.iinc 2 1, 3) := by decide +kernel
theorem dX5_copyFrom_41 : decode cX5_copyFrom 41 = .ok (.goto (-31), 3) := by decide +kernel
theorem dX5_copyFrom_44 : decode cX5_copyFrom 44 = .ok (.aload_n 0, 1) := by decide +kernel
theorem dX5_copyFrom_45 : decode cX5_copyFrom 45 = .ok (.aload_n 1, 1) := by decide +kernel
theorem dX5_copyFrom_46 : decode cX5_copyFrom 46 = .ok (.getfield 49, 3) := by decide +kernel
theorem dX5_copyFrom_49 : decode cX5_copyFrom 49 = .ok (.putfield 49, 3) := by decide +kernel
theorem dX5_copyFrom_52 : decode cX5_copyFrom 52 = .ok (.iconst 0, 1) := by decide +kernel
theorem dX5_copyFrom_53 : decode cX5_copyFrom 53 = .ok (.istore_n 2, 1) := by decide +kernel
theorem dX5_copyFrom_54 : decode cX5_copyFrom 54 = .ok (.iload_n 2, 1) := by decide +kernel
theorem dX5_copyFrom_55 : decode cX5_copyFrom 55 = .ok (.aload_n 0, 1) := by decide +kernel
theorem dX5_copyFrom_56 : decode cX5_copyFrom 56 = .ok (.getfield 49, 3) := by decide +kernel
theorem dX5_copyFrom_59 : decode cX5_copyFrom 59 = .ok (.if_icmp .ge 30, 3) := by decide +kernel
theorem dX5_copyFrom_62 : decode cX5_copyFrom 62 = .ok (.iload_n 2, 1) := by decide +kernel
theorem dX5_copyFrom_63 : decode cX5_copyFrom 63 = .ok (.bipush 15, 2) := by decide +kernel
theorem dX5_copyFrom_65 : decode cX5_copyFrom 65 = .ok (.if_icmp .ge 24, 3) := by decide +kernel
theorem dX5_copyFrom_68 : decode cX5_copyFrom 68 = .ok (.aload_n 0, 1) := by decide +kernel
theorem dX5_copyFrom_69 : decode cX5_copyFrom 69 = .ok (.getfield 19, 3) := by decide +kernel
theorem dX5_copyFrom_72 : decode cX5_copyFrom 72 = .ok (.iload_n 2, 1) := by decide +kernel
theorem dX5_copyFrom_73 : decode cX5_copyFrom 73 = .ok (.aaload, 1) := by decide +kernel
theorem dX5_copyFrom_74 : decode cX5_copyFrom 74 = .ok (.aload_n 1, 1) := by decide +kernel
theorem dX5_copyFrom_75 : decode cX5_copyFrom 75 = .ok (.getfield 19, 3) := by decide +kernel
theorem dX5_copyFrom_78 : decode cX5_copyFrom 78 = .ok (.iload_n 2, 1) := by decide +kernel
theorem dX5_copyFrom_79 : decode cX5_copyFrom 79 = .ok (.aaload, 1) := by decide +kernel
theorem dX5_copyFrom_80 : decode cX5_copyFrom 80 = .ok (.invokevirtual 72, 3) := by decide +kernel
theorem dX5_copyFrom_83 : decode cX5_copyFrom 83 = .ok (.iinc 2 1, 3) := by decide +kernel
theorem dX5_copyFrom_86 : decode cX5_copyFrom 86 = .ok (.goto (-32), 3) := by decide +kernel
theorem dX5_copyFrom_89 : decode cX5_copyFrom 89 = .ok (.aload_n 0, 1) := by decide +kernel
theorem dX5_copyFrom_90 : decode cX5_copyFrom 90 = .ok (.aload_n 1, 1) := by decide +kernel
theorem dX5_copyFrom_91 : decode cX5_copyFrom 91 = .ok (.getfield 52, 3) := by decide +kernel
theorem dX5_copyFrom_94 : decode cX5_copyFrom 94 = .ok (.putfield 52, 3) := by decide +kernel
theorem dX5_copyFrom_97 : decode cX5_copyFrom 97 = .ok (.aload_n 0, 1) := by decide +kernel
theorem dX5_copyFrom_98 : decode cX5_copyFrom 98 = .ok (.aload_n 1, 1) := by decide +kernel
theorem dX5_copyFrom_99 : decode cX5_copyFrom 99 = .ok (.getfield 56, 3) := by decide +kernel
theorem dX5_copyFrom_102 : decode cX5_copyFrom 102 = .ok (.putfield 56, 3) := by decide +kernel
theorem dX5_copyFrom_105 : decode cX5_copyFrom 105 = .ok (.aload_n 0, 1) := by decide +kernel
theorem dX5_copyFrom_106 : decode cX5_copyFrom 106 = .ok (.aload_n 1, 1) := by decide +kernel
theorem dX5_copyFrom_107 : decode cX5_copyFrom 107 = .ok (.getfield 59, 3) := by decide +kernel
theorem dX5_copyFrom_110 : decode cX5_copyFrom 110 = .ok (.putfield 59, 3) := by decide +kernel
theorem dX5_copyFrom_113 : decode cX5_copyFrom 113 = .ok (.aload_n 0, 1) := by decide +kernel
theorem dX5_copyFrom_114 : decode cX5_copyFrom 114 = .ok (.aload_n 1, 1) := by decide +kernel
theorem dX5_copyFrom_115 : decode cX5_copyFrom 115 = .ok (.getfield 62, 3) := by decide +kernel
theorem dX5_copyFrom_118 : decode cX5_copyFrom 118 = .ok (.putfield 62, 3) := by decide +kernel
theorem dX5_copyFrom_121 : decode cX5_copyFrom 121 = .ok (.aload_n 1, 1) := by decide +kernel
theorem dX5_copyFrom_122 : decode cX5_copyFrom 122 = .ok (.getfield 23, 3) := by decide +kernel
theorem dX5_copyFrom_125 : decode cX5_copyFrom 125 = .ok (.iconst 0, 1) := by decide +kernel
theorem dX5_copyFrom_126 : decode cX5_copyFrom 126 = .ok (.aload_n 0, 1) := by decide +kernel
theorem dX5_copyFrom_127 : decode cX5_copyFrom 127 = .ok (.getfield 23, 3) := by decide +kernel
theorem dX5_copyFrom_130 : decode cX5_copyFrom 130 = .ok (.iconst 0, 1) := by decide +kernel
theorem dX5_copyFrom_131 : decode cX5_copyFrom 131 = .ok (.iconst 4, 1) := by decide +kernel
theorem dX5_copyFrom_132 : decode cX5_copyFrom 132 = .ok (.invokestatic 75, 3) := by decide +kernel
theorem dX5_copyFrom_135 : decode cX5_copyFrom 135 = .ok (.aload_n 1, 1) := by decide +kernel
theorem dX5_copyFrom_136 : decode cX5_copyFrom 136 = .ok (.getfield 27, 3) := by decide +kernel
theorem dX5_copyFrom_139 : decode cX5_copyFrom 139 = .ok (.iconst 0, 1) := by decide +kernel
theorem dX5_copyFrom_140 : decode cX5_copyFrom 140 = .ok (.aload_n 0, 1) := by decide +kernel
theorem dX5_copyFrom_141 : decode cX5_copyFrom 141 = .ok (.getfield 27, 3) := by decide +kernel
theorem dX5_copyFrom_144 : decode cX5_copyFrom 144 = .ok (.iconst 0, 1) := by decide +kernel
theorem dX5_copyFrom_145 : decode cX5_copyFrom 145 = .ok (.iconst 4, 1) := by decide +kernel
theorem dX5_copyFrom_146 : decode cX5_copyFrom 146 = .ok (.invokestatic 75, 3) := by decide +kernel
theorem dX5_copyFrom_149 : decode cX5_copyFrom 149 = .ok (.aload_n 1, 1) := by decide +kernel
theorem dX5_copyFrom_150 : decode cX5_copyFrom 150 = .ok (.getfield 30, 3) := by decide +kernel
theorem dX5_copyFrom_153 : decode cX5_copyFrom 153 = .ok (.iconst 0, 1) := by decide +kernel
theorem dX5_copyFrom_154 : decode cX5_copyFrom 154 = .ok (.aload_n 0, 1) := by decide +kernel
theorem dX5_copyFrom_155 : decode cX5_copyFrom 155 = .ok (.getfield 30, 3) := by decide +kernel
theorem dX5_copyFrom_158 : decode cX5_copyFrom 158 = .ok (.iconst 0, 1) := by decide +kernel
theorem dX5_copyFrom_159 : decode cX5_copyFrom 159 = .ok (.iconst 4, 1) := by decide +kernel
theorem dX5_copyFrom_160 : decode cX5_copyFrom 160 = .ok (.invokestatic 75, 3) := by decide +kernel
theorem dX5_copyFrom_163 : decode cX5_copyFrom 163 = .ok (.aload_n 1, 1) := by decide +kernel
theorem dX5_copyFrom_164 : decode cX5_copyFrom 164 = .ok (.getfield 33, 3) := by decide +kernel
theorem dX5_copyFrom_167 : decode cX5_copyFrom 167 = .ok (.iconst 0, 1) := by decide +kernel
theorem dX5_copyFrom_168 : decode cX5_copyFrom 168 = .ok (.aload_n 0, 1) := by decide +kernel
theorem dX5_copyFrom_169 : decode cX5_copyFrom 169 = .ok (.getfield 33, 3) := by decide +kernel
theorem dX5_copyFrom_172 : decode cX5_copyFrom 172 = .ok (.iconst 0, 1) := by decide +kernel
theorem dX5_copyFrom_173 : decode cX5_copyFrom 173 = .ok (.iconst 3, 1) := by decide +kernel
theorem dX5_copyFrom_174 : decode cX5_copyFrom 174 = .ok (.invokestatic 75, 3) := by decide +kernel
theorem dX5_copyFrom_177 : decode cX5_copyFrom 177 = .ok (.aload_n 0, 1) := by decide +kernel
theorem dX5_copyFrom_178 : decode cX5_copyFrom 178 = .ok (.getfield 39, 3) := by decide +kernel
theorem dX5_copyFrom_181 : decode cX5_copyFrom 181 = .ok (.aload_n 1, 1) := by decide +kernel
theorem dX5_copyFrom_182 : decode cX5_copyFrom 182 = .ok (.getfield 39, 3) := by decide +kernel
theorem dX5_copyFrom_185 : decode cX5_copyFrom 185 = .ok (.invokevirtual 81, 3) := by decide +kernel
theorem dX5_copyFrom_188 : decode cX5_copyFrom 188 = .ok (.return_, 1) := by decide +kernel
set_option maxRecDepth 10000 in
theorem vX5_copyFrom_0 {κ : eg_K} {d : Nat} {post : eg_H → Prop} (M : eg_H) {l0 : Nat} (hl0 : l0 < 2) {l1 : Nat} (hl1 : l1 < 2) (h : (∀ M1 : eg_H, M1 = (sI M (5, l0) 0 (M.1 (5, l1) 0)) → eg_W κ gC mtX5_copyFrom d (eQV κ gC post) 10 [(0, vR (5, l0)), (1, vR (5, l1)), (2, vI (0 : Int32))] [] M1)) : eg_W κ gC mtX5_copyFrom d (eQV κ gC post) 0 [(0, vR (5, l0)), (1, vR (5, l1))] [] M := by
  refine eg_aload_n 0 dX5_copyFrom_0 rfl rfl ?_
  refine eg_aload_n 1 dX5_copyFrom_1 rfl rfl ?_
  refine eg_getI dX5_copyFrom_2 fl_5_45 rfl trivial (obC_5 hl1) ?_
  refine en_putI dX5_copyFrom_5 fl_5_45 rfl rfl (obC_5 hl0) (fun M1 eM1 => ?_)
  have h := h M1 eM1
  refine eg_iconst dX5_copyFrom_8 ic_0 ?_
  refine eg_istore_n dX5_copyFrom_9 rfl (by decide) (ls1 := [(2, vI (0 : Int32)), (0, vR (5, l0)), (1, vR (5, l1))]) rfl ?_
  refine eg_sub [1, 2, 0] rfl ?_
  exact h
set_option maxRecDepth 10000 in
theorem vX5_copyFrom_10 {κ : eg_K} {d : Nat} (hd : 1 ≤ d) {post : eg_H → Prop} (M : eg_H) {l0 : Nat} (hl0 : l0 < 2) {l1 : Nat} (hl1 : l1 < 2) (l2 : Int32) (h : ((M.1 (5, l0) 0) ≤ l2 → (∀ M2 : eg_H, M2 = (sI M (5, l0) 2 (M.1 (5, l1) 2)) → eg_W κ gC mtX5_copyFrom d (eQV κ gC post) 54 [(0, vR (5, l0)), (1, vR (5, l1)), (2, vI (0 : Int32))] [] M2)) ∧ ((¬ (M.1 (5, l0) 0) ≤ l2) → ((5 : Int32) ≤ l2 → (∀ M4 : eg_H, M4 = (sI M (5, l0) 2 (M.1 (5, l1) 2)) → eg_W κ gC mtX5_copyFrom d (eQV κ gC post) 54 [(0, vR (5, l0)), (1, vR (5, l1)), (2, vI (0 : Int32))] [] M4)) ∧ ((¬ (5 : Int32) ≤ l2) → (vp_in l2 5 ∧ (gX1_copyFrom M (5 * l0 + l2.toNatClampNeg) (5 * l1 + l2.toNatClampNeg) ∧ (∀ M7 : eg_H, M7 = (fX1_copyFrom M (5 * l0 + l2.toNatClampNeg) (5 * l1 + l2.toNatClampNeg)) → (∀ x9 : Int32, x9 = (l2 + (1 : Int32)) → eg_W κ gC mtX5_copyFrom d (eQV κ gC post) 10 [(0, vR (5, l0)), (1, vR (5, l1)), (2, vI x9)] [] M7))))))) : eg_W κ gC mtX5_copyFrom d (eQV κ gC post) 10 [(0, vR (5, l0)), (1, vR (5, l1)), (2, vI l2)] [] M := by
  refine eg_iload_n 2 dX5_copyFrom_10 rfl rfl ?_
  refine eg_aload_n 0 dX5_copyFrom_11 rfl rfl ?_
  refine eg_getI dX5_copyFrom_12 fl_5_45 rfl trivial (obC_5 hl0) ?_
  refine eg_icmp_ge (tgt := 44) dX5_copyFrom_15 rfl (fun c1 => ?_) (fun c1 => ?_)
  · have h := h.1 c1
    refine eg_aload_n 0 dX5_copyFrom_44 rfl rfl ?_
    refine eg_aload_n 1 dX5_copyFrom_45 rfl rfl ?_
    refine eg_getI dX5_copyFrom_46 fl_5_49 rfl trivial (obC_5 hl1) ?_
    refine en_putI dX5_copyFrom_49 fl_5_49 rfl rfl (obC_5 hl0) (fun M2 eM2 => ?_)
    have h := h M2 eM2
    refine eg_iconst dX5_copyFrom_52 ic_0 ?_
    refine eg_istore_n dX5_copyFrom_53 rfl (by decide) (ls1 := [(2, vI (0 : Int32)), (0, vR (5, l0)), (1, vR (5, l1))]) rfl ?_
    refine eg_sub [1, 2, 0] rfl ?_
    exact h
  · have h := h.2 c1
    refine eg_iload_n 2 dX5_copyFrom_18 rfl rfl ?_
    refine eg_iconst dX5_copyFrom_19 ic_5 ?_
    refine eg_icmp_ge (tgt := 44) dX5_copyFrom_20 rfl (fun c3 => ?_) (fun c3 => ?_)
    · have h := h.1 c3
      refine eg_aload_n 0 dX5_copyFrom_44 rfl rfl ?_
      refine eg_aload_n 1 dX5_copyFrom_45 rfl rfl ?_
      refine eg_getI dX5_copyFrom_46 fl_5_49 rfl trivial (obC_5 hl1) ?_
      refine en_putI dX5_copyFrom_49 fl_5_49 rfl rfl (obC_5 hl0) (fun M4 eM4 => ?_)
      have h := h M4 eM4
      refine eg_iconst dX5_copyFrom_52 ic_0 ?_
      refine eg_istore_n dX5_copyFrom_53 rfl (by decide) (ls1 := [(2, vI (0 : Int32)), (0, vR (5, l0)), (1, vR (5, l1))]) rfl ?_
      refine eg_sub [1, 2, 0] rfl ?_
      exact h
    · have h := h.2 c3
      refine eg_aload_n 0 dX5_copyFrom_23 rfl rfl ?_
      refine eg_getR dX5_copyFrom_24 fl_5_11 rfl rfl (obC_5 hl0) ?_
      show eg_W κ gC mtX5_copyFrom d (eQV κ gC post) 27 [(0, vR (5, l0)), (1, vR (5, l1)), (2, vI l2)] [vR (30, l0)] M
      refine eg_iload_n 2 dX5_copyFrom_27 rfl rfl ?_
      obtain ⟨g5, h⟩ := h
      refine eg_aaload4 dX5_copyFrom_28 (arC_30 hl0 g5) ?_
      show eg_W κ gC mtX5_copyFrom d (eQV κ gC post) 29 [(0, vR (5, l0)), (1, vR (5, l1)), (2, vI l2)] [vR (1, 5 * l0 + l2.toNatClampNeg)] M
      refine eg_aload_n 1 dX5_copyFrom_29 rfl rfl ?_
      refine eg_getR dX5_copyFrom_30 fl_5_11 rfl rfl (obC_5 hl1) ?_
      show eg_W κ gC mtX5_copyFrom d (eQV κ gC post) 33 [(0, vR (5, l0)), (1, vR (5, l1)), (2, vI l2)] [vR (30, l1), vR (1, 5 * l0 + l2.toNatClampNeg)] M
      refine eg_iload_n 2 dX5_copyFrom_33 rfl rfl ?_
      refine eg_aaload4 dX5_copyFrom_34 (arC_30 hl1 g5) ?_
      show eg_W κ gC mtX5_copyFrom d (eQV κ gC post) 35 [(0, vR (5, l0)), (1, vR (5, l1)), (2, vI l2)] [vR (1, 5 * l1 + l2.toNatClampNeg), vR (1, 5 * l0 + l2.toNatClampNeg)] M
      obtain ⟨g6, h⟩ := h
      refine eg_callVV (av := [vR (1, 5 * l1 + l2.toNatClampNeg)]) (st := []) dX5_copyFrom_35 ml_5_68 rfl rfl (obC_1 (ixP5 hl0 g5)) (by decide) rfl (Nat.le_of_ble_eq_true rfl) (eg_dd (by omega)) (sX1_copyFrom (by omega) M (5 * l0 + l2.toNatClampNeg) (5 * l1 + l2.toNatClampNeg) (ixP5 hl0 g5) (ixP5 hl1 g5) g6) (fun M7 eM7 => ?_)
      have h := h M7 eM7
      refine en_iinc (f := fun x9 => [(2, vI x9), (0, vR (5, l0)), (1, vR (5, l1))]) 2 dX5_copyFrom_38 rfl rfl (by decide) rfl (fun x9 ex9 => ?_)
      have h := h x9 ex9
      refine eg_goto (tgt := 10) dX5_copyFrom_41 rfl ?_
      refine eg_sub [1, 2, 0] rfl ?_
      exact h
set_option maxRecDepth 10000 in
theorem vX5_copyFrom_54 {κ : eg_K} {d : Nat} (hd : 2 ≤ d) {post : eg_H → Prop} (M : eg_H) {l0 : Nat} (hl0 : l0 < 2) {l1 : Nat} (hl1 : l1 < 2) (l2 : Int32) (h : ((M.1 (5, l0) 2) ≤ l2 → eg_W κ gC mtX5_copyFrom d (eQV κ gC post) 89 [(0, vR (5, l0)), (1, vR (5, l1))] [] M) ∧ ((¬ (M.1 (5, l0) 2) ≤ l2) → ((15 : Int32) ≤ l2 → eg_W κ gC mtX5_copyFrom d (eQV κ gC post) 89 [(0, vR (5, l0)), (1, vR (5, l1))] [] M) ∧ ((¬ (15 : Int32) ≤ l2) → (vp_in l2 15 ∧ (∀ M4 : eg_H, M4 = (fX0_copyFrom M (15 * l0 + l2.toNatClampNeg) (15 * l1 + l2.toNatClampNeg)) → (∀ x6 : Int32, x6 = (l2 + (1 : Int32)) → eg_W κ gC mtX5_copyFrom d (eQV κ gC post) 54 [(0, vR (5, l0)), (1, vR (5, l1)), (2, vI x6)] [] M4)))))) : eg_W κ gC mtX5_copyFrom d (eQV κ gC post) 54 [(0, vR (5, l0)), (1, vR (5, l1)), (2, vI l2)] [] M := by
  refine eg_iload_n 2 dX5_copyFrom_54 rfl rfl ?_
  refine eg_aload_n 0 dX5_copyFrom_55 rfl rfl ?_
  refine eg_getI dX5_copyFrom_56 fl_5_49 rfl trivial (obC_5 hl0) ?_
  refine eg_icmp_ge (tgt := 89) dX5_copyFrom_59 rfl (fun c1 => ?_) (fun c1 => ?_)
  · have h := h.1 c1
    refine eg_sub [0, 1] rfl ?_
    exact h
  · have h := h.2 c1
    refine eg_iload_n 2 dX5_copyFrom_62 rfl rfl ?_
    refine eg_bipush dX5_copyFrom_63 bp_15 ?_
    refine eg_icmp_ge (tgt := 89) dX5_copyFrom_65 rfl (fun c2 => ?_) (fun c2 => ?_)
    · have h := h.1 c2
      refine eg_sub [0, 1] rfl ?_
      exact h
    · have h := h.2 c2
      refine eg_aload_n 0 dX5_copyFrom_68 rfl rfl ?_
      refine eg_getR dX5_copyFrom_69 fl_5_19 rfl rfl (obC_5 hl0) ?_
      show eg_W κ gC mtX5_copyFrom d (eQV κ gC post) 72 [(0, vR (5, l0)), (1, vR (5, l1)), (2, vI l2)] [vR (31, l0)] M
      refine eg_iload_n 2 dX5_copyFrom_72 rfl rfl ?_
      obtain ⟨g3, h⟩ := h
      refine eg_aaload5 dX5_copyFrom_73 (arC_31 hl0 g3) ?_
      show eg_W κ gC mtX5_copyFrom d (eQV κ gC post) 74 [(0, vR (5, l0)), (1, vR (5, l1)), (2, vI l2)] [vR (0, 15 * l0 + l2.toNatClampNeg)] M
      refine eg_aload_n 1 dX5_copyFrom_74 rfl rfl ?_
      refine eg_getR dX5_copyFrom_75 fl_5_19 rfl rfl (obC_5 hl1) ?_
      show eg_W κ gC mtX5_copyFrom d (eQV κ gC post) 78 [(0, vR (5, l0)), (1, vR (5, l1)), (2, vI l2)] [vR (31, l1), vR (0, 15 * l0 + l2.toNatClampNeg)] M
      refine eg_iload_n 2 dX5_copyFrom_78 rfl rfl ?_
      refine eg_aaload5 dX5_copyFrom_79 (arC_31 hl1 g3) ?_
      show eg_W κ gC mtX5_copyFrom d (eQV κ gC post) 80 [(0, vR (5, l0)), (1, vR (5, l1)), (2, vI l2)] [vR (0, 15 * l1 + l2.toNatClampNeg), vR (0, 15 * l0 + l2.toNatClampNeg)] M
      refine eg_callVV (av := [vR (0, 15 * l1 + l2.toNatClampNeg)]) (st := []) dX5_copyFrom_80 ml_5_72 rfl rfl (obC_0 (ixP15 hl0 g3)) (by decide) rfl (Nat.le_of_ble_eq_true rfl) (eg_dd (by omega)) (sX0_copyFrom (by omega) M (15 * l0 + l2.toNatClampNeg) (15 * l1 + l2.toNatClampNeg) (ixP15 hl0 g3) (ixP15 hl1 g3) ) (fun M4 eM4 => ?_)
      have h := h M4 eM4
      refine en_iinc (f := fun x6 => [(2, vI x6), (0, vR (5, l0)), (1, vR (5, l1))]) 2 dX5_copyFrom_83 rfl rfl (by decide) rfl (fun x6 ex6 => ?_)
      have h := h x6 ex6
      refine eg_goto (tgt := 54) dX5_copyFrom_86 rfl ?_
      refine eg_sub [1, 2, 0] rfl ?_
      exact h
set_option maxRecDepth 10000 in
theorem vX5_copyFrom_89 {κ : eg_K} {d : Nat} (hd : 2 ≤ d) {post : eg_H → Prop} (M : eg_H) {l0 : Nat} (hl0 : l0 < 2) {l1 : Nat} (hl1 : l1 < 2) (h : (((M.1 (5, l1) 4) = 0 ∨ (M.1 (5, l1) 4) = 1) ∧ (∀ M1 : eg_H, M1 = (sI M (5, l0) 4 (M.1 (5, l1) 4)) → (∀ M3 : eg_H, M3 = (sI M1 (5, l0) 5 (M1.1 (5, l1) 5)) → (∀ M4 : eg_H, M4 = (sI M3 (5, l0) 6 (M3.1 (5, l1) 6)) → (∀ M5 : eg_H, M5 = (sI M4 (5, l0) 7 (M4.1 (5, l1) 7)) → (∀ M6 : eg_H, M6 = (sC M5 (32, l1) (32, l0) (0 : Int32).toNatClampNeg (0 : Int32).toNatClampNeg (4 : Int32).toNatClampNeg) → (∀ M7 : eg_H, M7 = (sC M6 (33, l1) (33, l0) (0 : Int32).toNatClampNeg (0 : Int32).toNatClampNeg (4 : Int32).toNatClampNeg) → (∀ M8 : eg_H, M8 = (sC M7 (34, l1) (34, l0) (0 : Int32).toNatClampNeg (0 : Int32).toNatClampNeg (4 : Int32).toNatClampNeg) → (∀ M9 : eg_H, M9 = (sC M8 (35, l1) (35, l0) (0 : Int32).toNatClampNeg (0 : Int32).toNatClampNeg (3 : Int32).toNatClampNeg) → (gX3_copyFrom M9 l0 l1 ∧ (∀ M11 : eg_H, M11 = (fX3_copyFrom M9 l0 l1) → post M11)))))))))))) : eg_W κ gC mtX5_copyFrom d (eQV κ gC post) 89 [(0, vR (5, l0)), (1, vR (5, l1))] [] M := by
  refine eg_aload_n 0 dX5_copyFrom_89 rfl rfl ?_
  refine eg_aload_n 1 dX5_copyFrom_90 rfl rfl ?_
  refine eg_getI dX5_copyFrom_91 fl_5_52 rfl trivial (obC_5 hl1) ?_
  obtain ⟨g2, h⟩ := h
  refine en_putZ dX5_copyFrom_94 fl_5_52 rfl rfl g2 (obC_5 hl0) (fun M1 eM1 => ?_)
  have h := h M1 eM1
  refine eg_aload_n 0 dX5_copyFrom_97 rfl rfl ?_
  refine eg_aload_n 1 dX5_copyFrom_98 rfl rfl ?_
  refine eg_getI dX5_copyFrom_99 fl_5_56 rfl trivial (obC_5 hl1) ?_
  refine en_putI dX5_copyFrom_102 fl_5_56 rfl rfl (obC_5 hl0) (fun M3 eM3 => ?_)
  have h := h M3 eM3
  refine eg_aload_n 0 dX5_copyFrom_105 rfl rfl ?_
  refine eg_aload_n 1 dX5_copyFrom_106 rfl rfl ?_
  refine eg_getI dX5_copyFrom_107 fl_5_59 rfl trivial (obC_5 hl1) ?_
  refine en_putI dX5_copyFrom_110 fl_5_59 rfl rfl (obC_5 hl0) (fun M4 eM4 => ?_)
  have h := h M4 eM4
  refine eg_aload_n 0 dX5_copyFrom_113 rfl rfl ?_
  refine eg_aload_n 1 dX5_copyFrom_114 rfl rfl ?_
  refine eg_getI dX5_copyFrom_115 fl_5_62 rfl trivial (obC_5 hl1) ?_
  refine en_putI dX5_copyFrom_118 fl_5_62 rfl rfl (obC_5 hl0) (fun M5 eM5 => ?_)
  have h := h M5 eM5
  refine eg_aload_n 1 dX5_copyFrom_121 rfl rfl ?_
  refine eg_getR dX5_copyFrom_122 fl_5_23 rfl rfl (obC_5 hl1) ?_
  show eg_W κ gC mtX5_copyFrom d (eQV κ gC post) 125 [(0, vR (5, l0)), (1, vR (5, l1))] [vR (32, l1)] M5
  refine eg_iconst dX5_copyFrom_125 ic_0 ?_
  refine eg_aload_n 0 dX5_copyFrom_126 rfl rfl ?_
  refine eg_getR dX5_copyFrom_127 fl_5_23 rfl rfl (obC_5 hl0) ?_
  show eg_W κ gC mtX5_copyFrom d (eQV κ gC post) 130 [(0, vR (5, l0)), (1, vR (5, l1))] [vR (32, l0), vI (0 : Int32), vR (32, l1)] M5
  refine eg_iconst dX5_copyFrom_130 ic_0 ?_
  refine eg_iconst dX5_copyFrom_131 ic_4 ?_
  refine en_copy dX5_copyFrom_132 ml_5_75 (anC_32 hl1) (anC_32 hl0) (by decide) (Nat.le_of_ble_eq_true rfl) (by omega) (fun M6 eM6 => ?_)
  have h := h M6 eM6
  refine eg_aload_n 1 dX5_copyFrom_135 rfl rfl ?_
  refine eg_getR dX5_copyFrom_136 fl_5_27 rfl rfl (obC_5 hl1) ?_
  show eg_W κ gC mtX5_copyFrom d (eQV κ gC post) 139 [(0, vR (5, l0)), (1, vR (5, l1))] [vR (33, l1)] M6
  refine eg_iconst dX5_copyFrom_139 ic_0 ?_
  refine eg_aload_n 0 dX5_copyFrom_140 rfl rfl ?_
  refine eg_getR dX5_copyFrom_141 fl_5_27 rfl rfl (obC_5 hl0) ?_
  show eg_W κ gC mtX5_copyFrom d (eQV κ gC post) 144 [(0, vR (5, l0)), (1, vR (5, l1))] [vR (33, l0), vI (0 : Int32), vR (33, l1)] M6
  refine eg_iconst dX5_copyFrom_144 ic_0 ?_
  refine eg_iconst dX5_copyFrom_145 ic_4 ?_
  refine en_copy dX5_copyFrom_146 ml_5_75 (anC_33 hl1) (anC_33 hl0) (by decide) (Nat.le_of_ble_eq_true rfl) (by omega) (fun M7 eM7 => ?_)
  have h := h M7 eM7
  refine eg_aload_n 1 dX5_copyFrom_149 rfl rfl ?_
  refine eg_getR dX5_copyFrom_150 fl_5_30 rfl rfl (obC_5 hl1) ?_
  show eg_W κ gC mtX5_copyFrom d (eQV κ gC post) 153 [(0, vR (5, l0)), (1, vR (5, l1))] [vR (34, l1)] M7
  refine eg_iconst dX5_copyFrom_153 ic_0 ?_
  refine eg_aload_n 0 dX5_copyFrom_154 rfl rfl ?_
  refine eg_getR dX5_copyFrom_155 fl_5_30 rfl rfl (obC_5 hl0) ?_
  show eg_W κ gC mtX5_copyFrom d (eQV κ gC post) 158 [(0, vR (5, l0)), (1, vR (5, l1))] [vR (34, l0), vI (0 : Int32), vR (34, l1)] M7
  refine eg_iconst dX5_copyFrom_158 ic_0 ?_
  refine eg_iconst dX5_copyFrom_159 ic_4 ?_
  refine en_copy dX5_copyFrom_160 ml_5_75 (anC_34 hl1) (anC_34 hl0) (by decide) (Nat.le_of_ble_eq_true rfl) (by omega) (fun M8 eM8 => ?_)
  have h := h M8 eM8
  refine eg_aload_n 1 dX5_copyFrom_163 rfl rfl ?_
  refine eg_getR dX5_copyFrom_164 fl_5_33 rfl rfl (obC_5 hl1) ?_
  show eg_W κ gC mtX5_copyFrom d (eQV κ gC post) 167 [(0, vR (5, l0)), (1, vR (5, l1))] [vR (35, l1)] M8
  refine eg_iconst dX5_copyFrom_167 ic_0 ?_
  refine eg_aload_n 0 dX5_copyFrom_168 rfl rfl ?_
  refine eg_getR dX5_copyFrom_169 fl_5_33 rfl rfl (obC_5 hl0) ?_
  show eg_W κ gC mtX5_copyFrom d (eQV κ gC post) 172 [(0, vR (5, l0)), (1, vR (5, l1))] [vR (35, l0), vI (0 : Int32), vR (35, l1)] M8
  refine eg_iconst dX5_copyFrom_172 ic_0 ?_
  refine eg_iconst dX5_copyFrom_173 ic_3 ?_
  refine en_copy dX5_copyFrom_174 ml_5_75 (anC_35 hl1) (anC_35 hl0) (by decide) (Nat.le_of_ble_eq_true rfl) (by omega) (fun M9 eM9 => ?_)
  have h := h M9 eM9
  refine eg_aload_n 0 dX5_copyFrom_177 rfl rfl ?_
  refine eg_getR dX5_copyFrom_178 fl_5_39 rfl rfl (obC_5 hl0) ?_
  show eg_W κ gC mtX5_copyFrom d (eQV κ gC post) 181 [(0, vR (5, l0)), (1, vR (5, l1))] [vR (3, l0)] M9
  refine eg_aload_n 1 dX5_copyFrom_181 rfl rfl ?_
  refine eg_getR dX5_copyFrom_182 fl_5_39 rfl rfl (obC_5 hl1) ?_
  show eg_W κ gC mtX5_copyFrom d (eQV κ gC post) 185 [(0, vR (5, l0)), (1, vR (5, l1))] [vR (3, l1), vR (3, l0)] M9
  obtain ⟨g10, h⟩ := h
  refine eg_callVV (av := [vR (3, l1)]) (st := []) dX5_copyFrom_185 ml_5_81 rfl rfl (obC_3 hl0) (by decide) rfl (Nat.le_of_ble_eq_true rfl) (eg_dd (by omega)) (sX3_copyFrom (by omega) M9 l0 l1 hl0 hl1 g10) (fun M11 eM11 => ?_)
  have h := h M11 eM11
  exact eg_vreturn dX5_copyFrom_188 rfl h
