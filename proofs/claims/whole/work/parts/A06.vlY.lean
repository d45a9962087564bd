theorem dX11_plain_0 : decode cX11_plain 0 = .ok (.aload_n 0, 1) := by decide +kernel
theorem dX11_plain_1 : decode cX11_plain 1 = .ok (.iconst 0, 1) := by decide +kernel
theorem dX11_plain_2 : decode cX11_plain 2 = .ok (.putfield 181, 3) := by decide +kernel
theorem dX11_plain_5 : decode cX11_plain 5 = .ok (.aload_n 0, 1) := by decide +kernel
theorem dX11_plain_6 : decode cX11_plain 6 = .ok (.iconst 0, 1) := by decide +kernel
theorem dX11_plain_7 : decode cX11_plain 7 = .ok (.putfield 184, 3) := by decide +kernel
theorem dX11_plain_10 : decode cX11_plain 10 = .ok (.aload_n 0, 1) := by decide +kernel
theorem dX11_plain_11 : decode cX11_plain 11 = .ok (.iconst 0, 1) := by decide +kernel
theorem dX11_plain_12 : decode cX11_plain 12 = .ok (.putfield 187, 3) := by decide +kernel
theorem dX11_plain_15 : decode cX11_plain 15 = .ok (.aload_n 0, 1) := by decide +kernel
theorem dX11_plain_16 : decode cX11_plain 16 = .ok (.iconst 0, 1) := by decide +kernel
theorem dX11_plain_17 : decode cX11_plain 17 = .ok (.putfield 190, 3) := by decide +kernel
theorem dX11_plain_20 : decode cX11_plain 20 = .ok (.aload_n 0, 1) := by decide +kernel
theorem dX11_plain_21 : decode cX11_plain 21 = .ok (.iconst 0, 1) := by decide +kernel
theorem dX11_plain_22 : decode cX11_plain 22 = .ok (.putfield 193, 3) := by decide +kernel
theorem dX11_plain_25 : decode cX11_plain 25 = .ok (.aload_n 0, 1) := by decide +kernel
theorem dX11_plain_26 : decode cX11_plain 26 = .ok (.iconst 0, 1) := by decide +kernel
theorem dX11_plain_27 : decode cX11_plain 27 = .ok (.putfield 196, 3) := by decide +kernel
theorem dX11_plain_30 : decode cX11_plain 30 = .ok (.aload_n 0, 1) := by decide +kernel
theorem dX11_plain_31 : decode cX11_plain 31 = .ok (.iconst 0, 1) := by decide +kernel
theorem dX11_plain_32 : decode cX11_plain 32 = .ok (.putfield 200, 3) := by decide +kernel
theorem dX11_plain_35 : decode cX11_plain 35 = .ok (.aload_n 0, 1) := by decide +kernel
theorem dX11_plain_36 : decode cX11_plain 36 = .ok (.sipush 3600, 3) := by decide +kernel
theorem dX11_plain_39 : decode cX11_plain 39 = .ok (.putfield 203, 3) := by decide +kernel
theorem dX11_plain_42 : decode cX11_plain 42 = .ok (.aload_n 0, 1) := by decide +kernel
theorem dX11_plain_43 : decode cX11_plain 43 = .ok (.iconst 0, 1) := by decide +kernel
theorem dX11_plain_44 : decode cX11_plain 44 = .ok (.putfield 206, 3) := by decide +kernel
theorem dX11_plain_47 : decode cX11_plain 47 = .ok (.iconst 0, 1) := by decide +kernel
theorem dX11_plain_48 : decode cX11_plain 48 = .ok (.istore_n 1, 1) := by decide +kernel
theorem dX11_plain_49 : decode cX11_plain 49 = .ok (.iload_n 1, 1) := by decide +kernel
theorem dX11_plain_50 : decode cX11_plain 50 = .ok (.iconst 3, 1) := by decide +kernel
theorem dX11_plain_51 : decode cX11_plain 51 = .ok (.if_icmp .ge 18, 3) := by decide +kernel
theorem dX11_plain_54 : decode cX11_plain 54 = .ok (.aload_n 0, 1) := by decide +kernel
theorem dX11_plain_55 : decode cX11_plain 55 = .ok (.getfield 50, 3) := by decide +kernel
theorem dX11_plain_58 : decode cX11_plain 58 = .ok (.iconst 3, 1) := by decide +kernel
theorem dX11_plain_59 : decode cX11_plain 59 = .ok (.iload_n 1, 1) := by decide +kernel
theorem dX11_plain_60 : decode cX11_plain 60 = .ok (.iadd, 1) := by decide +kernel
theorem dX11_plain_61 : decode cX11_plain 61 = .ok (.iconst 0, 1) := by decide +kernel
theorem dX11_plain_62 : decode cX11_plain 62 = .ok (.bastore, 1) := by decide +kernel
theorem dX11_plain_63 : decode cX11_plain 63 = .ok (.iinc 1 1, 3) := by decide +kernel
theorem dX11_plain_66 : decode cX11_plain 66 = .ok (.goto (-17), 3) := by decide +kernel
theorem dX11_plain_69 : decode cX11_plain 69 = .ok (.return_, 1) := by decide +kernel
set_option maxRecDepth 10000 in
theorem vX11_plain_0 {κ : eg_K} {d : Nat} {post : eg_H → Prop} (M : eg_H)  (h : (∀ M1 : eg_H, M1 = (sI M (60, 0) 19 (0 : Int32)) → (∀ M2 : eg_H, M2 = (sI M1 (60, 0) 20 (0 : Int32)) → (∀ M3 : eg_H, M3 = (sI M2 (60, 0) 21 (0 : Int32)) → (∀ M4 : eg_H, M4 = (sI M3 (60, 0) 22 (0 : Int32)) → (∀ M5 : eg_H, M5 = (sI M4 (60, 0) 46 (0 : Int32)) → (∀ M6 : eg_H, M6 = (sI M5 (60, 0) 23 (0 : Int32)) → (∀ M7 : eg_H, M7 = (sI M6 (60, 0) 24 (0 : Int32)) → (∀ M8 : eg_H, M8 = (sI M7 (60, 0) 25 (3600 : Int32)) → (∀ M9 : eg_H, M9 = (sI M8 (60, 0) 26 (0 : Int32)) → eg_W κ gM mtX11_plain d (eQV κ gM post) 49 [(0, vR (60, 0)), (1, vI (0 : Int32))] [] M9)))))))))) : eg_W κ gM mtX11_plain d (eQV κ gM post) 0 [(0, vR (60, 0))] [] M := by
  refine eg_aload_n 0 dX11_plain_0 rfl rfl ?_
  refine eg_iconst dX11_plain_1 ic_0 ?_
  refine en_putI dX11_plain_2 fl_11_181 rfl rfl (obM_60 z1) (fun M1 eM1 => ?_)
  have h := h M1 eM1
  refine eg_aload_n 0 dX11_plain_5 rfl rfl ?_
  refine eg_iconst dX11_plain_6 ic_0 ?_
  refine en_putI dX11_plain_7 fl_11_184 rfl rfl (obM_60 z1) (fun M2 eM2 => ?_)
  have h := h M2 eM2
  refine eg_aload_n 0 dX11_plain_10 rfl rfl ?_
  refine eg_iconst dX11_plain_11 ic_0 ?_
  refine en_putI dX11_plain_12 fl_11_187 rfl rfl (obM_60 z1) (fun M3 eM3 => ?_)
  have h := h M3 eM3
  refine eg_aload_n 0 dX11_plain_15 rfl rfl ?_
  refine eg_iconst dX11_plain_16 ic_0 ?_
  refine en_putI dX11_plain_17 fl_11_190 rfl rfl (obM_60 z1) (fun M4 eM4 => ?_)
  have h := h M4 eM4
  refine eg_aload_n 0 dX11_plain_20 rfl rfl ?_
  refine eg_iconst dX11_plain_21 ic_0 ?_
  refine en_putI dX11_plain_22 fl_11_193 rfl rfl (obM_60 z1) (fun M5 eM5 => ?_)
  have h := h M5 eM5
  refine eg_aload_n 0 dX11_plain_25 rfl rfl ?_
  refine eg_iconst dX11_plain_26 ic_0 ?_
  refine en_putZ dX11_plain_27 fl_11_196 rfl rfl (Or.inl rfl) (obM_60 z1) (fun M6 eM6 => ?_)
  have h := h M6 eM6
  refine eg_aload_n 0 dX11_plain_30 rfl rfl ?_
  refine eg_iconst dX11_plain_31 ic_0 ?_
  refine en_putI dX11_plain_32 fl_11_200 rfl rfl (obM_60 z1) (fun M7 eM7 => ?_)
  have h := h M7 eM7
  refine eg_aload_n 0 dX11_plain_35 rfl rfl ?_
  refine eg_sipush dX11_plain_36 sp_3600 ?_
  refine en_putI dX11_plain_39 fl_11_203 rfl rfl (obM_60 z1) (fun M8 eM8 => ?_)
  have h := h M8 eM8
  refine eg_aload_n 0 dX11_plain_42 rfl rfl ?_
  refine eg_iconst dX11_plain_43 ic_0 ?_
  refine en_putZ dX11_plain_44 fl_11_206 rfl rfl (Or.inl rfl) (obM_60 z1) (fun M9 eM9 => ?_)
  have h := h M9 eM9
  refine eg_iconst dX11_plain_47 ic_0 ?_
  refine eg_istore_n dX11_plain_48 rfl (by decide) (ls1 := [(1, vI (0 : Int32)), (0, vR (60, 0))]) rfl ?_
  refine eg_sub [1, 0] rfl ?_
  exact h
set_option maxRecDepth 10000 in
theorem vX11_plain_49 {κ : eg_K} {d : Nat} {post : eg_H → Prop} (M : eg_H) (l1 : Int32) (h : ((3 : Int32) ≤ l1 → post M) ∧ ((¬ (3 : Int32) ≤ l1) → (vp_in ((3 : Int32) + l1) 6 ∧ (∀ M3 : eg_H, M3 = (sI M (98, 0) ((3 : Int32) + l1).toNatClampNeg (vp_nar .boolean (0 : Int32))) → (∀ x4 : Int32, x4 = (l1 + (1 : Int32)) → eg_W κ gM mtX11_plain d (eQV κ gM post) 49 [(0, vR (60, 0)), (1, vI x4)] [] M3))))) : eg_W κ gM mtX11_plain d (eQV κ gM post) 49 [(0, vR (60, 0)), (1, vI l1)] [] M := by
  refine eg_iload_n 1 dX11_plain_49 rfl rfl ?_
  refine eg_iconst dX11_plain_50 ic_3 ?_
  refine eg_icmp_ge (tgt := 69) dX11_plain_51 rfl (fun c1 => ?_) (fun c1 => ?_)
  · have h := h.1 c1
    exact eg_vreturn dX11_plain_69 rfl h
  · have h := h.2 c1
    refine eg_aload_n 0 dX11_plain_54 rfl rfl ?_
    refine eg_getR dX11_plain_55 fl_11_50 rfl rfl (obM_60 z1) ?_
    show eg_W κ gM mtX11_plain d (eQV κ gM post) 58 [(0, vR (60, 0)), (1, vI l1)] [vR (98, 0)] M
    refine eg_iconst dX11_plain_58 ic_3 ?_
    refine eg_iload_n 1 dX11_plain_59 rfl rfl ?_
    refine eg_iadd dX11_plain_60 ?_
    refine eg_iconst dX11_plain_61 ic_0 ?_
    obtain ⟨g2, h⟩ := h
    refine en_zastore dX11_plain_62 (arM_98 z1 g2) (fun M3 eM3 => ?_)
    have h := h M3 eM3
    refine en_iinc (f := fun x4 => [(1, vI x4), (0, vR (60, 0))]) 1 dX11_plain_63 rfl rfl (by decide) rfl (fun x4 ex4 => ?_)
    have h := h x4 ex4
    refine eg_goto (tgt := 49) dX11_plain_66 rfl ?_
    refine eg_sub [1, 0] rfl ?_
    exact h
theorem dX11_token_0 : decode cX11_token 0 = .ok (.aload_n 0, 1) := by decide +kernel
theorem dX11_token_1 : decode cX11_token 1 = .ok (.getfield 142, 3) := by decide +kernel
theorem dX11_token_4 : decode cX11_token 4 = .ok (.aload_n 0, 1) := by decide +kernel
theorem dX11_token_5 : decode cX11_token 5 = .ok (.getfield 139, 3) := by decide +kernel
theorem dX11_token_8 : decode cX11_token 8 = .ok (.if_icmp .ge 44, 3) := by decide +kernel
theorem dX11_token_11 : decode cX11_token 11 = .ok (.aload_n 0, 1) := by decide +kernel
theorem dX11_token_12 : decode cX11_token 12 = .ok (.getfield 7, 3) := by decide +kernel
theorem dX11_token_15 : decode cX11_token 15 = .ok (.aload_n 0, 1) := by decide +kernel
theorem dX11_token_16 : decode cX11_token 16 = .ok (.getfield 142, 3) := by decide +kernel
theorem dX11_token_19 : decode cX11_token 19 = .ok (.iaload, 1) := by decide +kernel
theorem dX11_token_20 : decode cX11_token 20 = .ok (.bipush 10, 2) := by decide +kernel
theorem dX11_token_22 : decode cX11_token 22 = .ok (.if_icmp .eq 17, 3) := by decide +kernel
theorem dX11_token_25 : decode cX11_token 25 = .ok (.aload_n 0, 1) := by decide +kernel
theorem dX11_token_26 : decode cX11_token 26 = .ok (.getfield 7, 3) := by decide +kernel
theorem dX11_token_29 : decode cX11_token 29 = .ok (.aload_n 0, 1) := by decide +kernel
theorem dX11_token_30 : decode cX11_token 30 = .ok (.getfield 142, 3) := by decide +kernel
theorem dX11_token_33 : decode cX11_token 33 = .ok (.iaload, 1) := by decide +kernel
theorem dX11_token_34 : decode cX11_token 34 = .ok (.bipush 32, 2) := by decide +kernel
theorem dX11_token_36 : decode cX11_token 36 = .ok (.if_icmp .ne 16, 3) := by decide +kernel
theorem dX11_token_39 : decode cX11_token 39 = .ok (.aload_n 0, 1) := by decide +kernel
theorem dX11_token_40 : decode cX11_token 40 = .ok (.dup, 1) := by decide +kernel
theorem dX11_token_41 : decode cX11_token 41 = .ok (.getfield 142, 3) := by decide +kernel
theorem dX11_token_44 : decode cX11_token 44 = .ok (.iconst 1, 1) := by decide +kernel
theorem dX11_token_45 : decode cX11_token 45 = .ok (.iadd, 1) := by decide +kernel
theorem dX11_token_46 : decode cX11_token 46 = .ok (.putfield 142, 3) := by decide +kernel
theorem dX11_token_49 : decode cX11_token 49 = .ok (.goto (-49), 3) := by decide +kernel
theorem dX11_token_52 : decode cX11_token 52 = .ok (.aload_n 0, 1) := by decide +kernel
theorem dX11_token_53 : decode cX11_token 53 = .ok (.aload_n 0, 1) := by decide +kernel
theorem dX11_token_54 : decode cX11_token 54 = .ok (.getfield 142, 3) := by decide +kernel
theorem dX11_token_57 : decode cX11_token 57 = .ok (.putfield 136, 3) := by decide +kernel
theorem dX11_token_60 : decode cX11_token 60 = .ok (.aload_n 0, 1) := by decide +kernel
theorem dX11_token_61 : decode cX11_token 61 = .ok (.getfield 142, 3) := by decide +kernel
theorem dX11_token_64 : decode cX11_token 64 = .ok (.aload_n 0, 1) := by decide +kernel
theorem dX11_token_65 : decode cX11_token 65 = .ok (.getfield 139, 3) := by decide +kernel
theorem dX11_token_68 : decode cX11_token 68 = .ok (.if_icmp .ne 11, 3) := by decide +kernel
theorem dX11_token_71 : decode cX11_token 71 = .ok (.aload_n 0, 1) := by decide +kernel
theorem dX11_token_72 : decode cX11_token 72 = .ok (.iconst 0, 1) := by decide +kernel
theorem dX11_token_73 : decode cX11_token 73 = .ok (.putfield 145, 3) := by decide +kernel
theorem dX11_token_76 : decode cX11_token 76 = .ok (.goto 206, 3) := by decide +kernel
theorem dX11_token_79 : decode cX11_token 79 = .ok (.aload_n 0, 1) := by decide +kernel
theorem dX11_token_80 : decode cX11_token 80 = .ok (.aload_n 0, 1) := by decide +kernel
theorem dX11_token_81 : decode cX11_token 81 = .ok (.getfield 142, 3) := by decide +kernel
theorem dX11_token_84 : decode cX11_token 84 = .ok (.invokevirtual 148, 3) := by decide +kernel
theorem dX11_token_87 : decode cX11_token 87 = .ok (.ifCond .eq 105, 3) := by decide +kernel
theorem dX11_token_90 : decode cX11_token 90 = .ok (.aload_n 0, 1) := by decide +kernel
theorem dX11_token_91 : decode cX11_token 91 = .ok (.aload_n 0, 1) := by decide +kernel
theorem dX11_token_92 : decode cX11_token 92 = .ok (.getfield 142, 3) := by decide +kernel
theorem dX11_token_95 : decode cX11_token 95 = .ok (.invokevirtual 148, 3) := by decide +kernel
theorem dX11_token_98 : decode cX11_token 98 = .ok (.ifCond .eq 16, 3) := by decide +kernel
theorem dX11_token_101 : decode cX11_token 101 = .ok (.aload_n 0, 1) := by decide +kernel
theorem dX11_token_102 : decode cX11_token 102 = .ok (.dup, 1) := by decide +kernel
theorem dX11_token_103 : decode cX11_token 103 = .ok (.getfield 142, 3) := by decide +kernel
theorem dX11_token_106 : decode cX11_token 106 = .ok (.iconst 1, 1) := by decide +kernel
theorem dX11_token_107 : decode cX11_token 107 = .ok (.iadd, 1) := by decide +kernel
theorem dX11_token_108 : decode cX11_token 108 = .ok (.putfield 142, 3) := by decide +kernel
theorem dX11_token_111 : decode cX11_token 111 = .ok (.goto (-21), 3) := by decide +kernel
theorem dX11_token_114 : decode cX11_token 114 = .ok (.aload_n 0, 1) := by decide +kernel
theorem dX11_token_115 : decode cX11_token 115 = .ok (.aload_n 0, 1) := by decide +kernel
theorem dX11_token_116 : decode cX11_token 116 = .ok (.aload_n 0, 1) := by decide +kernel
theorem dX11_token_117 : decode cX11_token 117 = .ok (.getfield 136, 3) := by decide +kernel
theorem dX11_token_120 : decode cX11_token 120 = .ok (.aload_n 0, 1) := by decide +kernel
theorem dX11_token_121 : decode cX11_token 121 = .ok (.getfield 142, 3) := by decide +kernel
theorem dX11_token_124 : decode cX11_token 124 = .ok (.invokevirtual 152, 3) := by decide +kernel
theorem dX11_token_127 : decode cX11_token 127 = .ok (.putfield 156, 3) := by decide +kernel
theorem dX11_token_130 : decode cX11_token 130 = .ok (.aload_n 0, 1) := by decide +kernel
theorem dX11_token_131 : decode cX11_token 131 = .ok (.aload_n 0, 1) := by decide +kernel
theorem dX11_token_132 : decode cX11_token 132 = .ok (.getfield 156, 3) := by decide +kernel
theorem dX11_token_135 : decode cX11_token 135 = .ok (.ifCond .lt 7, 3) := by decide +kernel
theorem dX11_token_138 : decode cX11_token 138 = .ok (.iconst 1, 1) := by decide +kernel
theorem dX11_token_139 : decode cX11_token 139 = .ok (.goto 23, 3) := by decide +kernel
theorem dX11_token_142 : decode cX11_token 142 = .ok (.aload_n 0, 1) := by decide +kernel
theorem dX11_token_143 : decode cX11_token 143 = .ok (.getfield 142, 3) := by decide +kernel
theorem dX11_token_146 : decode cX11_token 146 = .ok (.aload_n 0, 1) := by decide +kernel
theorem dX11_token_147 : decode cX11_token 147 = .ok (.getfield 136, 3) := by decide +kernel
theorem dX11_token_150 : decode cX11_token 150 = .ok (.isub, 1) := by decide +kernel
theorem dX11_token_151 : decode cX11_token 151 = .ok (.bipush 6, 2) := by decide +kernel
theorem dX11_token_153 : decode cX11_token 153 = .ok (.if_icmp .le 8, 3) := by decide +kernel
theorem dX11_token_156 : decode cX11_token 156 = .ok (.bipush 6, 2) := by decide +kernel
theorem dX11_token_158 : decode cX11_token 158 = .ok (.goto 4, 3) := by decide +kernel
theorem dX11_token_161 : decode cX11_token 161 = .ok (.iconst 2, 1) := by decide +kernel
theorem dX11_token_162 : decode cX11_token 162 = .ok (.putfield 145, 3) := by decide +kernel
theorem dX11_token_165 : decode cX11_token 165 = .ok (.aload_n 0, 1) := by decide +kernel
theorem dX11_token_166 : decode cX11_token 166 = .ok (.getfield 145, 3) := by decide +kernel
theorem dX11_token_169 : decode cX11_token 169 = .ok (.iconst 2, 1) := by decide +kernel
theorem dX11_token_170 : decode cX11_token 170 = .ok (.if_icmp .ne 112, 3) := by decide +kernel
theorem dX11_token_173 : decode cX11_token 173 = .ok (.aload_n 0, 1) := by decide +kernel
theorem dX11_token_174 : decode cX11_token 174 = .ok (.aload_n 0, 1) := by decide +kernel
theorem dX11_token_175 : decode cX11_token 175 = .ok (.aload_n 0, 1) := by decide +kernel
theorem dX11_token_176 : decode cX11_token 176 = .ok (.getfield 136, 3) := by decide +kernel
theorem dX11_token_179 : decode cX11_token 179 = .ok (.aload_n 0, 1) := by decide +kernel
theorem dX11_token_180 : decode cX11_token 180 = .ok (.getfield 142, 3) := by decide +kernel
theorem dX11_token_183 : decode cX11_token 183 = .ok (.invokevirtual 159, 3) := by decide +kernel
theorem dX11_token_186 : decode cX11_token 186 = .ok (.putfield 156, 3) := by decide +kernel
theorem dX11_token_189 : decode cX11_token 189 = .ok (.goto 93, 3) := by decide +kernel
theorem dX11_token_192 : decode cX11_token 192 = .ok (.aload_n 0, 1) := by decide +kernel
theorem dX11_token_193 : decode cX11_token 193 = .ok (.aload_n 0, 1) := by decide +kernel
theorem dX11_token_194 : decode cX11_token 194 = .ok (.getfield 142, 3) := by decide +kernel
theorem dX11_token_197 : decode cX11_token 197 = .ok (.invokevirtual 162, 3) := by decide +kernel
theorem dX11_token_200 : decode cX11_token 200 = .ok (.ifCond .eq 78, 3) := by decide +kernel
theorem dX11_token_203 : decode cX11_token 203 = .ok (.aload_n 0, 1) := by decide +kernel
theorem dX11_token_204 : decode cX11_token 204 = .ok (.iconst 3, 1) := by decide +kernel
theorem dX11_token_205 : decode cX11_token 205 = .ok (.putfield 145, 3) := by decide +kernel
theorem dX11_token_208 : decode cX11_token 208 = .ok (.aload_n 0, 1) := by decide +kernel
theorem dX11_token_209 : decode cX11_token 209 = .ok (.iconst 0, 1) := by decide +kernel
theorem dX11_token_210 : decode cX11_token 210 = .ok (.putfield 156, 3) := by decide +kernel
theorem dX11_token_213 : decode cX11_token 213 = .ok (.aload_n 0, 1) := by decide +kernel
theorem dX11_token_214 : decode cX11_token 214 = .ok (.aload_n 0, 1) := by decide +kernel
theorem dX11_token_215 : decode cX11_token 215 = .ok (.getfield 142, 3) := by decide +kernel
theorem dX11_token_218 : decode cX11_token 218 = .ok (.invokevirtual 162, 3) := by decide +kernel
theorem dX11_token_221 : decode cX11_token 221 = .ok (.ifCond .eq 61, 3) := by decide +kernel
theorem dX11_token_224 : decode cX11_token 224 = .ok (.aload_n 0, 1) := by decide +kernel
theorem dX11_token_225 : decode cX11_token 225 = .ok (.aload_n 0, 1) := by decide +kernel
theorem dX11_token_226 : decode cX11_token 226 = .ok (.getfield 156, 3) := by decide +kernel
theorem dX11_token_229 : decode cX11_token 229 = .ok (.sipush 9999, 3) := by decide +kernel
theorem dX11_token_232 : decode cX11_token 232 = .ok (.if_icmp .le 10, 3) := by decide +kernel
theorem dX11_token_235 : decode cX11_token 235 = .ok (.aload_n 0, 1) := by decide +kernel
theorem dX11_token_236 : decode cX11_token 236 = .ok (.getfield 156, 3) := by decide +kernel
theorem dX11_token_239 : decode cX11_token 239 = .ok (.goto 23, 3) := by decide +kernel
theorem dX11_token_242 : decode cX11_token 242 = .ok (.bipush 10, 2) := by decide +kernel
theorem dX11_token_244 : decode cX11_token 244 = .ok (.aload_n 0, 1) := by decide +kernel
theorem dX11_token_245 : decode cX11_token 245 = .ok (.getfield 156, 3) := by decide +kernel
theorem dX11_token_248 : decode cX11_token 248 = .ok (.imul, 1) := by decide +kernel
theorem dX11_token_249 : decode cX11_token 249 = .ok (.aload_n 0, 1) := by decide +kernel
theorem dX11_token_250 : decode cX11_token 250 = .ok (.getfield 7, 3) := by decide +kernel
theorem dX11_token_253 : decode cX11_token 253 = .ok (.aload_n 0, 1) := by decide +kernel
theorem dX11_token_254 : decode cX11_token 254 = .ok (.getfield 142, 3) := by decide +kernel
theorem dX11_token_257 : decode cX11_token 257 = .ok (.iaload, 1) := by decide +kernel
theorem dX11_token_258 : decode cX11_token 258 = .ok (.iadd, 1) := by decide +kernel
theorem dX11_token_259 : decode cX11_token 259 = .ok (.bipush 48, 2) := by decide +kernel
theorem dX11_token_261 : decode cX11_token 261 = .ok (.isub, 1) := by decide +kernel
theorem dX11_token_262 : decode cX11_token 262 = .ok (.putfield 156, 3) := by decide +kernel
theorem dX11_token_265 : decode cX11_token 265 = .ok (.aload_n 0, 1) := by decide +kernel
theorem dX11_token_266 : decode cX11_token 266 = .ok (.dup, 1) := by decide +kernel
theorem dX11_token_267 : decode cX11_token 267 = .ok (.getfield 142, 3) := by decide +kernel
theorem dX11_token_270 : decode cX11_token 270 = .ok (.iconst 1, 1) := by decide +kernel
theorem dX11_token_271 : decode cX11_token 271 = .ok (.iadd, 1) := by decide +kernel
theorem dX11_token_272 : decode cX11_token 272 = .ok (.putfield 142, 3) := by decide +kernel
theorem dX11_token_275 : decode cX11_token 275 = .ok (.goto (-62), 3) := by decide +kernel
theorem dX11_token_278 : decode cX11_token 278 = .ok (.aload_n 0, 1) := by decide +kernel
theorem dX11_token_279 : decode cX11_token 279 = .ok (.invokevirtual 165, 3) := by decide +kernel
theorem dX11_token_282 : decode cX11_token 282 = .ok (.return_, 1) := by decide +kernel
set_option maxRecDepth 10000 in
theorem vX11_token_0 {κ : eg_K} {d : Nat} {post : eg_H → Prop} (M : eg_H)  (h : ((M.1 (60, 0) 6) ≤ (M.1 (60, 0) 7) → eg_W κ gM mtX11_token d (eQV κ gM post) 52 [(0, vR (60, 0))] [] M) ∧ ((¬ (M.1 (60, 0) 6) ≤ (M.1 (60, 0) 7)) → (vp_in (M.1 (60, 0) 7) 800 ∧ ((M.1 (61, 0) (M.1 (60, 0) 7).toNatClampNeg) = (10 : Int32) → (∀ M4 : eg_H, M4 = (sI M (60, 0) 7 ((M.1 (60, 0) 7) + (1 : Int32))) → eg_W κ gM mtX11_token d (eQV κ gM post) 0 [(0, vR (60, 0))] [] M4)) ∧ ((¬ (M.1 (61, 0) (M.1 (60, 0) 7).toNatClampNeg) = (10 : Int32)) → ((¬ (M.1 (61, 0) (M.1 (60, 0) 7).toNatClampNeg) = (32 : Int32)) → eg_W κ gM mtX11_token d (eQV κ gM post) 52 [(0, vR (60, 0))] [] M) ∧ ((M.1 (61, 0) (M.1 (60, 0) 7).toNatClampNeg) = (32 : Int32) → (∀ M6 : eg_H, M6 = (sI M (60, 0) 7 ((M.1 (60, 0) 7) + (1 : Int32))) → eg_W κ gM mtX11_token d (eQV κ gM post) 0 [(0, vR (60, 0))] [] M6)))))) : eg_W κ gM mtX11_token d (eQV κ gM post) 0 [(0, vR (60, 0))] [] M := by
  refine eg_aload_n 0 dX11_token_0 rfl rfl ?_
  refine eg_getI dX11_token_1 fl_11_142 rfl trivial (obM_60 z1) ?_
  refine eg_aload_n 0 dX11_token_4 rfl rfl ?_
  refine eg_getI dX11_token_5 fl_11_139 rfl trivial (obM_60 z1) ?_
  refine eg_icmp_ge (tgt := 52) dX11_token_8 rfl (fun c1 => ?_) (fun c1 => ?_)
  · have h := h.1 c1
    exact h
  · have h := h.2 c1
    refine eg_aload_n 0 dX11_token_11 rfl rfl ?_
    refine eg_getR dX11_token_12 fl_11_7 rfl rfl (obM_60 z1) ?_
    show eg_W κ gM mtX11_token d (eQV κ gM post) 15 [(0, vR (60, 0))] [vR (61, 0)] M
    refine eg_aload_n 0 dX11_token_15 rfl rfl ?_
    refine eg_getI dX11_token_16 fl_11_142 rfl trivial (obM_60 z1) ?_
    obtain ⟨g2, h⟩ := h
    refine eg_iaload dX11_token_19 (arM_61 z1 g2) ?_
    refine eg_bipush dX11_token_20 bp_10 ?_
    refine eg_icmp_eq (tgt := 39) dX11_token_22 rfl (fun c3 => ?_) (fun c3 => ?_)
    · have h := h.1 c3
      refine eg_aload_n 0 dX11_token_39 rfl rfl ?_
      refine eg_dup dX11_token_40 rfl ?_
      refine eg_getI dX11_token_41 fl_11_142 rfl trivial (obM_60 z1) ?_
      refine eg_iconst dX11_token_44 ic_1 ?_
      refine eg_iadd dX11_token_45 ?_
      refine en_putI dX11_token_46 fl_11_142 rfl rfl (obM_60 z1) (fun M4 eM4 => ?_)
      have h := h M4 eM4
      refine eg_goto (tgt := 0) dX11_token_49 rfl ?_
      exact h
    · have h := h.2 c3
      refine eg_aload_n 0 dX11_token_25 rfl rfl ?_
      refine eg_getR dX11_token_26 fl_11_7 rfl rfl (obM_60 z1) ?_
      show eg_W κ gM mtX11_token d (eQV κ gM post) 29 [(0, vR (60, 0))] [vR (61, 0)] M
      refine eg_aload_n 0 dX11_token_29 rfl rfl ?_
      refine eg_getI dX11_token_30 fl_11_142 rfl trivial (obM_60 z1) ?_
      refine eg_iaload dX11_token_33 (arM_61 z1 g2) ?_
      refine eg_bipush dX11_token_34 bp_32 ?_
      refine eg_icmp_ne (tgt := 52) dX11_token_36 rfl (fun c5 => ?_) (fun c5 => ?_)
      · have h := h.1 c5
        exact h
      · have h := h.2 c5
        refine eg_aload_n 0 dX11_token_39 rfl rfl ?_
        refine eg_dup dX11_token_40 rfl ?_
        refine eg_getI dX11_token_41 fl_11_142 rfl trivial (obM_60 z1) ?_
        refine eg_iconst dX11_token_44 ic_1 ?_
        refine eg_iadd dX11_token_45 ?_
        refine en_putI dX11_token_46 fl_11_142 rfl rfl (obM_60 z1) (fun M6 eM6 => ?_)
        have h := h M6 eM6
        refine eg_goto (tgt := 0) dX11_token_49 rfl ?_
        exact h
set_option maxRecDepth 10000 in
theorem vX11_token_52 {κ : eg_K} {d : Nat} (hd : 1 ≤ d) {post : eg_H → Prop} (M : eg_H)  (h : (∀ M1 : eg_H, M1 = (sI M (60, 0) 10 (M.1 (60, 0) 7)) → ((¬ (M1.1 (60, 0) 7) = (M1.1 (60, 0) 6)) → (gX11_isSmall M1 (M1.1 (60, 0) 7) ∧ (∀ x5 : Int32, x5 = (fX11_isSmall M1 (M1.1 (60, 0) 7)) → (x5 = 0 → (gX11_isDigit M1 (M1.1 (60, 0) 7) ∧ (∀ x9 : Int32, x9 = (fX11_isDigit M1 (M1.1 (60, 0) 7)) → (x9 = 0 → eCV κ gM mtX11_signToken d [vR (60, 0)] M1 (fun M11 => post M11)) ∧ ((¬ x9 = 0) → (∀ M13 : eg_H, M13 = (sI M1 (60, 0) 8 (3 : Int32)) → (∀ M14 : eg_H, M14 = (sI M13 (60, 0) 9 (0 : Int32)) → eg_W κ gM mtX11_token d (eQV κ gM post) 213 [(0, vR (60, 0))] [] M14)))))) ∧ ((¬ x5 = 0) → eg_W κ gM mtX11_token d (eQV κ gM post) 90 [(0, vR (60, 0))] [] M1)))) ∧ ((M1.1 (60, 0) 7) = (M1.1 (60, 0) 6) → (∀ M15 : eg_H, M15 = (sI M1 (60, 0) 8 (0 : Int32)) → post M15)))) : eg_W κ gM mtX11_token d (eQV κ gM post) 52 [(0, vR (60, 0))] [] M := by
  refine eg_aload_n 0 dX11_token_52 rfl rfl ?_
  refine eg_aload_n 0 dX11_token_53 rfl rfl ?_
  refine eg_getI dX11_token_54 fl_11_142 rfl trivial (obM_60 z1) ?_
  refine en_putI dX11_token_57 fl_11_136 rfl rfl (obM_60 z1) (fun M1 eM1 => ?_)
  have h := h M1 eM1
  refine eg_aload_n 0 dX11_token_60 rfl rfl ?_
  refine eg_getI dX11_token_61 fl_11_142 rfl trivial (obM_60 z1) ?_
  refine eg_aload_n 0 dX11_token_64 rfl rfl ?_
  refine eg_getI dX11_token_65 fl_11_139 rfl trivial (obM_60 z1) ?_
  refine eg_icmp_ne (tgt := 79) dX11_token_68 rfl (fun c2 => ?_) (fun c2 => ?_)
  · have h := h.1 c2
    refine eg_aload_n 0 dX11_token_79 rfl rfl ?_
    refine eg_aload_n 0 dX11_token_80 rfl rfl ?_
    refine eg_getI dX11_token_81 fl_11_142 rfl trivial (obM_60 z1) ?_
    obtain ⟨g3, h⟩ := h
    refine eg_callVI (av := [vI (M1.1 (60, 0) 7)]) (st := []) dX11_token_84 ml_11_148 rfl rfl (obM_60 z1) (by decide) rfl (Nat.le_of_ble_eq_true rfl) (eg_dd (by omega)) (sX11_isSmall (by omega) M1 (M1.1 (60, 0) 7)  g3) (fun x5 M4 hp => ?_)
    obtain ⟨ex5, eM4⟩ := hp
    rw [eM4]
    have h := h x5 ex5
    refine eg_if_eq (tgt := 192) dX11_token_87 rfl (fun c6 => ?_) (fun c6 => ?_)
    · have h := h.1 c6
      refine eg_aload_n 0 dX11_token_192 rfl rfl ?_
      refine eg_aload_n 0 dX11_token_193 rfl rfl ?_
      refine eg_getI dX11_token_194 fl_11_142 rfl trivial (obM_60 z1) ?_
      obtain ⟨g7, h⟩ := h
      refine eg_callVI (av := [vI (M1.1 (60, 0) 7)]) (st := []) dX11_token_197 ml_11_162 rfl rfl (obM_60 z1) (by decide) rfl (Nat.le_of_ble_eq_true rfl) (eg_dd (by omega)) (sX11_isDigit (by omega) M1 (M1.1 (60, 0) 7)  g7) (fun x9 M8 hp => ?_)
      obtain ⟨ex9, eM8⟩ := hp
      rw [eM8]
      have h := h x9 ex9
      refine eg_if_eq (tgt := 278) dX11_token_200 rfl (fun c10 => ?_) (fun c10 => ?_)
      · have h := h.1 c10
        refine eg_aload_n 0 dX11_token_278 rfl rfl ?_
        obtain ⟨q12, hq12, h⟩ := h
        refine eg_callVV (av := []) (st := []) dX11_token_279 ml_11_165 rfl rfl (obM_60 z1) (by decide) rfl (Nat.le_of_ble_eq_true rfl) (eg_dd (by omega)) hq12 (fun M11 hp => ?_)
        have h := h M11 hp
        exact eg_vreturn dX11_token_282 rfl h
      · have h := h.2 c10
        refine eg_aload_n 0 dX11_token_203 rfl rfl ?_
        refine eg_iconst dX11_token_204 ic_3 ?_
        refine en_putI dX11_token_205 fl_11_145 rfl rfl (obM_60 z1) (fun M13 eM13 => ?_)
        have h := h M13 eM13
        refine eg_aload_n 0 dX11_token_208 rfl rfl ?_
        refine eg_iconst dX11_token_209 ic_0 ?_
        refine en_putI dX11_token_210 fl_11_156 rfl rfl (obM_60 z1) (fun M14 eM14 => ?_)
        have h := h M14 eM14
        exact h
    · have h := h.2 c6
      exact h
  · have h := h.2 c2
    refine eg_aload_n 0 dX11_token_71 rfl rfl ?_
    refine eg_iconst dX11_token_72 ic_0 ?_
    refine en_putI dX11_token_73 fl_11_145 rfl rfl (obM_60 z1) (fun M15 eM15 => ?_)
    have h := h M15 eM15
    refine eg_goto (tgt := 282) dX11_token_76 rfl ?_
    exact eg_vreturn dX11_token_282 rfl h
set_option maxRecDepth 10000 in
theorem vX11_token_90 {κ : eg_K} {d : Nat} (hd : 1 ≤ d) {post : eg_H → Prop} (M : eg_H)  (h : (gX11_isSmall M (M.1 (60, 0) 7) ∧ (∀ x3 : Int32, x3 = (fX11_isSmall M (M.1 (60, 0) 7)) → (x3 = 0 → eCI κ gM mtX11_wordAt d [vR (60, 0), vI (M.1 (60, 0) 10), vI (M.1 (60, 0) 7)] M (fun x5 M6 => (∀ M8 : eg_H, M8 = (sI M6 (60, 0) 9 x5) → (∀ x9 : Int32, x9 = ((if (M8.1 (60, 0) 9) < 0 then (if ((M8.1 (60, 0) 7) - (M8.1 (60, 0) 10)) ≤ (6 : Int32) then (2 : Int32) else (6 : Int32)) else (1 : Int32))) → (∀ M10 : eg_H, M10 = (sI M8 (60, 0) 8 x9) → ((¬ (M10.1 (60, 0) 8) = (2 : Int32)) → post M10) ∧ ((M10.1 (60, 0) 8) = (2 : Int32) → eCI κ gM mtX11_packed d [vR (60, 0), vI (M10.1 (60, 0) 10), vI (M10.1 (60, 0) 7)] M10 (fun x12 M13 => (∀ M15 : eg_H, M15 = (sI M13 (60, 0) 9 x12) → post M15)))))))) ∧ ((¬ x3 = 0) → (∀ M18 : eg_H, M18 = (sI M (60, 0) 7 ((M.1 (60, 0) 7) + (1 : Int32))) → eg_W κ gM mtX11_token d (eQV κ gM post) 90 [(0, vR (60, 0))] [] M18))))) : eg_W κ gM mtX11_token d (eQV κ gM post) 90 [(0, vR (60, 0))] [] M := by
  refine eg_aload_n 0 dX11_token_90 rfl rfl ?_
  refine eg_aload_n 0 dX11_token_91 rfl rfl ?_
  refine eg_getI dX11_token_92 fl_11_142 rfl trivial (obM_60 z1) ?_
  obtain ⟨g1, h⟩ := h
  refine eg_callVI (av := [vI (M.1 (60, 0) 7)]) (st := []) dX11_token_95 ml_11_148 rfl rfl (obM_60 z1) (by decide) rfl (Nat.le_of_ble_eq_true rfl) (eg_dd (by omega)) (sX11_isSmall (by omega) M (M.1 (60, 0) 7)  g1) (fun x3 M2 hp => ?_)
  obtain ⟨ex3, eM2⟩ := hp
  rw [eM2]
  have h := h x3 ex3
  refine eg_if_eq (tgt := 114) dX11_token_98 rfl (fun c4 => ?_) (fun c4 => ?_)
  · have h := h.1 c4
    refine eg_aload_n 0 dX11_token_114 rfl rfl ?_
    refine eg_aload_n 0 dX11_token_115 rfl rfl ?_
    refine eg_aload_n 0 dX11_token_116 rfl rfl ?_
    refine eg_getI dX11_token_117 fl_11_136 rfl trivial (obM_60 z1) ?_
    refine eg_aload_n 0 dX11_token_120 rfl rfl ?_
    refine eg_getI dX11_token_121 fl_11_142 rfl trivial (obM_60 z1) ?_
    obtain ⟨q7, hq7, h⟩ := h
    refine eg_callVI (av := [vI (M.1 (60, 0) 10), vI (M.1 (60, 0) 7)]) (st := [vR (60, 0)]) dX11_token_124 ml_11_152 rfl rfl (obM_60 z1) (by decide) rfl (Nat.le_of_ble_eq_true rfl) (eg_dd (by omega)) hq7 (fun x5 M6 hp => ?_)
    have h := h x5 M6 hp
    refine en_putI dX11_token_127 fl_11_156 rfl rfl (obM_60 z1) (fun M8 eM8 => ?_)
    have h := h M8 eM8
    refine eg_aload_n 0 dX11_token_130 rfl rfl ?_
    refine eg_aload_n 0 dX11_token_131 rfl rfl ?_
    refine eg_getI dX11_token_132 fl_11_156 rfl trivial (obM_60 z1) ?_
    have J : ∀ x9 : Int32, x9 = (if (M8.1 (60, 0) 9) < 0 then (if ((M8.1 (60, 0) 7) - (M8.1 (60, 0) 10)) ≤ (6 : Int32) then (2 : Int32) else (6 : Int32)) else (1 : Int32)) → eg_W κ gM mtX11_token d (eQV κ gM post) 162 [(0, vR (60, 0))] [vI x9, vR (60, 0)] M8 := by
      intro x9 ex9
      have h := h x9 ex9
      refine en_putI dX11_token_162 fl_11_145 rfl rfl (obM_60 z1) (fun M10 eM10 => ?_)
      have h := h M10 eM10
      refine eg_aload_n 0 dX11_token_165 rfl rfl ?_
      refine eg_getI dX11_token_166 fl_11_145 rfl trivial (obM_60 z1) ?_
      refine eg_iconst dX11_token_169 ic_2 ?_
      refine eg_icmp_ne (tgt := 282) dX11_token_170 rfl (fun c11 => ?_) (fun c11 => ?_)
      · have h := h.1 c11
        exact eg_vreturn dX11_token_282 rfl h
      · have h := h.2 c11
        refine eg_aload_n 0 dX11_token_173 rfl rfl ?_
        refine eg_aload_n 0 dX11_token_174 rfl rfl ?_
        refine eg_aload_n 0 dX11_token_175 rfl rfl ?_
        refine eg_getI dX11_token_176 fl_11_136 rfl trivial (obM_60 z1) ?_
        refine eg_aload_n 0 dX11_token_179 rfl rfl ?_
        refine eg_getI dX11_token_180 fl_11_142 rfl trivial (obM_60 z1) ?_
        obtain ⟨q14, hq14, h⟩ := h
        refine eg_callVI (av := [vI (M10.1 (60, 0) 10), vI (M10.1 (60, 0) 7)]) (st := [vR (60, 0)]) dX11_token_183 ml_11_159 rfl rfl (obM_60 z1) (by decide) rfl (Nat.le_of_ble_eq_true rfl) (eg_dd (by omega)) hq14 (fun x12 M13 hp => ?_)
        have h := h x12 M13 hp
        refine en_putI dX11_token_186 fl_11_156 rfl rfl (obM_60 z1) (fun M15 eM15 => ?_)
        have h := h M15 eM15
        refine eg_goto (tgt := 282) dX11_token_189 rfl ?_
        exact eg_vreturn dX11_token_282 rfl h
    clear h
    refine eg_if_lt (tgt := 142) dX11_token_135 rfl (fun c16 => ?_) (fun c16 => ?_)
    · refine eg_aload_n 0 dX11_token_142 rfl rfl ?_
      refine eg_getI dX11_token_143 fl_11_142 rfl trivial (obM_60 z1) ?_
      refine eg_aload_n 0 dX11_token_146 rfl rfl ?_
      refine eg_getI dX11_token_147 fl_11_136 rfl trivial (obM_60 z1) ?_
      refine eg_isub dX11_token_150 ?_
      refine eg_bipush dX11_token_151 bp_6 ?_
      refine eg_icmp_le (tgt := 161) dX11_token_153 rfl (fun c17 => ?_) (fun c17 => ?_)
      · refine eg_iconst dX11_token_161 ic_2 ?_
        exact J _ (by rw [if_pos c16, if_pos c17])
      · refine eg_bipush dX11_token_156 bp_6 ?_
        refine eg_goto (tgt := 162) dX11_token_158 rfl ?_
        exact J _ (by rw [if_pos c16, if_neg c17])
    · refine eg_iconst dX11_token_138 ic_1 ?_
      refine eg_goto (tgt := 162) dX11_token_139 rfl ?_
      exact J _ (by rw [if_neg c16])
  · have h := h.2 c4
    refine eg_aload_n 0 dX11_token_101 rfl rfl ?_
    refine eg_dup dX11_token_102 rfl ?_
    refine eg_getI dX11_token_103 fl_11_142 rfl trivial (obM_60 z1) ?_
    refine eg_iconst dX11_token_106 ic_1 ?_
    refine eg_iadd dX11_token_107 ?_
    refine en_putI dX11_token_108 fl_11_142 rfl rfl (obM_60 z1) (fun M18 eM18 => ?_)
    have h := h M18 eM18
    refine eg_goto (tgt := 90) dX11_token_111 rfl ?_
    exact h
set_option maxRecDepth 10000 in
theorem vX11_token_213 {κ : eg_K} {d : Nat} (hd : 1 ≤ d) {post : eg_H → Prop} (M : eg_H)  (h : (gX11_isDigit M (M.1 (60, 0) 7) ∧ (∀ x3 : Int32, x3 = (fX11_isDigit M (M.1 (60, 0) 7)) → (x3 = 0 → post M) ∧ ((¬ x3 = 0) → (((M.1 (60, 0) 9) ≤ (9999 : Int32) → vp_in (M.1 (60, 0) 7) 800) ∧ (∀ x6 : Int32, x6 = ((if (M.1 (60, 0) 9) ≤ (9999 : Int32) then ((((10 : Int32) * (M.1 (60, 0) 9)) + (M.1 (61, 0) (M.1 (60, 0) 7).toNatClampNeg)) - (48 : Int32)) else (M.1 (60, 0) 9))) → (∀ M7 : eg_H, M7 = (sI M (60, 0) 9 x6) → (∀ M8 : eg_H, M8 = (sI M7 (60, 0) 7 ((M7.1 (60, 0) 7) + (1 : Int32))) → eg_W κ gM mtX11_token d (eQV κ gM post) 213 [(0, vR (60, 0))] [] M8)))))))) : eg_W κ gM mtX11_token d (eQV κ gM post) 213 [(0, vR (60, 0))] [] M := by
  refine eg_aload_n 0 dX11_token_213 rfl rfl ?_
  refine eg_aload_n 0 dX11_token_214 rfl rfl ?_
  refine eg_getI dX11_token_215 fl_11_142 rfl trivial (obM_60 z1) ?_
  obtain ⟨g1, h⟩ := h
  refine eg_callVI (av := [vI (M.1 (60, 0) 7)]) (st := []) dX11_token_218 ml_11_162 rfl rfl (obM_60 z1) (by decide) rfl (Nat.le_of_ble_eq_true rfl) (eg_dd (by omega)) (sX11_isDigit (by omega) M (M.1 (60, 0) 7)  g1) (fun x3 M2 hp => ?_)
  obtain ⟨ex3, eM2⟩ := hp
  rw [eM2]
  have h := h x3 ex3
  refine eg_if_eq (tgt := 282) dX11_token_221 rfl (fun c4 => ?_) (fun c4 => ?_)
  · have h := h.1 c4
    exact eg_vreturn dX11_token_282 rfl h
  · have h := h.2 c4
    refine eg_aload_n 0 dX11_token_224 rfl rfl ?_
    refine eg_aload_n 0 dX11_token_225 rfl rfl ?_
    refine eg_getI dX11_token_226 fl_11_156 rfl trivial (obM_60 z1) ?_
    refine eg_sipush dX11_token_229 sp_9999 ?_
    obtain ⟨g5, h⟩ := h
    have J : ∀ x6 : Int32, x6 = (if (M.1 (60, 0) 9) ≤ (9999 : Int32) then ((((10 : Int32) * (M.1 (60, 0) 9)) + (M.1 (61, 0) (M.1 (60, 0) 7).toNatClampNeg)) - (48 : Int32)) else (M.1 (60, 0) 9)) → eg_W κ gM mtX11_token d (eQV κ gM post) 262 [(0, vR (60, 0))] [vI x6, vR (60, 0)] M := by
      intro x6 ex6
      have h := h x6 ex6
      refine en_putI dX11_token_262 fl_11_156 rfl rfl (obM_60 z1) (fun M7 eM7 => ?_)
      have h := h M7 eM7
      refine eg_aload_n 0 dX11_token_265 rfl rfl ?_
      refine eg_dup dX11_token_266 rfl ?_
      refine eg_getI dX11_token_267 fl_11_142 rfl trivial (obM_60 z1) ?_
      refine eg_iconst dX11_token_270 ic_1 ?_
      refine eg_iadd dX11_token_271 ?_
      refine en_putI dX11_token_272 fl_11_142 rfl rfl (obM_60 z1) (fun M8 eM8 => ?_)
      have h := h M8 eM8
      refine eg_goto (tgt := 213) dX11_token_275 rfl ?_
      exact h
    clear h
    refine eg_icmp_le (tgt := 242) dX11_token_232 rfl (fun c9 => ?_) (fun c9 => ?_)
    · refine eg_bipush dX11_token_242 bp_10 ?_
      refine eg_aload_n 0 dX11_token_244 rfl rfl ?_
      refine eg_getI dX11_token_245 fl_11_156 rfl trivial (obM_60 z1) ?_
      refine eg_imul dX11_token_248 ?_
      refine eg_aload_n 0 dX11_token_249 rfl rfl ?_
      refine eg_getR dX11_token_250 fl_11_7 rfl rfl (obM_60 z1) ?_
      show eg_W κ gM mtX11_token d (eQV κ gM post) 253 [(0, vR (60, 0))] [vR (61, 0), vI ((10 : Int32) * (M.1 (60, 0) 9)), vR (60, 0)] M
      refine eg_aload_n 0 dX11_token_253 rfl rfl ?_
      refine eg_getI dX11_token_254 fl_11_142 rfl trivial (obM_60 z1) ?_
      refine eg_iaload dX11_token_257 (arM_61 z1 (g5 c9)) ?_
      refine eg_iadd dX11_token_258 ?_
      refine eg_bipush dX11_token_259 bp_48 ?_
      refine eg_isub dX11_token_261 ?_
      exact J _ (by rw [if_pos c9])
    · refine eg_aload_n 0 dX11_token_235 rfl rfl ?_
      refine eg_getI dX11_token_236 fl_11_156 rfl trivial (obM_60 z1) ?_
      refine eg_goto (tgt := 262) dX11_token_239 rfl ?_
      exact J _ (by rw [if_neg c9])
theorem dX11_signToken_0 : decode cX11_signToken 0 = .ok (.aload_n 0, 1) := by decide +kernel
theorem dX11_signToken_1 : decode cX11_signToken 1 = .ok (.aload_n 0, 1) := by decide +kernel
theorem dX11_signToken_2 : decode cX11_signToken 2 = .ok (.getfield 7, 3) := by decide +kernel
theorem dX11_signToken_5 : decode cX11_signToken 5 = .ok (.aload_n 0, 1) := by decide +kernel
theorem dX11_signToken_6 : decode cX11_signToken 6 = .ok (.getfield 142, 3) := by decide +kernel
theorem dX11_signToken_9 : decode cX11_signToken 9 = .ok (.iaload, 1) := by decide +kernel
theorem dX11_signToken_10 : decode cX11_signToken 10 = .ok (.putfield 156, 3) := by decide +kernel
theorem dX11_signToken_13 : decode cX11_signToken 13 = .ok (.aload_n 0, 1) := by decide +kernel
theorem dX11_signToken_14 : decode cX11_signToken 14 = .ok (.dup, 1) := by decide +kernel
theorem dX11_signToken_15 : decode cX11_signToken 15 = .ok (.getfield 142, 3) := by decide +kernel
theorem dX11_signToken_18 : decode cX11_signToken 18 = .ok (.iconst 1, 1) := by decide +kernel
theorem dX11_signToken_19 : decode cX11_signToken 19 = .ok (.iadd, 1) := by decide +kernel
theorem dX11_signToken_20 : decode cX11_signToken 20 = .ok (.putfield 142, 3) := by decide +kernel
theorem dX11_signToken_23 : decode cX11_signToken 23 = .ok (.aload_n 0, 1) := by decide +kernel
theorem dX11_signToken_24 : decode cX11_signToken 24 = .ok (.getfield 156, 3) := by decide +kernel
theorem dX11_signToken_27 : decode cX11_signToken 27 = .ok (.bipush 60, 2) := by decide +kernel
theorem dX11_signToken_29 : decode cX11_signToken 29 = .ok (.if_icmp .eq 21, 3) := by decide +kernel
theorem dX11_signToken_32 : decode cX11_signToken 32 = .ok (.aload_n 0, 1) := by decide +kernel
theorem dX11_signToken_33 : decode cX11_signToken 33 = .ok (.getfield 156, 3) := by decide +kernel
theorem dX11_signToken_36 : decode cX11_signToken 36 = .ok (.bipush 62, 2) := by decide +kernel
theorem dX11_signToken_38 : decode cX11_signToken 38 = .ok (.if_icmp .eq 12, 3) := by decide +kernel
theorem dX11_signToken_41 : decode cX11_signToken 41 = .ok (.aload_n 0, 1) := by decide +kernel
theorem dX11_signToken_42 : decode cX11_signToken 42 = .ok (.getfield 156, 3) := by decide +kernel
theorem dX11_signToken_45 : decode cX11_signToken 45 = .ok (.bipush 61, 2) := by decide +kernel
theorem dX11_signToken_47 : decode cX11_signToken 47 = .ok (.if_icmp .ne 151, 3) := by decide +kernel
theorem dX11_signToken_50 : decode cX11_signToken 50 = .ok (.aload_n 0, 1) := by decide +kernel
theorem dX11_signToken_51 : decode cX11_signToken 51 = .ok (.getfield 142, 3) := by decide +kernel
theorem dX11_signToken_54 : decode cX11_signToken 54 = .ok (.aload_n 0, 1) := by decide +kernel
theorem dX11_signToken_55 : decode cX11_signToken 55 = .ok (.getfield 139, 3) := by decide +kernel
theorem dX11_signToken_58 : decode cX11_signToken 58 = .ok (.if_icmp .ge 15, 3) := by decide +kernel
theorem dX11_signToken_61 : decode cX11_signToken 61 = .ok (.aload_n 0, 1) := by decide +kernel
theorem dX11_signToken_62 : decode cX11_signToken 62 = .ok (.getfield 7, 3) := by decide +kernel
theorem dX11_signToken_65 : decode cX11_signToken 65 = .ok (.aload_n 0, 1) := by decide +kernel
theorem dX11_signToken_66 : decode cX11_signToken 66 = .ok (.getfield 142, 3) := by decide +kernel
theorem dX11_signToken_69 : decode cX11_signToken 69 = .ok (.iaload, 1) := by decide +kernel
theorem dX11_signToken_70 : decode cX11_signToken 70 = .ok (.goto 4, 3) := by decide +kernel
theorem dX11_signToken_73 : decode cX11_signToken 73 = .ok (.iconst 0, 1) := by decide +kernel
theorem dX11_signToken_74 : decode cX11_signToken 74 = .ok (.istore_n 1, 1) := by decide +kernel
theorem dX11_signToken_75 : decode cX11_signToken 75 = .ok (.aload_n 0, 1) := by decide +kernel
theorem dX11_signToken_76 : decode cX11_signToken 76 = .ok (.getfield 156, 3) := by decide +kernel
theorem dX11_signToken_79 : decode cX11_signToken 79 = .ok (.bipush 61, 2) := by decide +kernel
theorem dX11_signToken_81 : decode cX11_signToken 81 = .ok (.if_icmp .eq 13, 3) := by decide +kernel
theorem dX11_signToken_84 : decode cX11_signToken 84 = .ok (.iload_n 1, 1) := by decide +kernel
theorem dX11_signToken_85 : decode cX11_signToken 85 = .ok (.bipush 61, 2) := by decide +kernel
theorem dX11_signToken_87 : decode cX11_signToken 87 = .ok (.if_icmp .ne 7, 3) := by decide +kernel
theorem dX11_signToken_90 : decode cX11_signToken 90 = .ok (.iconst 1, 1) := by decide +kernel
theorem dX11_signToken_91 : decode cX11_signToken 91 = .ok (.goto 4, 3) := by decide +kernel
theorem dX11_signToken_94 : decode cX11_signToken 94 = .ok (.iconst 0, 1) := by decide +kernel
theorem dX11_signToken_95 : decode cX11_signToken 95 = .ok (.istore_n 2, 1) := by decide +kernel
theorem dX11_signToken_96 : decode cX11_signToken 96 = .ok (.aload_n 0, 1) := by decide +kernel
theorem dX11_signToken_97 : decode cX11_signToken 97 = .ok (.getfield 156, 3) := by decide +kernel
theorem dX11_signToken_100 : decode cX11_signToken 100 = .ok (.bipush 60, 2) := by decide +kernel
theorem dX11_signToken_102 : decode cX11_signToken 102 = .ok (.if_icmp .ne 13, 3) := by decide +kernel
theorem dX11_signToken_105 : decode cX11_signToken 105 = .ok (.iload_n 1, 1) := by decide +kernel
theorem dX11_signToken_106 : decode cX11_signToken 106 = .ok (.bipush 62, 2) := by decide +kernel
theorem dX11_signToken_108 : decode cX11_signToken 108 = .ok (.if_icmp .ne 7, 3) := by decide +kernel
theorem dX11_signToken_111 : decode cX11_signToken 111 = .ok (.iconst 1, 1) := by decide +kernel
theorem dX11_signToken_112 : decode cX11_signToken 112 = .ok (.goto 4, 3) := by decide +kernel
theorem dX11_signToken_115 : decode cX11_signToken 115 = .ok (.iconst 0, 1) := by decide +kernel
theorem dX11_signToken_116 : decode cX11_signToken 116 = .ok (.istore_n 3, 1) := by decide +kernel
theorem dX11_signToken_117 : decode cX11_signToken 117 = .ok (.iload_n 2, 1) := by decide +kernel
theorem dX11_signToken_118 : decode cX11_signToken 118 = .ok (.ifCond .ne 7, 3) := by decide +kernel
theorem dX11_signToken_121 : decode cX11_signToken 121 = .ok (.iload_n 3, 1) := by decide +kernel
theorem dX11_signToken_122 : decode cX11_signToken 122 = .ok (.ifCond .eq 13, 3) := by decide +kernel
theorem dX11_signToken_125 : decode cX11_signToken 125 = .ok (.aload_n 0, 1) := by decide +kernel
theorem dX11_signToken_126 : decode cX11_signToken 126 = .ok (.dup, 1) := by decide +kernel
theorem dX11_signToken_127 : decode cX11_signToken 127 = .ok (.getfield 142, 3) := by decide +kernel
theorem dX11_signToken_130 : decode cX11_signToken 130 = .ok (.iconst 1, 1) := by decide +kernel
theorem dX11_signToken_131 : decode cX11_signToken 131 = .ok (.iadd, 1) := by decide +kernel
theorem dX11_signToken_132 : decode cX11_signToken 132 = .ok (.putfield 142, 3) := by decide +kernel
theorem dX11_signToken_135 : decode cX11_signToken 135 = .ok (.aload_n 0, 1) := by decide +kernel
theorem dX11_signToken_136 : decode cX11_signToken 136 = .ok (.iconst 5, 1) := by decide +kernel
theorem dX11_signToken_137 : decode cX11_signToken 137 = .ok (.putfield 145, 3) := by decide +kernel
theorem dX11_signToken_140 : decode cX11_signToken 140 = .ok (.aload_n 0, 1) := by decide +kernel
theorem dX11_signToken_141 : decode cX11_signToken 141 = .ok (.aload_n 0, 1) := by decide +kernel
theorem dX11_signToken_142 : decode cX11_signToken 142 = .ok (.getfield 156, 3) := by decide +kernel
theorem dX11_signToken_145 : decode cX11_signToken 145 = .ok (.bipush 61, 2) := by decide +kernel
theorem dX11_signToken_147 : decode cX11_signToken 147 = .ok (.if_icmp .ne 7, 3) := by decide +kernel
theorem dX11_signToken_150 : decode cX11_signToken 150 = .ok (.iconst 2, 1) := by decide +kernel
theorem dX11_signToken_151 : decode cX11_signToken 151 = .ok (.goto 41, 3) := by decide +kernel
theorem dX11_signToken_154 : decode cX11_signToken 154 = .ok (.aload_n 0, 1) := by decide +kernel
theorem dX11_signToken_155 : decode cX11_signToken 155 = .ok (.getfield 156, 3) := by decide +kernel
theorem dX11_signToken_158 : decode cX11_signToken 158 = .ok (.bipush 60, 2) := by decide +kernel
theorem dX11_signToken_160 : decode cX11_signToken 160 = .ok (.if_icmp .ne 23, 3) := by decide +kernel
theorem dX11_signToken_163 : decode cX11_signToken 163 = .ok (.iload_n 2, 1) := by decide +kernel
theorem dX11_signToken_164 : decode cX11_signToken 164 = .ok (.ifCond .eq 7, 3) := by decide +kernel
theorem dX11_signToken_167 : decode cX11_signToken 167 = .ok (.iconst 1, 1) := by decide +kernel
theorem dX11_signToken_168 : decode cX11_signToken 168 = .ok (.goto 24, 3) := by decide +kernel
theorem dX11_signToken_171 : decode cX11_signToken 171 = .ok (.iload_n 3, 1) := by decide +kernel
theorem dX11_signToken_172 : decode cX11_signToken 172 = .ok (.ifCond .eq 7, 3) := by decide +kernel
theorem dX11_signToken_175 : decode cX11_signToken 175 = .ok (.iconst 3, 1) := by decide +kernel
theorem dX11_signToken_176 : decode cX11_signToken 176 = .ok (.goto 16, 3) := by decide +kernel
theorem dX11_signToken_179 : decode cX11_signToken 179 = .ok (.iconst 0, 1) := by decide +kernel
theorem dX11_signToken_180 : decode cX11_signToken 180 = .ok (.goto 12, 3) := by decide +kernel
theorem dX11_signToken_183 : decode cX11_signToken 183 = .ok (.iload_n 2, 1) := by decide +kernel
theorem dX11_signToken_184 : decode cX11_signToken 184 = .ok (.ifCond .eq 7, 3) := by decide +kernel
theorem dX11_signToken_187 : decode cX11_signToken 187 = .ok (.iconst 4, 1) := by decide +kernel
theorem dX11_signToken_188 : decode cX11_signToken 188 = .ok (.goto 4, 3) := by decide +kernel
theorem dX11_signToken_191 : decode cX11_signToken 191 = .ok (.iconst 5, 1) := by decide +kernel
theorem dX11_signToken_192 : decode cX11_signToken 192 = .ok (.putfield 156, 3) := by decide +kernel
theorem dX11_signToken_195 : decode cX11_signToken 195 = .ok (.goto 86, 3) := by decide +kernel
theorem dX11_signToken_198 : decode cX11_signToken 198 = .ok (.aload_n 0, 1) := by decide +kernel
theorem dX11_signToken_199 : decode cX11_signToken 199 = .ok (.getfield 156, 3) := by decide +kernel
theorem dX11_signToken_202 : decode cX11_signToken 202 = .ok (.bipush 59, 2) := by decide +kernel
theorem dX11_signToken_204 : decode cX11_signToken 204 = .ok (.if_icmp .eq 57, 3) := by decide +kernel
theorem dX11_signToken_207 : decode cX11_signToken 207 = .ok (.aload_n 0, 1) := by decide +kernel
theorem dX11_signToken_208 : decode cX11_signToken 208 = .ok (.getfield 156, 3) := by decide +kernel
theorem dX11_signToken_211 : decode cX11_signToken 211 = .ok (.bipush 40, 2) := by decide +kernel
theorem dX11_signToken_213 : decode cX11_signToken 213 = .ok (.if_icmp .eq 48, 3) := by decide +kernel
theorem dX11_signToken_216 : decode cX11_signToken 216 = .ok (.aload_n 0, 1) := by decide +kernel
theorem dX11_signToken_217 : decode cX11_signToken 217 = .ok (.getfield 156, 3) := by decide +kernel
theorem dX11_signToken_220 : decode cX11_signToken 220 = .ok (.bipush 41, 2) := by decide +kernel
theorem dX11_signToken_222 : decode cX11_signToken 222 = .ok (.if_icmp .eq 39, 3) := by decide +kernel
theorem dX11_signToken_225 : decode cX11_signToken 225 = .ok (.aload_n 0, 1) := by decide +kernel
theorem dX11_signToken_226 : decode cX11_signToken 226 = .ok (.getfield 156, 3) := by decide +kernel
theorem dX11_signToken_229 : decode cX11_signToken 229 = .ok (.bipush 43, 2) := by decide +kernel
theorem dX11_signToken_231 : decode cX11_signToken 231 = .ok (.if_icmp .eq 30, 3) := by decide +kernel
theorem dX11_signToken_234 : decode cX11_signToken 234 = .ok (.aload_n 0, 1) := by decide +kernel
theorem dX11_signToken_235 : decode cX11_signToken 235 = .ok (.getfield 156, 3) := by decide +kernel
theorem dX11_signToken_238 : decode cX11_signToken 238 = .ok (.bipush 45, 2) := by decide +kernel
theorem dX11_signToken_240 : decode cX11_signToken 240 = .ok (.if_icmp .eq 21, 3) := by decide +kernel
theorem dX11_signToken_243 : decode cX11_signToken 243 = .ok (.aload_n 0, 1) := by decide +kernel
theorem dX11_signToken_244 : decode cX11_signToken 244 = .ok (.getfield 156, 3) := by decide +kernel
theorem dX11_signToken_247 : decode cX11_signToken 247 = .ok (.bipush 42, 2) := by decide +kernel
theorem dX11_signToken_249 : decode cX11_signToken 249 = .ok (.if_icmp .eq 12, 3) := by decide +kernel
theorem dX11_signToken_252 : decode cX11_signToken 252 = .ok (.aload_n 0, 1) := by decide +kernel
theorem dX11_signToken_253 : decode cX11_signToken 253 = .ok (.getfield 156, 3) := by decide +kernel
theorem dX11_signToken_256 : decode cX11_signToken 256 = .ok (.bipush 47, 2) := by decide +kernel
theorem dX11_signToken_258 : decode cX11_signToken 258 = .ok (.if_icmp .ne 7, 3) := by decide +kernel
theorem dX11_signToken_261 : decode cX11_signToken 261 = .ok (.iconst 1, 1) := by decide +kernel
theorem dX11_signToken_262 : decode cX11_signToken 262 = .ok (.goto 4, 3) := by decide +kernel
theorem dX11_signToken_265 : decode cX11_signToken 265 = .ok (.iconst 0, 1) := by decide +kernel
theorem dX11_signToken_266 : decode cX11_signToken 266 = .ok (.istore_n 1, 1) := by decide +kernel
theorem dX11_signToken_267 : decode cX11_signToken 267 = .ok (.aload_n 0, 1) := by decide +kernel
theorem dX11_signToken_268 : decode cX11_signToken 268 = .ok (.iload_n 1, 1) := by decide +kernel
theorem dX11_signToken_269 : decode cX11_signToken 269 = .ok (.ifCond .eq 7, 3) := by decide +kernel
theorem dX11_signToken_272 : decode cX11_signToken 272 = .ok (.iconst 4, 1) := by decide +kernel
theorem dX11_signToken_273 : decode cX11_signToken 273 = .ok (.goto 5, 3) := by decide +kernel
theorem dX11_signToken_276 : decode cX11_signToken 276 = .ok (.bipush 6, 2) := by decide +kernel
theorem dX11_signToken_278 : decode cX11_signToken 278 = .ok (.putfield 145, 3) := by decide +kernel
theorem dX11_signToken_281 : decode cX11_signToken 281 = .ok (.return_, 1) := by decide +kernel
set_option maxRecDepth 10000 in
theorem vX11_signToken_0 {κ : eg_K} {d : Nat} {post : eg_H → Prop} (M : eg_H)  (h : (vp_in (M.1 (60, 0) 7) 800 ∧ (∀ M2 : eg_H, M2 = (sI M (60, 0) 9 (M.1 (61, 0) (M.1 (60, 0) 7).toNatClampNeg)) → (∀ M3 : eg_H, M3 = (sI M2 (60, 0) 7 ((M2.1 (60, 0) 7) + (1 : Int32))) → ((M3.1 (60, 0) 9) = (60 : Int32) → eg_W κ gM mtX11_signToken d (eQV κ gM post) 50 [(0, vR (60, 0))] [] M3) ∧ ((¬ (M3.1 (60, 0) 9) = (60 : Int32)) → ((M3.1 (60, 0) 9) = (62 : Int32) → eg_W κ gM mtX11_signToken d (eQV κ gM post) 50 [(0, vR (60, 0))] [] M3) ∧ ((¬ (M3.1 (60, 0) 9) = (62 : Int32)) → ((¬ (M3.1 (60, 0) 9) = (61 : Int32)) → (∀ x7 : Int32, x7 = ((if (M3.1 (60, 0) 9) = (59 : Int32) then (1 : Int32) else (if (M3.1 (60, 0) 9) = (40 : Int32) then (1 : Int32) else (if (M3.1 (60, 0) 9) = (41 : Int32) then (1 : Int32) else (if (M3.1 (60, 0) 9) = (43 : Int32) then (1 : Int32) else (if (M3.1 (60, 0) 9) = (45 : Int32) then (1 : Int32) else (if (M3.1 (60, 0) 9) = (42 : Int32) then (1 : Int32) else (if (¬ (M3.1 (60, 0) 9) = (47 : Int32)) then (0 : Int32) else (1 : Int32))))))))) → (∀ x8 : Int32, x8 = ((if x7 = 0 then (6 : Int32) else (4 : Int32))) → (∀ M9 : eg_H, M9 = (sI M3 (60, 0) 8 x8) → post M9)))) ∧ ((M3.1 (60, 0) 9) = (61 : Int32) → eg_W κ gM mtX11_signToken d (eQV κ gM post) 50 [(0, vR (60, 0))] [] M3))))))) : eg_W κ gM mtX11_signToken d (eQV κ gM post) 0 [(0, vR (60, 0))] [] M := by
  refine eg_aload_n 0 dX11_signToken_0 rfl rfl ?_
  refine eg_aload_n 0 dX11_signToken_1 rfl rfl ?_
  refine eg_getR dX11_signToken_2 fl_11_7 rfl rfl (obM_60 z1) ?_
  show eg_W κ gM mtX11_signToken d (eQV κ gM post) 5 [(0, vR (60, 0))] [vR (61, 0), vR (60, 0)] M
  refine eg_aload_n 0 dX11_signToken_5 rfl rfl ?_
  refine eg_getI dX11_signToken_6 fl_11_142 rfl trivial (obM_60 z1) ?_
  obtain ⟨g1, h⟩ := h
  refine eg_iaload dX11_signToken_9 (arM_61 z1 g1) ?_
  refine en_putI dX11_signToken_10 fl_11_156 rfl rfl (obM_60 z1) (fun M2 eM2 => ?_)
  have h := h M2 eM2
  refine eg_aload_n 0 dX11_signToken_13 rfl rfl ?_
  refine eg_dup dX11_signToken_14 rfl ?_
  refine eg_getI dX11_signToken_15 fl_11_142 rfl trivial (obM_60 z1) ?_
  refine eg_iconst dX11_signToken_18 ic_1 ?_
  refine eg_iadd dX11_signToken_19 ?_
  refine en_putI dX11_signToken_20 fl_11_142 rfl rfl (obM_60 z1) (fun M3 eM3 => ?_)
  have h := h M3 eM3
  refine eg_aload_n 0 dX11_signToken_23 rfl rfl ?_
  refine eg_getI dX11_signToken_24 fl_11_156 rfl trivial (obM_60 z1) ?_
  refine eg_bipush dX11_signToken_27 bp_60 ?_
  refine eg_icmp_eq (tgt := 50) dX11_signToken_29 rfl (fun c4 => ?_) (fun c4 => ?_)
  · have h := h.1 c4
    exact h
  · have h := h.2 c4
    refine eg_aload_n 0 dX11_signToken_32 rfl rfl ?_
    refine eg_getI dX11_signToken_33 fl_11_156 rfl trivial (obM_60 z1) ?_
    refine eg_bipush dX11_signToken_36 bp_62 ?_
    refine eg_icmp_eq (tgt := 50) dX11_signToken_38 rfl (fun c5 => ?_) (fun c5 => ?_)
    · have h := h.1 c5
      exact h
    · have h := h.2 c5
      refine eg_aload_n 0 dX11_signToken_41 rfl rfl ?_
      refine eg_getI dX11_signToken_42 fl_11_156 rfl trivial (obM_60 z1) ?_
      refine eg_bipush dX11_signToken_45 bp_61 ?_
      refine eg_icmp_ne (tgt := 198) dX11_signToken_47 rfl (fun c6 => ?_) (fun c6 => ?_)
      · have h := h.1 c6
        refine eg_aload_n 0 dX11_signToken_198 rfl rfl ?_
        refine eg_getI dX11_signToken_199 fl_11_156 rfl trivial (obM_60 z1) ?_
        refine eg_bipush dX11_signToken_202 bp_59 ?_
        have J : ∀ x7 : Int32, x7 = (if (M3.1 (60, 0) 9) = (59 : Int32) then (1 : Int32) else (if (M3.1 (60, 0) 9) = (40 : Int32) then (1 : Int32) else (if (M3.1 (60, 0) 9) = (41 : Int32) then (1 : Int32) else (if (M3.1 (60, 0) 9) = (43 : Int32) then (1 : Int32) else (if (M3.1 (60, 0) 9) = (45 : Int32) then (1 : Int32) else (if (M3.1 (60, 0) 9) = (42 : Int32) then (1 : Int32) else (if (¬ (M3.1 (60, 0) 9) = (47 : Int32)) then (0 : Int32) else (1 : Int32)))))))) → eg_W κ gM mtX11_signToken d (eQV κ gM post) 266 [(0, vR (60, 0))] [vI x7] M3 := by
          intro x7 ex7
          have h := h x7 ex7
          refine eg_istore_n dX11_signToken_266 rfl (by decide) (ls1 := [(1, vI x7), (0, vR (60, 0))]) rfl ?_
          refine eg_aload_n 1 dX11_signToken_267 rfl rfl ?_
          refine eg_iload_n 0 dX11_signToken_268 rfl rfl ?_
          have J : ∀ x8 : Int32, x8 = (if x7 = 0 then (6 : Int32) else (4 : Int32)) → eg_W κ gM mtX11_signToken d (eQV κ gM post) 278 [(1, vI x7), (0, vR (60, 0))] [vI x8, vR (60, 0)] M3 := by
            intro x8 ex8
            have h := h x8 ex8
            refine en_putI dX11_signToken_278 fl_11_145 rfl rfl (obM_60 z1) (fun M9 eM9 => ?_)
            have h := h M9 eM9
            exact eg_vreturn dX11_signToken_281 rfl h
          clear h
          refine eg_if_eq (tgt := 276) dX11_signToken_269 rfl (fun c10 => ?_) (fun c10 => ?_)
          · refine eg_bipush dX11_signToken_276 bp_6 ?_
            exact J _ (by rw [if_pos c10])
          · refine eg_iconst dX11_signToken_272 ic_4 ?_
            refine eg_goto (tgt := 278) dX11_signToken_273 rfl ?_
            exact J _ (by rw [if_neg c10])
        clear h
        refine eg_icmp_eq (tgt := 261) dX11_signToken_204 rfl (fun c11 => ?_) (fun c11 => ?_)
        · refine eg_iconst dX11_signToken_261 ic_1 ?_
          refine eg_goto (tgt := 266) dX11_signToken_262 rfl ?_
          exact J _ (by rw [if_pos c11])
        · refine eg_aload_n 0 dX11_signToken_207 rfl rfl ?_
          refine eg_getI dX11_signToken_208 fl_11_156 rfl trivial (obM_60 z1) ?_
          refine eg_bipush dX11_signToken_211 bp_40 ?_
          refine eg_icmp_eq (tgt := 261) dX11_signToken_213 rfl (fun c12 => ?_) (fun c12 => ?_)
          · refine eg_iconst dX11_signToken_261 ic_1 ?_
            refine eg_goto (tgt := 266) dX11_signToken_262 rfl ?_
            exact J _ (by rw [if_neg c11, if_pos c12])
          · refine eg_aload_n 0 dX11_signToken_216 rfl rfl ?_
            refine eg_getI dX11_signToken_217 fl_11_156 rfl trivial (obM_60 z1) ?_
            refine eg_bipush dX11_signToken_220 bp_41 ?_
            refine eg_icmp_eq (tgt := 261) dX11_signToken_222 rfl (fun c13 => ?_) (fun c13 => ?_)
            · refine eg_iconst dX11_signToken_261 ic_1 ?_
              refine eg_goto (tgt := 266) dX11_signToken_262 rfl ?_
              exact J _ (by rw [if_neg c11, if_neg c12, if_pos c13])
            · refine eg_aload_n 0 dX11_signToken_225 rfl rfl ?_
              refine eg_getI dX11_signToken_226 fl_11_156 rfl trivial (obM_60 z1) ?_
              refine eg_bipush dX11_signToken_229 bp_43 ?_
              refine eg_icmp_eq (tgt := 261) dX11_signToken_231 rfl (fun c14 => ?_) (fun c14 => ?_)
              · refine eg_iconst dX11_signToken_261 ic_1 ?_
                refine eg_goto (tgt := 266) dX11_signToken_262 rfl ?_
                exact J _ (by rw [if_neg c11, if_neg c12, if_neg c13, if_pos c14])
              · refine eg_aload_n 0 dX11_signToken_234 rfl rfl ?_
                refine eg_getI dX11_signToken_235 fl_11_156 rfl trivial (obM_60 z1) ?_
                refine eg_bipush dX11_signToken_238 bp_45 ?_
                refine eg_icmp_eq (tgt := 261) dX11_signToken_240 rfl (fun c15 => ?_) (fun c15 => ?_)
                · refine eg_iconst dX11_signToken_261 ic_1 ?_
                  refine eg_goto (tgt := 266) dX11_signToken_262 rfl ?_
                  exact J _ (by rw [if_neg c11, if_neg c12, if_neg c13, if_neg c14, if_pos c15])
                · refine eg_aload_n 0 dX11_signToken_243 rfl rfl ?_
                  refine eg_getI dX11_signToken_244 fl_11_156 rfl trivial (obM_60 z1) ?_
                  refine eg_bipush dX11_signToken_247 bp_42 ?_
                  refine eg_icmp_eq (tgt := 261) dX11_signToken_249 rfl (fun c16 => ?_) (fun c16 => ?_)
                  · refine eg_iconst dX11_signToken_261 ic_1 ?_
                    refine eg_goto (tgt := 266) dX11_signToken_262 rfl ?_
                    exact J _ (by rw [if_neg c11, if_neg c12, if_neg c13, if_neg c14, if_neg c15, if_pos c16])
                  · refine eg_aload_n 0 dX11_signToken_252 rfl rfl ?_
                    refine eg_getI dX11_signToken_253 fl_11_156 rfl trivial (obM_60 z1) ?_
                    refine eg_bipush dX11_signToken_256 bp_47 ?_
                    refine eg_icmp_ne (tgt := 265) dX11_signToken_258 rfl (fun c17 => ?_) (fun c17 => ?_)
                    · refine eg_iconst dX11_signToken_265 ic_0 ?_
                      exact J _ (by rw [if_neg c11, if_neg c12, if_neg c13, if_neg c14, if_neg c15, if_neg c16, if_pos c17])
                    · have c18 : ¬ (¬ (M3.1 (60, 0) 9) = (47 : Int32)) := fun z => z c17
                      refine eg_iconst dX11_signToken_261 ic_1 ?_
                      refine eg_goto (tgt := 266) dX11_signToken_262 rfl ?_
                      exact J _ (by rw [if_neg c11, if_neg c12, if_neg c13, if_neg c14, if_neg c15, if_neg c16, if_neg c18])
      · have h := h.2 c6
        exact h
set_option maxRecDepth 10000 in
theorem vX11_signToken_50 {κ : eg_K} {d : Nat} {post : eg_H → Prop} (M : eg_H)  (h : (((¬ (M.1 (60, 0) 6) ≤ (M.1 (60, 0) 7)) → vp_in (M.1 (60, 0) 7) 800) ∧ (∀ x2 : Int32, x2 = ((if (M.1 (60, 0) 6) ≤ (M.1 (60, 0) 7) then (0 : Int32) else (M.1 (61, 0) (M.1 (60, 0) 7).toNatClampNeg))) → (∀ x3 : Int32, x3 = ((if (M.1 (60, 0) 9) = (61 : Int32) then (0 : Int32) else (if (¬ x2 = (61 : Int32)) then (0 : Int32) else (1 : Int32)))) → (∀ x4 : Int32, x4 = ((if (¬ (M.1 (60, 0) 9) = (60 : Int32)) then (0 : Int32) else (if (¬ x2 = (62 : Int32)) then (0 : Int32) else (1 : Int32)))) → ((¬ x3 = 0) → eg_W κ gM mtX11_signToken d (eQV κ gM post) 125 [(0, vR (60, 0)), (2, vI x3), (3, vI x4)] [] M) ∧ (x3 = 0 → (x4 = 0 → (∀ M7 : eg_H, M7 = (sI M (60, 0) 8 (5 : Int32)) → (∀ x8 : Int32, x8 = ((if (¬ (M7.1 (60, 0) 9) = (61 : Int32)) then (if (¬ (M7.1 (60, 0) 9) = (60 : Int32)) then (if x3 = 0 then (5 : Int32) else (4 : Int32)) else (if x3 = 0 then (if x4 = 0 then (0 : Int32) else (3 : Int32)) else (1 : Int32))) else (2 : Int32))) → (∀ M9 : eg_H, M9 = (sI M7 (60, 0) 9 x8) → post M9)))) ∧ ((¬ x4 = 0) → eg_W κ gM mtX11_signToken d (eQV κ gM post) 125 [(0, vR (60, 0)), (2, vI x3), (3, vI x4)] [] M))))))) : eg_W κ gM mtX11_signToken d (eQV κ gM post) 50 [(0, vR (60, 0))] [] M := by
  refine eg_aload_n 0 dX11_signToken_50 rfl rfl ?_
  refine eg_getI dX11_signToken_51 fl_11_142 rfl trivial (obM_60 z1) ?_
  refine eg_aload_n 0 dX11_signToken_54 rfl rfl ?_
  refine eg_getI dX11_signToken_55 fl_11_139 rfl trivial (obM_60 z1) ?_
  obtain ⟨g1, h⟩ := h
  have J : ∀ x2 : Int32, x2 = (if (M.1 (60, 0) 6) ≤ (M.1 (60, 0) 7) then (0 : Int32) else (M.1 (61, 0) (M.1 (60, 0) 7).toNatClampNeg)) → eg_W κ gM mtX11_signToken d (eQV κ gM post) 74 [(0, vR (60, 0))] [vI x2] M := by
    intro x2 ex2
    have h := h x2 ex2
    refine eg_istore_n dX11_signToken_74 rfl (by decide) (ls1 := [(1, vI x2), (0, vR (60, 0))]) rfl ?_
    refine eg_aload_n 1 dX11_signToken_75 rfl rfl ?_
    refine eg_getI dX11_signToken_76 fl_11_156 rfl trivial (obM_60 z1) ?_
    refine eg_bipush dX11_signToken_79 bp_61 ?_
    have J : ∀ x3 : Int32, x3 = (if (M.1 (60, 0) 9) = (61 : Int32) then (0 : Int32) else (if (¬ x2 = (61 : Int32)) then (0 : Int32) else (1 : Int32))) → eg_W κ gM mtX11_signToken d (eQV κ gM post) 95 [(1, vI x2), (0, vR (60, 0))] [vI x3] M := by
      intro x3 ex3
      have h := h x3 ex3
      refine eg_istore_n dX11_signToken_95 rfl (by decide) (ls1 := [(2, vI x3), (1, vI x2), (0, vR (60, 0))]) rfl ?_
      refine eg_aload_n 2 dX11_signToken_96 rfl rfl ?_
      refine eg_getI dX11_signToken_97 fl_11_156 rfl trivial (obM_60 z1) ?_
      refine eg_bipush dX11_signToken_100 bp_60 ?_
      have J : ∀ x4 : Int32, x4 = (if (¬ (M.1 (60, 0) 9) = (60 : Int32)) then (0 : Int32) else (if (¬ x2 = (62 : Int32)) then (0 : Int32) else (1 : Int32))) → eg_W κ gM mtX11_signToken d (eQV κ gM post) 116 [(2, vI x3), (1, vI x2), (0, vR (60, 0))] [vI x4] M := by
        intro x4 ex4
        have h := h x4 ex4
        refine eg_istore_n dX11_signToken_116 rfl (by decide) (ls1 := [(3, vI x4), (2, vI x3), (1, vI x2), (0, vR (60, 0))]) rfl ?_
        refine eg_iload_n 1 dX11_signToken_117 rfl rfl ?_
        refine eg_if_ne (tgt := 125) dX11_signToken_118 rfl (fun c5 => ?_) (fun c5 => ?_)
        · have h := h.1 c5
          refine eg_sub [3, 1, 0] rfl ?_
          exact h
        · have h := h.2 c5
          refine eg_iload_n 0 dX11_signToken_121 rfl rfl ?_
          refine eg_if_eq (tgt := 135) dX11_signToken_122 rfl (fun c6 => ?_) (fun c6 => ?_)
          · have h := h.1 c6
            refine eg_aload_n 3 dX11_signToken_135 rfl rfl ?_
            refine eg_iconst dX11_signToken_136 ic_5 ?_
            refine en_putI dX11_signToken_137 fl_11_145 rfl rfl (obM_60 z1) (fun M7 eM7 => ?_)
            have h := h M7 eM7
            refine eg_aload_n 3 dX11_signToken_140 rfl rfl ?_
            refine eg_aload_n 3 dX11_signToken_141 rfl rfl ?_
            refine eg_getI dX11_signToken_142 fl_11_156 rfl trivial (obM_60 z1) ?_
            refine eg_bipush dX11_signToken_145 bp_61 ?_
            have J : ∀ x8 : Int32, x8 = (if (¬ (M7.1 (60, 0) 9) = (61 : Int32)) then (if (¬ (M7.1 (60, 0) 9) = (60 : Int32)) then (if x3 = 0 then (5 : Int32) else (4 : Int32)) else (if x3 = 0 then (if x4 = 0 then (0 : Int32) else (3 : Int32)) else (1 : Int32))) else (2 : Int32)) → eg_W κ gM mtX11_signToken d (eQV κ gM post) 192 [(3, vI x4), (2, vI x3), (1, vI x2), (0, vR (60, 0))] [vI x8, vR (60, 0)] M7 := by
              intro x8 ex8
              have h := h x8 ex8
              refine en_putI dX11_signToken_192 fl_11_156 rfl rfl (obM_60 z1) (fun M9 eM9 => ?_)
              have h := h M9 eM9
              refine eg_goto (tgt := 281) dX11_signToken_195 rfl ?_
              exact eg_vreturn dX11_signToken_281 rfl h
            clear h
            refine eg_icmp_ne (tgt := 154) dX11_signToken_147 rfl (fun c10 => ?_) (fun c10 => ?_)
            · refine eg_aload_n 3 dX11_signToken_154 rfl rfl ?_
              refine eg_getI dX11_signToken_155 fl_11_156 rfl trivial (obM_60 z1) ?_
              refine eg_bipush dX11_signToken_158 bp_60 ?_
              refine eg_icmp_ne (tgt := 183) dX11_signToken_160 rfl (fun c11 => ?_) (fun c11 => ?_)
              · refine eg_iload_n 1 dX11_signToken_183 rfl rfl ?_
                refine eg_if_eq (tgt := 191) dX11_signToken_184 rfl (fun c12 => ?_) (fun c12 => ?_)
                · refine eg_iconst dX11_signToken_191 ic_5 ?_
                  exact J _ (by rw [if_pos c10, if_pos c11, if_pos c12])
                · refine eg_iconst dX11_signToken_187 ic_4 ?_
                  refine eg_goto (tgt := 192) dX11_signToken_188 rfl ?_
                  exact J _ (by rw [if_pos c10, if_pos c11, if_neg c12])
              · have c13 : ¬ (¬ (M7.1 (60, 0) 9) = (60 : Int32)) := fun z => z c11
                refine eg_iload_n 1 dX11_signToken_163 rfl rfl ?_
                refine eg_if_eq (tgt := 171) dX11_signToken_164 rfl (fun c14 => ?_) (fun c14 => ?_)
                · refine eg_iload_n 0 dX11_signToken_171 rfl rfl ?_
                  refine eg_if_eq (tgt := 179) dX11_signToken_172 rfl (fun c15 => ?_) (fun c15 => ?_)
                  · refine eg_iconst dX11_signToken_179 ic_0 ?_
                    refine eg_goto (tgt := 192) dX11_signToken_180 rfl ?_
                    exact J _ (by rw [if_pos c10, if_neg c13, if_pos c14, if_pos c15])
                  · refine eg_iconst dX11_signToken_175 ic_3 ?_
                    refine eg_goto (tgt := 192) dX11_signToken_176 rfl ?_
                    exact J _ (by rw [if_pos c10, if_neg c13, if_pos c14, if_neg c15])
                · refine eg_iconst dX11_signToken_167 ic_1 ?_
                  refine eg_goto (tgt := 192) dX11_signToken_168 rfl ?_
                  exact J _ (by rw [if_pos c10, if_neg c13, if_neg c14])
            · have c16 : ¬ (¬ (M7.1 (60, 0) 9) = (61 : Int32)) := fun z => z c10
              refine eg_iconst dX11_signToken_150 ic_2 ?_
              refine eg_goto (tgt := 192) dX11_signToken_151 rfl ?_
              exact J _ (by rw [if_neg c16])
          · have h := h.2 c6
            refine eg_sub [3, 1, 0] rfl ?_
            exact h
      clear h
      refine eg_icmp_ne (tgt := 115) dX11_signToken_102 rfl (fun c17 => ?_) (fun c17 => ?_)
      · refine eg_iconst dX11_signToken_115 ic_0 ?_
        exact J _ (by rw [if_pos c17])
      · have c18 : ¬ (¬ (M.1 (60, 0) 9) = (60 : Int32)) := fun z => z c17
        refine eg_iload_n 1 dX11_signToken_105 rfl rfl ?_
        refine eg_bipush dX11_signToken_106 bp_62 ?_
        refine eg_icmp_ne (tgt := 115) dX11_signToken_108 rfl (fun c19 => ?_) (fun c19 => ?_)
        · refine eg_iconst dX11_signToken_115 ic_0 ?_
          exact J _ (by rw [if_neg c18, if_pos c19])
        · have c20 : ¬ (¬ x2 = (62 : Int32)) := fun z => z c19
          refine eg_iconst dX11_signToken_111 ic_1 ?_
          refine eg_goto (tgt := 116) dX11_signToken_112 rfl ?_
          exact J _ (by rw [if_neg c18, if_neg c20])
    clear h
    refine eg_icmp_eq (tgt := 94) dX11_signToken_81 rfl (fun c21 => ?_) (fun c21 => ?_)
    · refine eg_iconst dX11_signToken_94 ic_0 ?_
      exact J _ (by rw [if_pos c21])
    · refine eg_iload_n 0 dX11_signToken_84 rfl rfl ?_
      refine eg_bipush dX11_signToken_85 bp_61 ?_
      refine eg_icmp_ne (tgt := 94) dX11_signToken_87 rfl (fun c22 => ?_) (fun c22 => ?_)
      · refine eg_iconst dX11_signToken_94 ic_0 ?_
        exact J _ (by rw [if_neg c21, if_pos c22])
      · have c23 : ¬ (¬ x2 = (61 : Int32)) := fun z => z c22
        refine eg_iconst dX11_signToken_90 ic_1 ?_
        refine eg_goto (tgt := 95) dX11_signToken_91 rfl ?_
        exact J _ (by rw [if_neg c21, if_neg c23])
  clear h
  refine eg_icmp_ge (tgt := 73) dX11_signToken_58 rfl (fun c24 => ?_) (fun c24 => ?_)
  · refine eg_iconst dX11_signToken_73 ic_0 ?_
    exact J _ (by rw [if_pos c24])
  · refine eg_aload_n 0 dX11_signToken_61 rfl rfl ?_
    refine eg_getR dX11_signToken_62 fl_11_7 rfl rfl (obM_60 z1) ?_
    show eg_W κ gM mtX11_signToken d (eQV κ gM post) 65 [(0, vR (60, 0))] [vR (61, 0)] M
    refine eg_aload_n 0 dX11_signToken_65 rfl rfl ?_
    refine eg_getI dX11_signToken_66 fl_11_142 rfl trivial (obM_60 z1) ?_
    refine eg_iaload dX11_signToken_69 (arM_61 z1 (g1 (show (¬ (M.1 (60, 0) 6) ≤ (M.1 (60, 0) 7)) from by first | exact c24 | exact Classical.not_not.mp c24))) ?_
    refine eg_goto (tgt := 74) dX11_signToken_70 rfl ?_
    exact J _ (by rw [if_neg c24])
set_option maxRecDepth 10000 in
theorem vX11_signToken_125 {κ : eg_K} {d : Nat} {post : eg_H → Prop} (M : eg_H) (l2 : Int32) (l3 : Int32) (h : (∀ M1 : eg_H, M1 = (sI M (60, 0) 7 ((M.1 (60, 0) 7) + (1 : Int32))) → (∀ M2 : eg_H, M2 = (sI M1 (60, 0) 8 (5 : Int32)) → (∀ x3 : Int32, x3 = ((if (¬ (M2.1 (60, 0) 9) = (61 : Int32)) then (if (¬ (M2.1 (60, 0) 9) = (60 : Int32)) then (if l2 = 0 then (5 : Int32) else (4 : Int32)) else (if l2 = 0 then (if l3 = 0 then (0 : Int32) else (3 : Int32)) else (1 : Int32))) else (2 : Int32))) → (∀ M4 : eg_H, M4 = (sI M2 (60, 0) 9 x3) → post M4))))) : eg_W κ gM mtX11_signToken d (eQV κ gM post) 125 [(0, vR (60, 0)), (2, vI l2), (3, vI l3)] [] M := by
  refine eg_aload_n 0 dX11_signToken_125 rfl rfl ?_
  refine eg_dup dX11_signToken_126 rfl ?_
  refine eg_getI dX11_signToken_127 fl_11_142 rfl trivial (obM_60 z1) ?_
  refine eg_iconst dX11_signToken_130 ic_1 ?_
  refine eg_iadd dX11_signToken_131 ?_
  refine en_putI dX11_signToken_132 fl_11_142 rfl rfl (obM_60 z1) (fun M1 eM1 => ?_)
  have h := h M1 eM1
  refine eg_aload_n 0 dX11_signToken_135 rfl rfl ?_
  refine eg_iconst dX11_signToken_136 ic_5 ?_
  refine en_putI dX11_signToken_137 fl_11_145 rfl rfl (obM_60 z1) (fun M2 eM2 => ?_)
  have h := h M2 eM2
  refine eg_aload_n 0 dX11_signToken_140 rfl rfl ?_
  refine eg_aload_n 0 dX11_signToken_141 rfl rfl ?_
  refine eg_getI dX11_signToken_142 fl_11_156 rfl trivial (obM_60 z1) ?_
  refine eg_bipush dX11_signToken_145 bp_61 ?_
  have J : ∀ x3 : Int32, x3 = (if (¬ (M2.1 (60, 0) 9) = (61 : Int32)) then (if (¬ (M2.1 (60, 0) 9) = (60 : Int32)) then (if l2 = 0 then (5 : Int32) else (4 : Int32)) else (if l2 = 0 then (if l3 = 0 then (0 : Int32) else (3 : Int32)) else (1 : Int32))) else (2 : Int32)) → eg_W κ gM mtX11_signToken d (eQV κ gM post) 192 [(0, vR (60, 0)), (2, vI l2), (3, vI l3)] [vI x3, vR (60, 0)] M2 := by
    intro x3 ex3
    have h := h x3 ex3
    refine en_putI dX11_signToken_192 fl_11_156 rfl rfl (obM_60 z1) (fun M4 eM4 => ?_)
    have h := h M4 eM4
    refine eg_goto (tgt := 281) dX11_signToken_195 rfl ?_
    exact eg_vreturn dX11_signToken_281 rfl h
  clear h
  refine eg_icmp_ne (tgt := 154) dX11_signToken_147 rfl (fun c5 => ?_) (fun c5 => ?_)
  · refine eg_aload_n 0 dX11_signToken_154 rfl rfl ?_
    refine eg_getI dX11_signToken_155 fl_11_156 rfl trivial (obM_60 z1) ?_
    refine eg_bipush dX11_signToken_158 bp_60 ?_
    refine eg_icmp_ne (tgt := 183) dX11_signToken_160 rfl (fun c6 => ?_) (fun c6 => ?_)
    · refine eg_iload_n 1 dX11_signToken_183 rfl rfl ?_
      refine eg_if_eq (tgt := 191) dX11_signToken_184 rfl (fun c7 => ?_) (fun c7 => ?_)
      · refine eg_iconst dX11_signToken_191 ic_5 ?_
        exact J _ (by rw [if_pos c5, if_pos c6, if_pos c7])
      · refine eg_iconst dX11_signToken_187 ic_4 ?_
        refine eg_goto (tgt := 192) dX11_signToken_188 rfl ?_
        exact J _ (by rw [if_pos c5, if_pos c6, if_neg c7])
    · have c8 : ¬ (¬ (M2.1 (60, 0) 9) = (60 : Int32)) := fun z => z c6
      refine eg_iload_n 1 dX11_signToken_163 rfl rfl ?_
      refine eg_if_eq (tgt := 171) dX11_signToken_164 rfl (fun c9 => ?_) (fun c9 => ?_)
      · refine eg_iload_n 2 dX11_signToken_171 rfl rfl ?_
        refine eg_if_eq (tgt := 179) dX11_signToken_172 rfl (fun c10 => ?_) (fun c10 => ?_)
        · refine eg_iconst dX11_signToken_179 ic_0 ?_
          refine eg_goto (tgt := 192) dX11_signToken_180 rfl ?_
          exact J _ (by rw [if_pos c5, if_neg c8, if_pos c9, if_pos c10])
        · refine eg_iconst dX11_signToken_175 ic_3 ?_
          refine eg_goto (tgt := 192) dX11_signToken_176 rfl ?_
          exact J _ (by rw [if_pos c5, if_neg c8, if_pos c9, if_neg c10])
      · refine eg_iconst dX11_signToken_167 ic_1 ?_
        refine eg_goto (tgt := 192) dX11_signToken_168 rfl ?_
        exact J _ (by rw [if_pos c5, if_neg c8, if_neg c9])
  · have c11 : ¬ (¬ (M2.1 (60, 0) 9) = (61 : Int32)) := fun z => z c5
    refine eg_iconst dX11_signToken_150 ic_2 ?_
    refine eg_goto (tgt := 192) dX11_signToken_151 rfl ?_
    exact J _ (by rw [if_neg c11])
theorem dX11_number_0 : decode cX11_number 0 = .ok (.aload_n 0, 1) := by decide +kernel
theorem dX11_number_1 : decode cX11_number 1 = .ok (.getfield 145, 3) := by decide +kernel
theorem dX11_number_4 : decode cX11_number 4 = .ok (.iconst 3, 1) := by decide +kernel
theorem dX11_number_5 : decode cX11_number 5 = .ok (.if_icmp .eq 9, 3) := by decide +kernel
theorem dX11_number_8 : decode cX11_number 8 = .ok (.aload_n 0, 1) := by decide +kernel
theorem dX11_number_9 : decode cX11_number 9 = .ok (.iconst 1, 1) := by decide +kernel
theorem dX11_number_10 : decode cX11_number 10 = .ok (.invokevirtual 168, 3) := by decide +kernel
theorem dX11_number_13 : decode cX11_number 13 = .ok (.ireturn, 1) := by decide +kernel
theorem dX11_number_14 : decode cX11_number 14 = .ok (.aload_n 0, 1) := by decide +kernel
theorem dX11_number_15 : decode cX11_number 15 = .ok (.getfield 156, 3) := by decide +kernel
theorem dX11_number_18 : decode cX11_number 18 = .ok (.iload_n 1, 1) := by decide +kernel
theorem dX11_number_19 : decode cX11_number 19 = .ok (.iload_n 2, 1) := by decide +kernel
theorem dX11_number_20 : decode cX11_number 20 = .ok (.invokestatic 171, 3) := by decide +kernel
theorem dX11_number_23 : decode cX11_number 23 = .ok (.ifCond .ne 9, 3) := by decide +kernel
theorem dX11_number_26 : decode cX11_number 26 = .ok (.aload_n 0, 1) := by decide +kernel
theorem dX11_number_27 : decode cX11_number 27 = .ok (.iconst 2, 1) := by decide +kernel
theorem dX11_number_28 : decode cX11_number 28 = .ok (.invokevirtual 168, 3) := by decide +kernel
theorem dX11_number_31 : decode cX11_number 31 = .ok (.ireturn, 1) := by decide +kernel
theorem dX11_number_32 : decode cX11_number 32 = .ok (.aload_n 0, 1) := by decide +kernel
theorem dX11_number_33 : decode cX11_number 33 = .ok (.aload_n 0, 1) := by decide +kernel
theorem dX11_number_34 : decode cX11_number 34 = .ok (.getfield 156, 3) := by decide +kernel
theorem dX11_number_37 : decode cX11_number 37 = .ok (.putfield 175, 3) := by decide +kernel
theorem dX11_number_40 : decode cX11_number 40 = .ok (.aload_n 0, 1) := by decide +kernel
theorem dX11_number_41 : decode cX11_number 41 = .ok (.invokevirtual 178, 3) := by decide +kernel
theorem dX11_number_44 : decode cX11_number 44 = .ok (.iconst 1, 1) := by decide +kernel
theorem dX11_number_45 : decode cX11_number 45 = .ok (.ireturn, 1) := by decide +kernel
set_option maxRecDepth 10000 in
theorem vX11_number_0 {κ : eg_K} {d : Nat} (hd : 1 ≤ d) {post : Int32 → eg_H → Prop} (M : eg_H) (l1 : Int32) (l2 : Int32) (h : ((M.1 (60, 0) 8) = (3 : Int32) → (∀ x3 : Int32, x3 = (fX11_isIn M (M.1 (60, 0) 9) l1 l2) → ((¬ x3 = 0) → (∀ M5 : eg_H, M5 = (sI M (60, 0) 11 (M.1 (60, 0) 9)) → eCV κ gM mtX11_token d [vR (60, 0)] M5 (fun M6 => post (1 : Int32) M6))) ∧ (x3 = 0 → (∀ (x9 : Int32) (M8 : eg_H), (x9, M8) = fX11_wrong M (2 : Int32) → post x9 M8)))) ∧ ((¬ (M.1 (60, 0) 8) = (3 : Int32)) → (∀ (x11 : Int32) (M10 : eg_H), (x11, M10) = fX11_wrong M (1 : Int32) → post x11 M10))) : eg_W κ gM mtX11_number d (eQI κ gM post) 0 [(0, vR (60, 0)), (1, vI l1), (2, vI l2)] [] M := by
  refine eg_aload_n 0 dX11_number_0 rfl rfl ?_
  refine eg_getI dX11_number_1 fl_11_145 rfl trivial (obM_60 z1) ?_
  refine eg_iconst dX11_number_4 ic_3 ?_
  refine eg_icmp_eq (tgt := 14) dX11_number_5 rfl (fun c1 => ?_) (fun c1 => ?_)
  · have h := h.1 c1
    refine eg_aload_n 0 dX11_number_14 rfl rfl ?_
    refine eg_getI dX11_number_15 fl_11_156 rfl trivial (obM_60 z1) ?_
    refine eg_iload_n 1 dX11_number_18 rfl rfl ?_
    refine eg_iload_n 2 dX11_number_19 rfl rfl ?_
    refine eg_callSI (av := [vI (M.1 (60, 0) 9), vI l1, vI l2]) (st := []) dX11_number_20 ml_11_171 rfl rfl (Nat.le_of_ble_eq_true rfl) (eg_dd (by omega)) (sX11_isIn (by omega) M (M.1 (60, 0) 9) l1 l2  ) (fun x3 M2 hp => ?_)
    obtain ⟨ex3, eM2⟩ := hp
    rw [eM2]
    have h := h x3 ex3
    refine eg_if_ne (tgt := 32) dX11_number_23 rfl (fun c4 => ?_) (fun c4 => ?_)
    · have h := h.1 c4
      refine eg_aload_n 0 dX11_number_32 rfl rfl ?_
      refine eg_aload_n 0 dX11_number_33 rfl rfl ?_
      refine eg_getI dX11_number_34 fl_11_156 rfl trivial (obM_60 z1) ?_
      refine en_putI dX11_number_37 fl_11_175 rfl rfl (obM_60 z1) (fun M5 eM5 => ?_)
      have h := h M5 eM5
      refine eg_aload_n 0 dX11_number_40 rfl rfl ?_
      obtain ⟨q7, hq7, h⟩ := h
      refine eg_callVV (av := []) (st := []) dX11_number_41 ml_11_178 rfl rfl (obM_60 z1) (by decide) rfl (Nat.le_of_ble_eq_true rfl) (eg_dd (by omega)) hq7 (fun M6 hp => ?_)
      have h := h M6 hp
      refine eg_iconst dX11_number_44 ic_1 ?_
      exact eg_zreturn dX11_number_45 rfl (Or.inr rfl) h
    · have h := h.2 c4
      refine eg_aload_n 0 dX11_number_26 rfl rfl ?_
      refine eg_iconst dX11_number_27 ic_2 ?_
      refine eg_callVI (av := [vI (2 : Int32)]) (st := []) dX11_number_28 ml_11_168 rfl rfl (obM_60 z1) (by decide) rfl (Nat.le_of_ble_eq_true rfl) (eg_dd (by omega)) (sX11_wrong (by omega) M (2 : Int32)  ) (fun x9 M8 eM8 => ?_)
      have h := h x9 M8 eM8
      exact eg_zreturn dX11_number_31 rfl (show x9 = 0 ∨ x9 = 1 from by rw [show x9 = _ from congrArg Prod.fst eM8]; exact zX11_wrong M (2 : Int32)) h
  · have h := h.2 c1
    refine eg_aload_n 0 dX11_number_8 rfl rfl ?_
    refine eg_iconst dX11_number_9 ic_1 ?_
    refine eg_callVI (av := [vI (1 : Int32)]) (st := []) dX11_number_10 ml_11_168 rfl rfl (obM_60 z1) (by decide) rfl (Nat.le_of_ble_eq_true rfl) (eg_dd (by omega)) (sX11_wrong (by omega) M (1 : Int32)  ) (fun x11 M10 eM10 => ?_)
    have h := h x11 M10 eM10
    exact eg_zreturn dX11_number_13 rfl (show x11 = 0 ∨ x11 = 1 from by rw [show x11 = _ from congrArg Prod.fst eM10]; exact zX11_wrong M (1 : Int32)) h
theorem dX11_newName_0 : decode cX11_newName 0 = .ok (.aload_n 0, 1) := by decide +kernel
theorem dX11_newName_1 : decode cX11_newName 1 = .ok (.getfield 145, 3) := by decide +kernel
theorem dX11_newName_4 : decode cX11_newName 4 = .ok (.iconst 2, 1) := by decide +kernel
theorem dX11_newName_5 : decode cX11_newName 5 = .ok (.if_icmp .eq 9, 3) := by decide +kernel
theorem dX11_newName_8 : decode cX11_newName 8 = .ok (.aload_n 0, 1) := by decide +kernel
theorem dX11_newName_9 : decode cX11_newName 9 = .ok (.iconst 1, 1) := by decide +kernel
theorem dX11_newName_10 : decode cX11_newName 10 = .ok (.invokevirtual 168, 3) := by decide +kernel
theorem dX11_newName_13 : decode cX11_newName 13 = .ok (.ireturn, 1) := by decide +kernel
theorem dX11_newName_14 : decode cX11_newName 14 = .ok (.aload_n 1, 1) := by decide +kernel
theorem dX11_newName_15 : decode cX11_newName 15 = .ok (.iload_n 2, 1) := by decide +kernel
theorem dX11_newName_16 : decode cX11_newName 16 = .ok (.iload_n 3, 1) := by decide +kernel
theorem dX11_newName_17 : decode cX11_newName 17 = .ok (.aload_n 0, 1) := by decide +kernel
theorem dX11_newName_18 : decode cX11_newName 18 = .ok (.getfield 156, 3) := by decide +kernel
theorem dX11_newName_21 : decode cX11_newName 21 = .ok (.invokestatic 253, 3) := by decide +kernel
theorem dX11_newName_24 : decode cX11_newName 24 = .ok (.ifCond .lt 9, 3) := by decide +kernel
theorem dX11_newName_27 : decode cX11_newName 27 = .ok (.aload_n 0, 1) := by decide +kernel
theorem dX11_newName_28 : decode cX11_newName 28 = .ok (.iconst 3, 1) := by decide +kernel
theorem dX11_newName_29 : decode cX11_newName 29 = .ok (.invokevirtual 168, 3) := by decide +kernel
theorem dX11_newName_32 : decode cX11_newName 32 = .ok (.ireturn, 1) := by decide +kernel
theorem dX11_newName_33 : decode cX11_newName 33 = .ok (.aload_n 1, 1) := by decide +kernel
theorem dX11_newName_34 : decode cX11_newName 34 = .ok (.iload_n 2, 1) := by decide +kernel
theorem dX11_newName_35 : decode cX11_newName 35 = .ok (.iload_n 3, 1) := by decide +kernel
theorem dX11_newName_36 : decode cX11_newName 36 = .ok (.iadd, 1) := by decide +kernel
theorem dX11_newName_37 : decode cX11_newName 37 = .ok (.aload_n 0, 1) := by decide +kernel
theorem dX11_newName_38 : decode cX11_newName 38 = .ok (.getfield 156, 3) := by decide +kernel
theorem dX11_newName_41 : decode cX11_newName 41 = .ok (.iastore, 1) := by decide +kernel
theorem dX11_newName_42 : decode cX11_newName 42 = .ok (.aload_n 0, 1) := by decide +kernel
theorem dX11_newName_43 : decode cX11_newName 43 = .ok (.invokevirtual 178, 3) := by decide +kernel
theorem dX11_newName_46 : decode cX11_newName 46 = .ok (.iconst 1, 1) := by decide +kernel
theorem dX11_newName_47 : decode cX11_newName 47 = .ok (.ireturn, 1) := by decide +kernel
set_option maxRecDepth 10000 in
theorem vX11_newName_0 {κ : eg_K} {d : Nat} (hd : 1 ≤ d) {post : Int32 → eg_H → Prop} (M : eg_H) {l1 : eg_R} {nl1 : Nat} (hl1 : l1 ∈ gM.1 ∧ gM.2.1 l1 = (1, nl1)) (l2 : Int32) (l3 : Int32) (h : ((M.1 (60, 0) 8) = (2 : Int32) → (gX11_find M l1 l2 l3 (M.1 (60, 0) 9) ∧ (∀ x4 : Int32, x4 = (fX11_find M l1 l2 l3 (M.1 (60, 0) 9)) → (x4 < 0 → (vp_in (l2 + l3) nl1 ∧ (∀ M7 : eg_H, M7 = (sI M l1 (l2 + l3).toNatClampNeg (M.1 (60, 0) 9)) → eCV κ gM mtX11_token d [vR (60, 0)] M7 (fun M8 => post (1 : Int32) M8)))) ∧ ((¬ x4 < 0) → (∀ (x11 : Int32) (M10 : eg_H), (x11, M10) = fX11_wrong M (3 : Int32) → post x11 M10))))) ∧ ((¬ (M.1 (60, 0) 8) = (2 : Int32)) → (∀ (x13 : Int32) (M12 : eg_H), (x13, M12) = fX11_wrong M (1 : Int32) → post x13 M12))) : eg_W κ gM mtX11_newName d (eQI κ gM post) 0 [(0, vR (60, 0)), (1, vR l1), (2, vI l2), (3, vI l3)] [] M := by
  refine eg_aload_n 0 dX11_newName_0 rfl rfl ?_
  refine eg_getI dX11_newName_1 fl_11_145 rfl trivial (obM_60 z1) ?_
  refine eg_iconst dX11_newName_4 ic_2 ?_
  refine eg_icmp_eq (tgt := 14) dX11_newName_5 rfl (fun c1 => ?_) (fun c1 => ?_)
  · have h := h.1 c1
    refine eg_aload_n 1 dX11_newName_14 rfl rfl ?_
    refine eg_iload_n 2 dX11_newName_15 rfl rfl ?_
    refine eg_iload_n 3 dX11_newName_16 rfl rfl ?_
    refine eg_aload_n 0 dX11_newName_17 rfl rfl ?_
    refine eg_getI dX11_newName_18 fl_11_156 rfl trivial (obM_60 z1) ?_
    obtain ⟨g2, h⟩ := h
    refine eg_callSI (av := [vR l1, vI l2, vI l3, vI (M.1 (60, 0) 9)]) (st := []) dX11_newName_21 ml_11_253 rfl rfl (Nat.le_of_ble_eq_true rfl) (eg_dd (by omega)) (sX11_find (by omega) M l1 l2 l3 (M.1 (60, 0) 9) hl1 g2) (fun x4 M3 hp => ?_)
    obtain ⟨ex4, eM3⟩ := hp
    rw [eM3]
    have h := h x4 ex4
    refine eg_if_lt (tgt := 33) dX11_newName_24 rfl (fun c5 => ?_) (fun c5 => ?_)
    · have h := h.1 c5
      refine eg_aload_n 1 dX11_newName_33 rfl rfl ?_
      refine eg_iload_n 2 dX11_newName_34 rfl rfl ?_
      refine eg_iload_n 3 dX11_newName_35 rfl rfl ?_
      refine eg_iadd dX11_newName_36 ?_
      refine eg_aload_n 0 dX11_newName_37 rfl rfl ?_
      refine eg_getI dX11_newName_38 fl_11_156 rfl trivial (obM_60 z1) ?_
      obtain ⟨g6, h⟩ := h
      refine en_iastore dX11_newName_41 (eg_arA hl1 g6) (fun M7 eM7 => ?_)
      have h := h M7 eM7
      refine eg_aload_n 0 dX11_newName_42 rfl rfl ?_
      obtain ⟨q9, hq9, h⟩ := h
      refine eg_callVV (av := []) (st := []) dX11_newName_43 ml_11_178 rfl rfl (obM_60 z1) (by decide) rfl (Nat.le_of_ble_eq_true rfl) (eg_dd (by omega)) hq9 (fun M8 hp => ?_)
      have h := h M8 hp
      refine eg_iconst dX11_newName_46 ic_1 ?_
      exact eg_zreturn dX11_newName_47 rfl (Or.inr rfl) h
    · have h := h.2 c5
      refine eg_aload_n 0 dX11_newName_27 rfl rfl ?_
      refine eg_iconst dX11_newName_28 ic_3 ?_
      refine eg_callVI (av := [vI (3 : Int32)]) (st := []) dX11_newName_29 ml_11_168 rfl rfl (obM_60 z1) (by decide) rfl (Nat.le_of_ble_eq_true rfl) (eg_dd (by omega)) (sX11_wrong (by omega) M (3 : Int32)  ) (fun x11 M10 eM10 => ?_)
      have h := h x11 M10 eM10
      exact eg_zreturn dX11_newName_32 rfl (show x11 = 0 ∨ x11 = 1 from by rw [show x11 = _ from congrArg Prod.fst eM10]; exact zX11_wrong M (3 : Int32)) h
  · have h := h.2 c1
    refine eg_aload_n 0 dX11_newName_8 rfl rfl ?_
    refine eg_iconst dX11_newName_9 ic_1 ?_
    refine eg_callVI (av := [vI (1 : Int32)]) (st := []) dX11_newName_10 ml_11_168 rfl rfl (obM_60 z1) (by decide) rfl (Nat.le_of_ble_eq_true rfl) (eg_dd (by omega)) (sX11_wrong (by omega) M (1 : Int32)  ) (fun x13 M12 eM12 => ?_)
    have h := h x13 M12 eM12
    exact eg_zreturn dX11_newName_13 rfl (show x13 = 0 ∨ x13 = 1 from by rw [show x13 = _ from congrArg Prod.fst eM12]; exact zX11_wrong M (1 : Int32)) h
theorem dX11_stationLine_0 : decode cX11_stationLine 0 = .ok (.aload_n 0, 1) := by decide +kernel
theorem dX11_stationLine_1 : decode cX11_stationLine 1 = .ok (.getfield 181, 3) := by decide +kernel
theorem dX11_stationLine_4 : decode cX11_stationLine 4 = .ok (.iconst 5, 1) := by decide +kernel
theorem dX11_stationLine_5 : decode cX11_stationLine 5 = .ok (.if_icmp .ne 9, 3) := by decide +kernel
theorem dX11_stationLine_8 : decode cX11_stationLine 8 = .ok (.aload_n 0, 1) := by decide +kernel
theorem dX11_stationLine_9 : decode cX11_stationLine 9 = .ok (.iconst 2, 1) := by decide +kernel
theorem dX11_stationLine_10 : decode cX11_stationLine 10 = .ok (.invokevirtual 168, 3) := by decide +kernel
theorem dX11_stationLine_13 : decode cX11_stationLine 13 = .ok (.ireturn, 1) := by decide +kernel
theorem dX11_stationLine_14 : decode cX11_stationLine 14 = .ok (.aload_n 0, 1) := by decide +kernel
theorem dX11_stationLine_15 : decode cX11_stationLine 15 = .ok (.invokevirtual 178, 3) := by decide +kernel
theorem dX11_stationLine_18 : decode cX11_stationLine 18 = .ok (.aload_n 0, 1) := by decide +kernel
theorem dX11_stationLine_19 : decode cX11_stationLine 19 = .ok (.aload_n 0, 1) := by decide +kernel
theorem dX11_stationLine_20 : decode cX11_stationLine 20 = .ok (.getfield 20, 3) := by decide +kernel
theorem dX11_stationLine_23 : decode cX11_stationLine 23 = .ok (.iconst 5, 1) := by decide +kernel
theorem dX11_stationLine_24 : decode cX11_stationLine 24 = .ok (.aload_n 0, 1) := by decide +kernel
theorem dX11_stationLine_25 : decode cX11_stationLine 25 = .ok (.getfield 181, 3) := by decide +kernel
theorem dX11_stationLine_28 : decode cX11_stationLine 28 = .ok (.invokevirtual 257, 3) := by decide +kernel
theorem dX11_stationLine_31 : decode cX11_stationLine 31 = .ok (.ifCond .ne 5, 3) := by decide +kernel
theorem dX11_stationLine_34 : decode cX11_stationLine 34 = .ok (.iconst 0, 1) := by decide +kernel
theorem dX11_stationLine_35 : decode cX11_stationLine 35 = .ok (.ireturn, 1) := by decide +kernel
theorem dX11_stationLine_36 : decode cX11_stationLine 36 = .ok (.bipush 30, 2) := by decide +kernel
theorem dX11_stationLine_38 : decode cX11_stationLine 38 = .ok (.bipush 6, 2) := by decide +kernel
theorem dX11_stationLine_40 : decode cX11_stationLine 40 = .ok (.aload_n 0, 1) := by decide +kernel
theorem dX11_stationLine_41 : decode cX11_stationLine 41 = .ok (.getfield 181, 3) := by decide +kernel
theorem dX11_stationLine_44 : decode cX11_stationLine 44 = .ok (.imul, 1) := by decide +kernel
theorem dX11_stationLine_45 : decode cX11_stationLine 45 = .ok (.iadd, 1) := by decide +kernel
theorem dX11_stationLine_46 : decode cX11_stationLine 46 = .ok (.istore_n 1, 1) := by decide +kernel
theorem dX11_stationLine_47 : decode cX11_stationLine 47 = .ok (.aload_n 0, 1) := by decide +kernel
theorem dX11_stationLine_48 : decode cX11_stationLine 48 = .ok (.iconst 1, 1) := by decide +kernel
theorem dX11_stationLine_49 : decode cX11_stationLine 49 = .ok (.sipush 240, 3) := by decide +kernel
theorem dX11_stationLine_52 : decode cX11_stationLine 52 = .ok (.invokevirtual 261, 3) := by decide +kernel
theorem dX11_stationLine_55 : decode cX11_stationLine 55 = .ok (.ifCond .ne 5, 3) := by decide +kernel
theorem dX11_stationLine_58 : decode cX11_stationLine 58 = .ok (.iconst 0, 1) := by decide +kernel
theorem dX11_stationLine_59 : decode cX11_stationLine 59 = .ok (.ireturn, 1) := by decide +kernel
theorem dX11_stationLine_60 : decode cX11_stationLine 60 = .ok (.aload_n 0, 1) := by decide +kernel
theorem dX11_stationLine_61 : decode cX11_stationLine 61 = .ok (.getfield 23, 3) := by decide +kernel
theorem dX11_stationLine_64 : decode cX11_stationLine 64 = .ok (.iload_n 1, 1) := by decide +kernel
theorem dX11_stationLine_65 : decode cX11_stationLine 65 = .ok (.aload_n 0, 1) := by decide +kernel
theorem dX11_stationLine_66 : decode cX11_stationLine 66 = .ok (.getfield 175, 3) := by decide +kernel
theorem dX11_stationLine_69 : decode cX11_stationLine 69 = .ok (.iastore, 1) := by decide +kernel
theorem dX11_stationLine_70 : decode cX11_stationLine 70 = .ok (.aload_n 0, 1) := by decide +kernel
theorem dX11_stationLine_71 : decode cX11_stationLine 71 = .ok (.iconst 1, 1) := by decide +kernel
theorem dX11_stationLine_72 : decode cX11_stationLine 72 = .ok (.iconst 4, 1) := by decide +kernel
theorem dX11_stationLine_73 : decode cX11_stationLine 73 = .ok (.invokevirtual 261, 3) := by decide +kernel
theorem dX11_stationLine_76 : decode cX11_stationLine 76 = .ok (.ifCond .ne 5, 3) := by decide +kernel
theorem dX11_stationLine_79 : decode cX11_stationLine 79 = .ok (.iconst 0, 1) := by decide +kernel
theorem dX11_stationLine_80 : decode cX11_stationLine 80 = .ok (.ireturn, 1) := by decide +kernel
theorem dX11_stationLine_81 : decode cX11_stationLine 81 = .ok (.aload_n 0, 1) := by decide +kernel
theorem dX11_stationLine_82 : decode cX11_stationLine 82 = .ok (.getfield 23, 3) := by decide +kernel
theorem dX11_stationLine_85 : decode cX11_stationLine 85 = .ok (.iload_n 1, 1) := by decide +kernel
theorem dX11_stationLine_86 : decode cX11_stationLine 86 = .ok (.iconst 1, 1) := by decide +kernel
theorem dX11_stationLine_87 : decode cX11_stationLine 87 = .ok (.iadd, 1) := by decide +kernel
theorem dX11_stationLine_88 : decode cX11_stationLine 88 = .ok (.aload_n 0, 1) := by decide +kernel
theorem dX11_stationLine_89 : decode cX11_stationLine 89 = .ok (.getfield 175, 3) := by decide +kernel
theorem dX11_stationLine_92 : decode cX11_stationLine 92 = .ok (.iastore, 1) := by decide +kernel
theorem dX11_stationLine_93 : decode cX11_stationLine 93 = .ok (.aload_n 0, 1) := by decide +kernel
theorem dX11_stationLine_94 : decode cX11_stationLine 94 = .ok (.getfield 23, 3) := by decide +kernel
theorem dX11_stationLine_97 : decode cX11_stationLine 97 = .ok (.iload_n 1, 1) := by decide +kernel
theorem dX11_stationLine_98 : decode cX11_stationLine 98 = .ok (.iconst 2, 1) := by decide +kernel
theorem dX11_stationLine_99 : decode cX11_stationLine 99 = .ok (.iadd, 1) := by decide +kernel
theorem dX11_stationLine_100 : decode cX11_stationLine 100 = .ok (.iconst (-1), 1) := by decide +kernel
theorem dX11_stationLine_101 : decode cX11_stationLine 101 = .ok (.iastore, 1) := by decide +kernel
theorem dX11_stationLine_102 : decode cX11_stationLine 102 = .ok (.aload_n 0, 1) := by decide +kernel
theorem dX11_stationLine_103 : decode cX11_stationLine 103 = .ok (.getfield 23, 3) := by decide +kernel
theorem dX11_stationLine_106 : decode cX11_stationLine 106 = .ok (.iload_n 1, 1) := by decide +kernel
theorem dX11_stationLine_107 : decode cX11_stationLine 107 = .ok (.iconst 3, 1) := by decide +kernel
theorem dX11_stationLine_108 : decode cX11_stationLine 108 = .ok (.iadd, 1) := by decide +kernel
theorem dX11_stationLine_109 : decode cX11_stationLine 109 = .ok (.iconst 0, 1) := by decide +kernel
theorem dX11_stationLine_110 : decode cX11_stationLine 110 = .ok (.iastore, 1) := by decide +kernel
theorem dX11_stationLine_111 : decode cX11_stationLine 111 = .ok (.aload_n 0, 1) := by decide +kernel
theorem dX11_stationLine_112 : decode cX11_stationLine 112 = .ok (.getfield 23, 3) := by decide +kernel
theorem dX11_stationLine_115 : decode cX11_stationLine 115 = .ok (.iload_n 1, 1) := by decide +kernel
theorem dX11_stationLine_116 : decode cX11_stationLine 116 = .ok (.iconst 4, 1) := by decide +kernel
theorem dX11_stationLine_117 : decode cX11_stationLine 117 = .ok (.iadd, 1) := by decide +kernel
theorem dX11_stationLine_118 : decode cX11_stationLine 118 = .ok (.iconst 0, 1) := by decide +kernel
theorem dX11_stationLine_119 : decode cX11_stationLine 119 = .ok (.iastore, 1) := by decide +kernel
theorem dX11_stationLine_120 : decode cX11_stationLine 120 = .ok (.aload_n 0, 1) := by decide +kernel
theorem dX11_stationLine_121 : decode cX11_stationLine 121 = .ok (.getfield 23, 3) := by decide +kernel
theorem dX11_stationLine_124 : decode cX11_stationLine 124 = .ok (.iload_n 1, 1) := by decide +kernel
theorem dX11_stationLine_125 : decode cX11_stationLine 125 = .ok (.iconst 5, 1) := by decide +kernel
theorem dX11_stationLine_126 : decode cX11_stationLine 126 = .ok (.iadd, 1) := by decide +kernel
theorem dX11_stationLine_127 : decode cX11_stationLine 127 = .ok (.iconst (-1), 1) := by decide +kernel
theorem dX11_stationLine_128 : decode cX11_stationLine 128 = .ok (.iastore, 1) := by decide +kernel
theorem dX11_stationLine_129 : decode cX11_stationLine 129 = .ok (.aload_n 0, 1) := by decide +kernel
theorem dX11_stationLine_130 : decode cX11_stationLine 130 = .ok (.bipush 7, 2) := by decide +kernel
theorem dX11_stationLine_132 : decode cX11_stationLine 132 = .ok (.invokevirtual 265, 3) := by decide +kernel
theorem dX11_stationLine_135 : decode cX11_stationLine 135 = .ok (.ifCond .eq 80, 3) := by decide +kernel
theorem dX11_stationLine_138 : decode cX11_stationLine 138 = .ok (.aload_n 0, 1) := by decide +kernel
theorem dX11_stationLine_139 : decode cX11_stationLine 139 = .ok (.invokevirtual 178, 3) := by decide +kernel
theorem dX11_stationLine_142 : decode cX11_stationLine 142 = .ok (.aload_n 0, 1) := by decide +kernel
theorem dX11_stationLine_143 : decode cX11_stationLine 143 = .ok (.iconst 1, 1) := by decide +kernel
theorem dX11_stationLine_144 : decode cX11_stationLine 144 = .ok (.bipush 60, 2) := by decide +kernel
theorem dX11_stationLine_146 : decode cX11_stationLine 146 = .ok (.invokevirtual 261, 3) := by decide +kernel
theorem dX11_stationLine_149 : decode cX11_stationLine 149 = .ok (.ifCond .ne 5, 3) := by decide +kernel
theorem dX11_stationLine_152 : decode cX11_stationLine 152 = .ok (.iconst 0, 1) := by decide +kernel
theorem dX11_stationLine_153 : decode cX11_stationLine 153 = .ok (.ireturn, 1) := by decide +kernel
theorem dX11_stationLine_154 : decode cX11_stationLine 154 = .ok (.aload_n 0, 1) := by decide +kernel
theorem dX11_stationLine_155 : decode cX11_stationLine 155 = .ok (.getfield 23, 3) := by decide +kernel
theorem dX11_stationLine_158 : decode cX11_stationLine 158 = .ok (.iload_n 1, 1) := by decide +kernel
theorem dX11_stationLine_159 : decode cX11_stationLine 159 = .ok (.iconst 2, 1) := by decide +kernel
theorem dX11_stationLine_160 : decode cX11_stationLine 160 = .ok (.iadd, 1) := by decide +kernel
theorem dX11_stationLine_161 : decode cX11_stationLine 161 = .ok (.aload_n 0, 1) := by decide +kernel
theorem dX11_stationLine_162 : decode cX11_stationLine 162 = .ok (.getfield 175, 3) := by decide +kernel
theorem dX11_stationLine_165 : decode cX11_stationLine 165 = .ok (.iastore, 1) := by decide +kernel
theorem dX11_stationLine_166 : decode cX11_stationLine 166 = .ok (.aload_n 0, 1) := by decide +kernel
theorem dX11_stationLine_167 : decode cX11_stationLine 167 = .ok (.iconst 1, 1) := by decide +kernel
theorem dX11_stationLine_168 : decode cX11_stationLine 168 = .ok (.sipush 900, 3) := by decide +kernel
theorem dX11_stationLine_171 : decode cX11_stationLine 171 = .ok (.invokevirtual 261, 3) := by decide +kernel
theorem dX11_stationLine_174 : decode cX11_stationLine 174 = .ok (.ifCond .ne 5, 3) := by decide +kernel
theorem dX11_stationLine_177 : decode cX11_stationLine 177 = .ok (.iconst 0, 1) := by decide +kernel
theorem dX11_stationLine_178 : decode cX11_stationLine 178 = .ok (.ireturn, 1) := by decide +kernel
theorem dX11_stationLine_179 : decode cX11_stationLine 179 = .ok (.aload_n 0, 1) := by decide +kernel
theorem dX11_stationLine_180 : decode cX11_stationLine 180 = .ok (.getfield 23, 3) := by decide +kernel
theorem dX11_stationLine_183 : decode cX11_stationLine 183 = .ok (.iload_n 1, 1) := by decide +kernel
theorem dX11_stationLine_184 : decode cX11_stationLine 184 = .ok (.iconst 3, 1) := by decide +kernel
theorem dX11_stationLine_185 : decode cX11_stationLine 185 = .ok (.iadd, 1) := by decide +kernel
theorem dX11_stationLine_186 : decode cX11_stationLine 186 = .ok (.aload_n 0, 1) := by decide +kernel
theorem dX11_stationLine_187 : decode cX11_stationLine 187 = .ok (.getfield 175, 3) := by decide +kernel
theorem dX11_stationLine_190 : decode cX11_stationLine 190 = .ok (.iastore, 1) := by decide +kernel
theorem dX11_stationLine_191 : decode cX11_stationLine 191 = .ok (.aload_n 0, 1) := by decide +kernel
theorem dX11_stationLine_192 : decode cX11_stationLine 192 = .ok (.iconst 0, 1) := by decide +kernel
theorem dX11_stationLine_193 : decode cX11_stationLine 193 = .ok (.bipush 59, 2) := by decide +kernel
theorem dX11_stationLine_195 : decode cX11_stationLine 195 = .ok (.invokevirtual 261, 3) := by decide +kernel
theorem dX11_stationLine_198 : decode cX11_stationLine 198 = .ok (.ifCond .ne 5, 3) := by decide +kernel
theorem dX11_stationLine_201 : decode cX11_stationLine 201 = .ok (.iconst 0, 1) := by decide +kernel
theorem dX11_stationLine_202 : decode cX11_stationLine 202 = .ok (.ireturn, 1) := by decide +kernel
theorem dX11_stationLine_203 : decode cX11_stationLine 203 = .ok (.aload_n 0, 1) := by decide +kernel
theorem dX11_stationLine_204 : decode cX11_stationLine 204 = .ok (.getfield 23, 3) := by decide +kernel
theorem dX11_stationLine_207 : decode cX11_stationLine 207 = .ok (.iload_n 1, 1) := by decide +kernel
theorem dX11_stationLine_208 : decode cX11_stationLine 208 = .ok (.iconst 4, 1) := by decide +kernel
theorem dX11_stationLine_209 : decode cX11_stationLine 209 = .ok (.iadd, 1) := by decide +kernel
theorem dX11_stationLine_210 : decode cX11_stationLine 210 = .ok (.aload_n 0, 1) := by decide +kernel
theorem dX11_stationLine_211 : decode cX11_stationLine 211 = .ok (.getfield 175, 3) := by decide +kernel
theorem dX11_stationLine_214 : decode cX11_stationLine 214 = .ok (.iastore, 1) := by decide +kernel
theorem dX11_stationLine_215 : decode cX11_stationLine 215 = .ok (.aload_n 0, 1) := by decide +kernel
theorem dX11_stationLine_216 : decode cX11_stationLine 216 = .ok (.bipush 8, 2) := by decide +kernel
theorem dX11_stationLine_218 : decode cX11_stationLine 218 = .ok (.invokevirtual 265, 3) := by decide +kernel
theorem dX11_stationLine_221 : decode cX11_stationLine 221 = .ok (.ifCond .eq 32, 3) := by decide +kernel
theorem dX11_stationLine_224 : decode cX11_stationLine 224 = .ok (.aload_n 0, 1) := by decide +kernel
theorem dX11_stationLine_225 : decode cX11_stationLine 225 = .ok (.invokevirtual 178, 3) := by decide +kernel
theorem dX11_stationLine_228 : decode cX11_stationLine 228 = .ok (.aload_n 0, 1) := by decide +kernel
theorem dX11_stationLine_229 : decode cX11_stationLine 229 = .ok (.iconst 1, 1) := by decide +kernel
theorem dX11_stationLine_230 : decode cX11_stationLine 230 = .ok (.sipush 3600, 3) := by decide +kernel
theorem dX11_stationLine_233 : decode cX11_stationLine 233 = .ok (.invokevirtual 261, 3) := by decide +kernel
theorem dX11_stationLine_236 : decode cX11_stationLine 236 = .ok (.ifCond .ne 5, 3) := by decide +kernel
theorem dX11_stationLine_239 : decode cX11_stationLine 239 = .ok (.iconst 0, 1) := by decide +kernel
theorem dX11_stationLine_240 : decode cX11_stationLine 240 = .ok (.ireturn, 1) := by decide +kernel
theorem dX11_stationLine_241 : decode cX11_stationLine 241 = .ok (.aload_n 0, 1) := by decide +kernel
theorem dX11_stationLine_242 : decode cX11_stationLine 242 = .ok (.getfield 23, 3) := by decide +kernel
theorem dX11_stationLine_245 : decode cX11_stationLine 245 = .ok (.iload_n 1, 1) := by decide +kernel
theorem dX11_stationLine_246 : decode cX11_stationLine 246 = .ok (.iconst 5, 1) := by decide +kernel
theorem dX11_stationLine_247 : decode cX11_stationLine 247 = .ok (.iadd, 1) := by decide +kernel
theorem dX11_stationLine_248 : decode cX11_stationLine 248 = .ok (.aload_n 0, 1) := by decide +kernel
theorem dX11_stationLine_249 : decode cX11_stationLine 249 = .ok (.getfield 175, 3) := by decide +kernel
theorem dX11_stationLine_252 : decode cX11_stationLine 252 = .ok (.iastore, 1) := by decide +kernel
theorem dX11_stationLine_253 : decode cX11_stationLine 253 = .ok (.aload_n 0, 1) := by decide +kernel
theorem dX11_stationLine_254 : decode cX11_stationLine 254 = .ok (.dup, 1) := by decide +kernel
theorem dX11_stationLine_255 : decode cX11_stationLine 255 = .ok (.getfield 181, 3) := by decide +kernel
theorem dX11_stationLine_258 : decode cX11_stationLine 258 = .ok (.iconst 1, 1) := by decide +kernel
theorem dX11_stationLine_259 : decode cX11_stationLine 259 = .ok (.iadd, 1) := by decide +kernel
theorem dX11_stationLine_260 : decode cX11_stationLine 260 = .ok (.putfield 181, 3) := by decide +kernel
theorem dX11_stationLine_263 : decode cX11_stationLine 263 = .ok (.iconst 1, 1) := by decide +kernel
theorem dX11_stationLine_264 : decode cX11_stationLine 264 = .ok (.ireturn, 1) := by decide +kernel
set_option maxRecDepth 10000 in
theorem vX11_stationLine_0 {κ : eg_K} {d : Nat} (hd : 1 ≤ d) {post : Int32 → eg_H → Prop} (M : eg_H)  (h : ((¬ (M.1 (60, 0) 19) = (5 : Int32)) → eCV κ gM mtX11_token d [vR (60, 0)] M (fun M2 => eCI κ gM mtX11_newName d [vR (60, 0), vR (88, 0), vI (5 : Int32), vI (M2.1 (60, 0) 19)] M2 (fun x4 M5 => ((¬ x4 = 0) → (∀ x8 : Int32, x8 = ((30 : Int32) + ((6 : Int32) * (M5.1 (60, 0) 19))) → eCI κ gM mtX11_number d [vR (60, 0), vI (1 : Int32), vI (240 : Int32)] M5 (fun x9 M10 => ((¬ x9 = 0) → (vp_in x8 60 ∧ (∀ M14 : eg_H, M14 = (sI M10 (89, 0) x8.toNatClampNeg (M10.1 (60, 0) 11)) → eCI κ gM mtX11_number d [vR (60, 0), vI (1 : Int32), vI (4 : Int32)] M14 (fun x15 M16 => ((¬ x15 = 0) → (vp_in (x8 + (1 : Int32)) 60 ∧ (∀ M20 : eg_H, M20 = (sI M16 (89, 0) (x8 + (1 : Int32)).toNatClampNeg (M16.1 (60, 0) 11)) → (vp_in (x8 + (2 : Int32)) 60 ∧ (∀ M22 : eg_H, M22 = (sI M20 (89, 0) (x8 + (2 : Int32)).toNatClampNeg (-1 : Int32)) → (vp_in (x8 + (3 : Int32)) 60 ∧ (∀ M24 : eg_H, M24 = (sI M22 (89, 0) (x8 + (3 : Int32)).toNatClampNeg (0 : Int32)) → (vp_in (x8 + (4 : Int32)) 60 ∧ (∀ M26 : eg_H, M26 = (sI M24 (89, 0) (x8 + (4 : Int32)).toNatClampNeg (0 : Int32)) → (vp_in (x8 + (5 : Int32)) 60 ∧ (∀ M28 : eg_H, M28 = (sI M26 (89, 0) (x8 + (5 : Int32)).toNatClampNeg (-1 : Int32)) → (∀ x30 : Int32, x30 = (fX11_isKey M28 (7 : Int32)) → (x30 = 0 → eg_W κ gM mtX11_stationLine d (eQI κ gM post) 215 [(0, vR (60, 0)), (1, vI x8)] [] M28) ∧ ((¬ x30 = 0) → eCV κ gM mtX11_token d [vR (60, 0)] M28 (fun M32 => eCI κ gM mtX11_number d [vR (60, 0), vI (1 : Int32), vI (60 : Int32)] M32 (fun x34 M35 => ((¬ x34 = 0) → (∀ M38 : eg_H, M38 = (sI M35 (89, 0) (x8 + (2 : Int32)).toNatClampNeg (M35.1 (60, 0) 11)) → eCI κ gM mtX11_number d [vR (60, 0), vI (1 : Int32), vI (900 : Int32)] M38 (fun x39 M40 => ((¬ x39 = 0) → (∀ M43 : eg_H, M43 = (sI M40 (89, 0) (x8 + (3 : Int32)).toNatClampNeg (M40.1 (60, 0) 11)) → eCI κ gM mtX11_number d [vR (60, 0), vI (0 : Int32), vI (59 : Int32)] M43 (fun x44 M45 => ((¬ x44 = 0) → (∀ M48 : eg_H, M48 = (sI M45 (89, 0) (x8 + (4 : Int32)).toNatClampNeg (M45.1 (60, 0) 11)) → eg_W κ gM mtX11_stationLine d (eQI κ gM post) 215 [(0, vR (60, 0)), (1, vI x8)] [] M48)) ∧ (x44 = 0 → post (0 : Int32) M45)))) ∧ (x39 = 0 → post (0 : Int32) M40)))) ∧ (x34 = 0 → post (0 : Int32) M35)))))))))))))))) ∧ (x15 = 0 → post (0 : Int32) M16))))) ∧ (x9 = 0 → post (0 : Int32) M10)))) ∧ (x4 = 0 → post (0 : Int32) M5)))) ∧ ((M.1 (60, 0) 19) = (5 : Int32) → (∀ (x50 : Int32) (M49 : eg_H), (x50, M49) = fX11_wrong M (2 : Int32) → post x50 M49))) : eg_W κ gM mtX11_stationLine d (eQI κ gM post) 0 [(0, vR (60, 0))] [] M := by
  refine eg_aload_n 0 dX11_stationLine_0 rfl rfl ?_
  refine eg_getI dX11_stationLine_1 fl_11_181 rfl trivial (obM_60 z1) ?_
  refine eg_iconst dX11_stationLine_4 ic_5 ?_
  refine eg_icmp_ne (tgt := 14) dX11_stationLine_5 rfl (fun c1 => ?_) (fun c1 => ?_)
  · have h := h.1 c1
    refine eg_aload_n 0 dX11_stationLine_14 rfl rfl ?_
    obtain ⟨q3, hq3, h⟩ := h
    refine eg_callVV (av := []) (st := []) dX11_stationLine_15 ml_11_178 rfl rfl (obM_60 z1) (by decide) rfl (Nat.le_of_ble_eq_true rfl) (eg_dd (by omega)) hq3 (fun M2 hp => ?_)
    have h := h M2 hp
    refine eg_aload_n 0 dX11_stationLine_18 rfl rfl ?_
    refine eg_aload_n 0 dX11_stationLine_19 rfl rfl ?_
    refine eg_getR dX11_stationLine_20 fl_11_20 rfl rfl (obM_60 z1) ?_
    show eg_W κ gM mtX11_stationLine d (eQI κ gM post) 23 [(0, vR (60, 0))] [vR (88, 0), vR (60, 0)] M2
    refine eg_iconst dX11_stationLine_23 ic_5 ?_
    refine eg_aload_n 0 dX11_stationLine_24 rfl rfl ?_
    refine eg_getI dX11_stationLine_25 fl_11_181 rfl trivial (obM_60 z1) ?_
    obtain ⟨q6, hq6, h⟩ := h
    refine eg_callVI (av := [vR (88, 0), vI (5 : Int32), vI (M2.1 (60, 0) 19)]) (st := []) dX11_stationLine_28 ml_11_257 rfl rfl (obM_60 z1) (by decide) rfl (Nat.le_of_ble_eq_true rfl) (eg_dd (by omega)) hq6 (fun x4 M5 hp => ?_)
    have h := h x4 M5 hp
    refine eg_if_ne (tgt := 36) dX11_stationLine_31 rfl (fun c7 => ?_) (fun c7 => ?_)
    · have h := h.1 c7
      refine eg_bipush dX11_stationLine_36 bp_30 ?_
      refine eg_bipush dX11_stationLine_38 bp_6 ?_
      refine eg_aload_n 0 dX11_stationLine_40 rfl rfl ?_
      refine eg_getI dX11_stationLine_41 fl_11_181 rfl trivial (obM_60 z1) ?_
      refine eg_imul dX11_stationLine_44 ?_
      refine eg_iadd dX11_stationLine_45 ?_
      refine en_istore_n (f := fun x8 => [(1, vI x8), (0, vR (60, 0))]) dX11_stationLine_46 rfl (by decide) rfl (fun x8 ex8 => ?_)
      have h := h x8 ex8
      refine eg_aload_n 1 dX11_stationLine_47 rfl rfl ?_
      refine eg_iconst dX11_stationLine_48 ic_1 ?_
      refine eg_sipush dX11_stationLine_49 sp_240 ?_
      obtain ⟨q11, hq11, h⟩ := h
      refine eg_callVI (av := [vI (1 : Int32), vI (240 : Int32)]) (st := []) dX11_stationLine_52 ml_11_261 rfl rfl (obM_60 z1) (by decide) rfl (Nat.le_of_ble_eq_true rfl) (eg_dd (by omega)) hq11 (fun x9 M10 hp => ?_)
      have h := h x9 M10 hp
      refine eg_if_ne (tgt := 60) dX11_stationLine_55 rfl (fun c12 => ?_) (fun c12 => ?_)
      · have h := h.1 c12
        refine eg_aload_n 1 dX11_stationLine_60 rfl rfl ?_
        refine eg_getR dX11_stationLine_61 fl_11_23 rfl rfl (obM_60 z1) ?_
        show eg_W κ gM mtX11_stationLine d (eQI κ gM post) 64 [(1, vI x8), (0, vR (60, 0))] [vR (89, 0)] M10
        refine eg_iload_n 0 dX11_stationLine_64 rfl rfl ?_
        refine eg_aload_n 1 dX11_stationLine_65 rfl rfl ?_
        refine eg_getI dX11_stationLine_66 fl_11_175 rfl trivial (obM_60 z1) ?_
        obtain ⟨g13, h⟩ := h
        refine en_iastore dX11_stationLine_69 (arM_89 z1 g13) (fun M14 eM14 => ?_)
        have h := h M14 eM14
        refine eg_aload_n 1 dX11_stationLine_70 rfl rfl ?_
        refine eg_iconst dX11_stationLine_71 ic_1 ?_
        refine eg_iconst dX11_stationLine_72 ic_4 ?_
        obtain ⟨q17, hq17, h⟩ := h
        refine eg_callVI (av := [vI (1 : Int32), vI (4 : Int32)]) (st := []) dX11_stationLine_73 ml_11_261 rfl rfl (obM_60 z1) (by decide) rfl (Nat.le_of_ble_eq_true rfl) (eg_dd (by omega)) hq17 (fun x15 M16 hp => ?_)
        have h := h x15 M16 hp
        refine eg_if_ne (tgt := 81) dX11_stationLine_76 rfl (fun c18 => ?_) (fun c18 => ?_)
        · have h := h.1 c18
          refine eg_aload_n 1 dX11_stationLine_81 rfl rfl ?_
          refine eg_getR dX11_stationLine_82 fl_11_23 rfl rfl (obM_60 z1) ?_
          show eg_W κ gM mtX11_stationLine d (eQI κ gM post) 85 [(1, vI x8), (0, vR (60, 0))] [vR (89, 0)] M16
          refine eg_iload_n 0 dX11_stationLine_85 rfl rfl ?_
          refine eg_iconst dX11_stationLine_86 ic_1 ?_
          refine eg_iadd dX11_stationLine_87 ?_
          refine eg_aload_n 1 dX11_stationLine_88 rfl rfl ?_
          refine eg_getI dX11_stationLine_89 fl_11_175 rfl trivial (obM_60 z1) ?_
          obtain ⟨g19, h⟩ := h
          refine en_iastore dX11_stationLine_92 (arM_89 z1 g19) (fun M20 eM20 => ?_)
          have h := h M20 eM20
          refine eg_aload_n 1 dX11_stationLine_93 rfl rfl ?_
          refine eg_getR dX11_stationLine_94 fl_11_23 rfl rfl (obM_60 z1) ?_
          show eg_W κ gM mtX11_stationLine d (eQI κ gM post) 97 [(1, vI x8), (0, vR (60, 0))] [vR (89, 0)] M20
          refine eg_iload_n 0 dX11_stationLine_97 rfl rfl ?_
          refine eg_iconst dX11_stationLine_98 ic_2 ?_
          refine eg_iadd dX11_stationLine_99 ?_
          refine eg_iconst dX11_stationLine_100 ic_m1 ?_
          obtain ⟨g21, h⟩ := h
          refine en_iastore dX11_stationLine_101 (arM_89 z1 g21) (fun M22 eM22 => ?_)
          have h := h M22 eM22
          refine eg_aload_n 1 dX11_stationLine_102 rfl rfl ?_
          refine eg_getR dX11_stationLine_103 fl_11_23 rfl rfl (obM_60 z1) ?_
          show eg_W κ gM mtX11_stationLine d (eQI κ gM post) 106 [(1, vI x8), (0, vR (60, 0))] [vR (89, 0)] M22
          refine eg_iload_n 0 dX11_stationLine_106 rfl rfl ?_
          refine eg_iconst dX11_stationLine_107 ic_3 ?_
          refine eg_iadd dX11_stationLine_108 ?_
          refine eg_iconst dX11_stationLine_109 ic_0 ?_
          obtain ⟨g23, h⟩ := h
          refine en_iastore dX11_stationLine_110 (arM_89 z1 g23) (fun M24 eM24 => ?_)
          have h := h M24 eM24
          refine eg_aload_n 1 dX11_stationLine_111 rfl rfl ?_
          refine eg_getR dX11_stationLine_112 fl_11_23 rfl rfl (obM_60 z1) ?_
          show eg_W κ gM mtX11_stationLine d (eQI κ gM post) 115 [(1, vI x8), (0, vR (60, 0))] [vR (89, 0)] M24
          refine eg_iload_n 0 dX11_stationLine_115 rfl rfl ?_
          refine eg_iconst dX11_stationLine_116 ic_4 ?_
          refine eg_iadd dX11_stationLine_117 ?_
          refine eg_iconst dX11_stationLine_118 ic_0 ?_
          obtain ⟨g25, h⟩ := h
          refine en_iastore dX11_stationLine_119 (arM_89 z1 g25) (fun M26 eM26 => ?_)
          have h := h M26 eM26
          refine eg_aload_n 1 dX11_stationLine_120 rfl rfl ?_
          refine eg_getR dX11_stationLine_121 fl_11_23 rfl rfl (obM_60 z1) ?_
          show eg_W κ gM mtX11_stationLine d (eQI κ gM post) 124 [(1, vI x8), (0, vR (60, 0))] [vR (89, 0)] M26
          refine eg_iload_n 0 dX11_stationLine_124 rfl rfl ?_
          refine eg_iconst dX11_stationLine_125 ic_5 ?_
          refine eg_iadd dX11_stationLine_126 ?_
          refine eg_iconst dX11_stationLine_127 ic_m1 ?_
          obtain ⟨g27, h⟩ := h
          refine en_iastore dX11_stationLine_128 (arM_89 z1 g27) (fun M28 eM28 => ?_)
          have h := h M28 eM28
          refine eg_aload_n 1 dX11_stationLine_129 rfl rfl ?_
          refine eg_bipush dX11_stationLine_130 bp_7 ?_
          refine eg_callVI (av := [vI (7 : Int32)]) (st := []) dX11_stationLine_132 ml_11_265 rfl rfl (obM_60 z1) (by decide) rfl (Nat.le_of_ble_eq_true rfl) (eg_dd (by omega)) (sX11_isKey (by omega) M28 (7 : Int32)  ) (fun x30 M29 hp => ?_)
          obtain ⟨ex30, eM29⟩ := hp
          rw [eM29]
          have h := h x30 ex30
          refine eg_if_eq (tgt := 215) dX11_stationLine_135 rfl (fun c31 => ?_) (fun c31 => ?_)
          · have h := h.1 c31
            refine eg_sub [1, 0] rfl ?_
            exact h
          · have h := h.2 c31
            refine eg_aload_n 1 dX11_stationLine_138 rfl rfl ?_
            obtain ⟨q33, hq33, h⟩ := h
            refine eg_callVV (av := []) (st := []) dX11_stationLine_139 ml_11_178 rfl rfl (obM_60 z1) (by decide) rfl (Nat.le_of_ble_eq_true rfl) (eg_dd (by omega)) hq33 (fun M32 hp => ?_)
            have h := h M32 hp
            refine eg_aload_n 1 dX11_stationLine_142 rfl rfl ?_
            refine eg_iconst dX11_stationLine_143 ic_1 ?_
            refine eg_bipush dX11_stationLine_144 bp_60 ?_
            obtain ⟨q36, hq36, h⟩ := h
            refine eg_callVI (av := [vI (1 : Int32), vI (60 : Int32)]) (st := []) dX11_stationLine_146 ml_11_261 rfl rfl (obM_60 z1) (by decide) rfl (Nat.le_of_ble_eq_true rfl) (eg_dd (by omega)) hq36 (fun x34 M35 hp => ?_)
            have h := h x34 M35 hp
            refine eg_if_ne (tgt := 154) dX11_stationLine_149 rfl (fun c37 => ?_) (fun c37 => ?_)
            · have h := h.1 c37
              refine eg_aload_n 1 dX11_stationLine_154 rfl rfl ?_
              refine eg_getR dX11_stationLine_155 fl_11_23 rfl rfl (obM_60 z1) ?_
              show eg_W κ gM mtX11_stationLine d (eQI κ gM post) 158 [(1, vI x8), (0, vR (60, 0))] [vR (89, 0)] M35
              refine eg_iload_n 0 dX11_stationLine_158 rfl rfl ?_
              refine eg_iconst dX11_stationLine_159 ic_2 ?_
              refine eg_iadd dX11_stationLine_160 ?_
              refine eg_aload_n 1 dX11_stationLine_161 rfl rfl ?_
              refine eg_getI dX11_stationLine_162 fl_11_175 rfl trivial (obM_60 z1) ?_
              refine en_iastore dX11_stationLine_165 (arM_89 z1 g21) (fun M38 eM38 => ?_)
              have h := h M38 eM38
              refine eg_aload_n 1 dX11_stationLine_166 rfl rfl ?_
              refine eg_iconst dX11_stationLine_167 ic_1 ?_
              refine eg_sipush dX11_stationLine_168 sp_900 ?_
              obtain ⟨q41, hq41, h⟩ := h
              refine eg_callVI (av := [vI (1 : Int32), vI (900 : Int32)]) (st := []) dX11_stationLine_171 ml_11_261 rfl rfl (obM_60 z1) (by decide) rfl (Nat.le_of_ble_eq_true rfl) (eg_dd (by omega)) hq41 (fun x39 M40 hp => ?_)
              have h := h x39 M40 hp
              refine eg_if_ne (tgt := 179) dX11_stationLine_174 rfl (fun c42 => ?_) (fun c42 => ?_)
              · have h := h.1 c42
                refine eg_aload_n 1 dX11_stationLine_179 rfl rfl ?_
                refine eg_getR dX11_stationLine_180 fl_11_23 rfl rfl (obM_60 z1) ?_
                show eg_W κ gM mtX11_stationLine d (eQI κ gM post) 183 [(1, vI x8), (0, vR (60, 0))] [vR (89, 0)] M40
                refine eg_iload_n 0 dX11_stationLine_183 rfl rfl ?_
                refine eg_iconst dX11_stationLine_184 ic_3 ?_
                refine eg_iadd dX11_stationLine_185 ?_
                refine eg_aload_n 1 dX11_stationLine_186 rfl rfl ?_
                refine eg_getI dX11_stationLine_187 fl_11_175 rfl trivial (obM_60 z1) ?_
                refine en_iastore dX11_stationLine_190 (arM_89 z1 g23) (fun M43 eM43 => ?_)
                have h := h M43 eM43
                refine eg_aload_n 1 dX11_stationLine_191 rfl rfl ?_
                refine eg_iconst dX11_stationLine_192 ic_0 ?_
                refine eg_bipush dX11_stationLine_193 bp_59 ?_
                obtain ⟨q46, hq46, h⟩ := h
                refine eg_callVI (av := [vI (0 : Int32), vI (59 : Int32)]) (st := []) dX11_stationLine_195 ml_11_261 rfl rfl (obM_60 z1) (by decide) rfl (Nat.le_of_ble_eq_true rfl) (eg_dd (by omega)) hq46 (fun x44 M45 hp => ?_)
                have h := h x44 M45 hp
                refine eg_if_ne (tgt := 203) dX11_stationLine_198 rfl (fun c47 => ?_) (fun c47 => ?_)
                · have h := h.1 c47
                  refine eg_aload_n 1 dX11_stationLine_203 rfl rfl ?_
                  refine eg_getR dX11_stationLine_204 fl_11_23 rfl rfl (obM_60 z1) ?_
                  show eg_W κ gM mtX11_stationLine d (eQI κ gM post) 207 [(1, vI x8), (0, vR (60, 0))] [vR (89, 0)] M45
                  refine eg_iload_n 0 dX11_stationLine_207 rfl rfl ?_
                  refine eg_iconst dX11_stationLine_208 ic_4 ?_
                  refine eg_iadd dX11_stationLine_209 ?_
                  refine eg_aload_n 1 dX11_stationLine_210 rfl rfl ?_
                  refine eg_getI dX11_stationLine_211 fl_11_175 rfl trivial (obM_60 z1) ?_
                  refine en_iastore dX11_stationLine_214 (arM_89 z1 g25) (fun M48 eM48 => ?_)
                  have h := h M48 eM48
                  refine eg_sub [1, 0] rfl ?_
                  exact h
                · have h := h.2 c47
                  refine eg_iconst dX11_stationLine_201 ic_0 ?_
                  exact eg_zreturn dX11_stationLine_202 rfl (Or.inl rfl) h
              · have h := h.2 c42
                refine eg_iconst dX11_stationLine_177 ic_0 ?_
                exact eg_zreturn dX11_stationLine_178 rfl (Or.inl rfl) h
            · have h := h.2 c37
              refine eg_iconst dX11_stationLine_152 ic_0 ?_
              exact eg_zreturn dX11_stationLine_153 rfl (Or.inl rfl) h
        · have h := h.2 c18
          refine eg_iconst dX11_stationLine_79 ic_0 ?_
          exact eg_zreturn dX11_stationLine_80 rfl (Or.inl rfl) h
      · have h := h.2 c12
        refine eg_iconst dX11_stationLine_58 ic_0 ?_
        exact eg_zreturn dX11_stationLine_59 rfl (Or.inl rfl) h
    · have h := h.2 c7
      refine eg_iconst dX11_stationLine_34 ic_0 ?_
      exact eg_zreturn dX11_stationLine_35 rfl (Or.inl rfl) h
  · have h := h.2 c1
    refine eg_aload_n 0 dX11_stationLine_8 rfl rfl ?_
    refine eg_iconst dX11_stationLine_9 ic_2 ?_
    refine eg_callVI (av := [vI (2 : Int32)]) (st := []) dX11_stationLine_10 ml_11_168 rfl rfl (obM_60 z1) (by decide) rfl (Nat.le_of_ble_eq_true rfl) (eg_dd (by omega)) (sX11_wrong (by omega) M (2 : Int32)  ) (fun x50 M49 eM49 => ?_)
    have h := h x50 M49 eM49
    exact eg_zreturn dX11_stationLine_13 rfl (show x50 = 0 ∨ x50 = 1 from by rw [show x50 = _ from congrArg Prod.fst eM49]; exact zX11_wrong M (2 : Int32)) h
set_option maxRecDepth 10000 in
theorem vX11_stationLine_215 {κ : eg_K} {d : Nat} (hd : 1 ≤ d) {post : Int32 → eg_H → Prop} (M : eg_H) (l1 : Int32) (h : (∀ x2 : Int32, x2 = (fX11_isKey M (8 : Int32)) → (x2 = 0 → (∀ M4 : eg_H, M4 = (sI M (60, 0) 19 ((M.1 (60, 0) 19) + (1 : Int32))) → post (1 : Int32) M4)) ∧ ((¬ x2 = 0) → eCV κ gM mtX11_token d [vR (60, 0)] M (fun M5 => eCI κ gM mtX11_number d [vR (60, 0), vI (1 : Int32), vI (3600 : Int32)] M5 (fun x7 M8 => ((¬ x7 = 0) → (vp_in (l1 + (5 : Int32)) 60 ∧ (∀ M12 : eg_H, M12 = (sI M8 (89, 0) (l1 + (5 : Int32)).toNatClampNeg (M8.1 (60, 0) 11)) → (∀ M13 : eg_H, M13 = (sI M12 (60, 0) 19 ((M12.1 (60, 0) 19) + (1 : Int32))) → post (1 : Int32) M13)))) ∧ (x7 = 0 → post (0 : Int32) M8)))))) : eg_W κ gM mtX11_stationLine d (eQI κ gM post) 215 [(0, vR (60, 0)), (1, vI l1)] [] M := by
  refine eg_aload_n 0 dX11_stationLine_215 rfl rfl ?_
  refine eg_bipush dX11_stationLine_216 bp_8 ?_
  refine eg_callVI (av := [vI (8 : Int32)]) (st := []) dX11_stationLine_218 ml_11_265 rfl rfl (obM_60 z1) (by decide) rfl (Nat.le_of_ble_eq_true rfl) (eg_dd (by omega)) (sX11_isKey (by omega) M (8 : Int32)  ) (fun x2 M1 hp => ?_)
  obtain ⟨ex2, eM1⟩ := hp
  rw [eM1]
  have h := h x2 ex2
  refine eg_if_eq (tgt := 253) dX11_stationLine_221 rfl (fun c3 => ?_) (fun c3 => ?_)
  · have h := h.1 c3
    refine eg_aload_n 0 dX11_stationLine_253 rfl rfl ?_
    refine eg_dup dX11_stationLine_254 rfl ?_
    refine eg_getI dX11_stationLine_255 fl_11_181 rfl trivial (obM_60 z1) ?_
    refine eg_iconst dX11_stationLine_258 ic_1 ?_
    refine eg_iadd dX11_stationLine_259 ?_
    refine en_putI dX11_stationLine_260 fl_11_181 rfl rfl (obM_60 z1) (fun M4 eM4 => ?_)
    have h := h M4 eM4
    refine eg_iconst dX11_stationLine_263 ic_1 ?_
    exact eg_zreturn dX11_stationLine_264 rfl (Or.inr rfl) h
  · have h := h.2 c3
    refine eg_aload_n 0 dX11_stationLine_224 rfl rfl ?_
    obtain ⟨q6, hq6, h⟩ := h
    refine eg_callVV (av := []) (st := []) dX11_stationLine_225 ml_11_178 rfl rfl (obM_60 z1) (by decide) rfl (Nat.le_of_ble_eq_true rfl) (eg_dd (by omega)) hq6 (fun M5 hp => ?_)
    have h := h M5 hp
    refine eg_aload_n 0 dX11_stationLine_228 rfl rfl ?_
    refine eg_iconst dX11_stationLine_229 ic_1 ?_
    refine eg_sipush dX11_stationLine_230 sp_3600 ?_
    obtain ⟨q9, hq9, h⟩ := h
    refine eg_callVI (av := [vI (1 : Int32), vI (3600 : Int32)]) (st := []) dX11_stationLine_233 ml_11_261 rfl rfl (obM_60 z1) (by decide) rfl (Nat.le_of_ble_eq_true rfl) (eg_dd (by omega)) hq9 (fun x7 M8 hp => ?_)
    have h := h x7 M8 hp
    refine eg_if_ne (tgt := 241) dX11_stationLine_236 rfl (fun c10 => ?_) (fun c10 => ?_)
    · have h := h.1 c10
      refine eg_aload_n 0 dX11_stationLine_241 rfl rfl ?_
      refine eg_getR dX11_stationLine_242 fl_11_23 rfl rfl (obM_60 z1) ?_
      show eg_W κ gM mtX11_stationLine d (eQI κ gM post) 245 [(0, vR (60, 0)), (1, vI l1)] [vR (89, 0)] M8
      refine eg_iload_n 1 dX11_stationLine_245 rfl rfl ?_
      refine eg_iconst dX11_stationLine_246 ic_5 ?_
      refine eg_iadd dX11_stationLine_247 ?_
      refine eg_aload_n 0 dX11_stationLine_248 rfl rfl ?_
      refine eg_getI dX11_stationLine_249 fl_11_175 rfl trivial (obM_60 z1) ?_
      obtain ⟨g11, h⟩ := h
      refine en_iastore dX11_stationLine_252 (arM_89 z1 g11) (fun M12 eM12 => ?_)
      have h := h M12 eM12
      refine eg_aload_n 0 dX11_stationLine_253 rfl rfl ?_
      refine eg_dup dX11_stationLine_254 rfl ?_
      refine eg_getI dX11_stationLine_255 fl_11_181 rfl trivial (obM_60 z1) ?_
      refine eg_iconst dX11_stationLine_258 ic_1 ?_
      refine eg_iadd dX11_stationLine_259 ?_
      refine en_putI dX11_stationLine_260 fl_11_181 rfl rfl (obM_60 z1) (fun M13 eM13 => ?_)
      have h := h M13 eM13
      refine eg_iconst dX11_stationLine_263 ic_1 ?_
      exact eg_zreturn dX11_stationLine_264 rfl (Or.inr rfl) h
    · have h := h.2 c10
      refine eg_iconst dX11_stationLine_239 ic_0 ?_
      exact eg_zreturn dX11_stationLine_240 rfl (Or.inl rfl) h
theorem dX11_guestLine_0 : decode cX11_guestLine 0 = .ok (.aload_n 0, 1) := by decide +kernel
theorem dX11_guestLine_1 : decode cX11_guestLine 1 = .ok (.getfield 184, 3) := by decide +kernel
theorem dX11_guestLine_4 : decode cX11_guestLine 4 = .ok (.bipush 9, 2) := by decide +kernel
theorem dX11_guestLine_6 : decode cX11_guestLine 6 = .ok (.if_icmp .ne 9, 3) := by decide +kernel
theorem dX11_guestLine_9 : decode cX11_guestLine 9 = .ok (.aload_n 0, 1) := by decide +kernel
theorem dX11_guestLine_10 : decode cX11_guestLine 10 = .ok (.iconst 2, 1) := by decide +kernel
theorem dX11_guestLine_11 : decode cX11_guestLine 11 = .ok (.invokevirtual 168, 3) := by decide +kernel
theorem dX11_guestLine_14 : decode cX11_guestLine 14 = .ok (.ireturn, 1) := by decide +kernel
theorem dX11_guestLine_15 : decode cX11_guestLine 15 = .ok (.aload_n 0, 1) := by decide +kernel
theorem dX11_guestLine_16 : decode cX11_guestLine 16 = .ok (.invokevirtual 178, 3) := by decide +kernel
theorem dX11_guestLine_19 : decode cX11_guestLine 19 = .ok (.aload_n 0, 1) := by decide +kernel
theorem dX11_guestLine_20 : decode cX11_guestLine 20 = .ok (.aload_n 0, 1) := by decide +kernel
theorem dX11_guestLine_21 : decode cX11_guestLine 21 = .ok (.getfield 26, 3) := by decide +kernel
theorem dX11_guestLine_24 : decode cX11_guestLine 24 = .ok (.bipush 9, 2) := by decide +kernel
theorem dX11_guestLine_26 : decode cX11_guestLine 26 = .ok (.aload_n 0, 1) := by decide +kernel
theorem dX11_guestLine_27 : decode cX11_guestLine 27 = .ok (.getfield 184, 3) := by decide +kernel
theorem dX11_guestLine_30 : decode cX11_guestLine 30 = .ok (.invokevirtual 257, 3) := by decide +kernel
theorem dX11_guestLine_33 : decode cX11_guestLine 33 = .ok (.ifCond .ne 5, 3) := by decide +kernel
theorem dX11_guestLine_36 : decode cX11_guestLine 36 = .ok (.iconst 0, 1) := by decide +kernel
theorem dX11_guestLine_37 : decode cX11_guestLine 37 = .ok (.ireturn, 1) := by decide +kernel
theorem dX11_guestLine_38 : decode cX11_guestLine 38 = .ok (.bipush 15, 2) := by decide +kernel
theorem dX11_guestLine_40 : decode cX11_guestLine 40 = .ok (.aload_n 0, 1) := by decide +kernel
theorem dX11_guestLine_41 : decode cX11_guestLine 41 = .ok (.getfield 184, 3) := by decide +kernel
theorem dX11_guestLine_44 : decode cX11_guestLine 44 = .ok (.iadd, 1) := by decide +kernel
theorem dX11_guestLine_45 : decode cX11_guestLine 45 = .ok (.istore_n 1, 1) := by decide +kernel
theorem dX11_guestLine_46 : decode cX11_guestLine 46 = .ok (.aload_n 0, 1) := by decide +kernel
theorem dX11_guestLine_47 : decode cX11_guestLine 47 = .ok (.iconst 0, 1) := by decide +kernel
theorem dX11_guestLine_48 : decode cX11_guestLine 48 = .ok (.sipush 3599, 3) := by decide +kernel
theorem dX11_guestLine_51 : decode cX11_guestLine 51 = .ok (.invokevirtual 261, 3) := by decide +kernel
theorem dX11_guestLine_54 : decode cX11_guestLine 54 = .ok (.ifCond .ne 5, 3) := by decide +kernel
theorem dX11_guestLine_57 : decode cX11_guestLine 57 = .ok (.iconst 0, 1) := by decide +kernel
theorem dX11_guestLine_58 : decode cX11_guestLine 58 = .ok (.ireturn, 1) := by decide +kernel
theorem dX11_guestLine_59 : decode cX11_guestLine 59 = .ok (.aload_n 0, 1) := by decide +kernel
theorem dX11_guestLine_60 : decode cX11_guestLine 60 = .ok (.getfield 29, 3) := by decide +kernel
theorem dX11_guestLine_63 : decode cX11_guestLine 63 = .ok (.iload_n 1, 1) := by decide +kernel
theorem dX11_guestLine_64 : decode cX11_guestLine 64 = .ok (.aload_n 0, 1) := by decide +kernel
theorem dX11_guestLine_65 : decode cX11_guestLine 65 = .ok (.getfield 175, 3) := by decide +kernel
theorem dX11_guestLine_68 : decode cX11_guestLine 68 = .ok (.iastore, 1) := by decide +kernel
theorem dX11_guestLine_69 : decode cX11_guestLine 69 = .ok (.aload_n 0, 1) := by decide +kernel
theorem dX11_guestLine_70 : decode cX11_guestLine 70 = .ok (.iconst 1, 1) := by decide +kernel
theorem dX11_guestLine_71 : decode cX11_guestLine 71 = .ok (.bipush 20, 2) := by decide +kernel
theorem dX11_guestLine_73 : decode cX11_guestLine 73 = .ok (.invokevirtual 261, 3) := by decide +kernel
theorem dX11_guestLine_76 : decode cX11_guestLine 76 = .ok (.ifCond .ne 5, 3) := by decide +kernel
theorem dX11_guestLine_79 : decode cX11_guestLine 79 = .ok (.iconst 0, 1) := by decide +kernel
theorem dX11_guestLine_80 : decode cX11_guestLine 80 = .ok (.ireturn, 1) := by decide +kernel
theorem dX11_guestLine_81 : decode cX11_guestLine 81 = .ok (.aload_n 0, 1) := by decide +kernel
theorem dX11_guestLine_82 : decode cX11_guestLine 82 = .ok (.getfield 32, 3) := by decide +kernel
theorem dX11_guestLine_85 : decode cX11_guestLine 85 = .ok (.iload_n 1, 1) := by decide +kernel
theorem dX11_guestLine_86 : decode cX11_guestLine 86 = .ok (.aload_n 0, 1) := by decide +kernel
theorem dX11_guestLine_87 : decode cX11_guestLine 87 = .ok (.getfield 175, 3) := by decide +kernel
theorem dX11_guestLine_90 : decode cX11_guestLine 90 = .ok (.iastore, 1) := by decide +kernel
theorem dX11_guestLine_91 : decode cX11_guestLine 91 = .ok (.iconst 0, 1) := by decide +kernel
theorem dX11_guestLine_92 : decode cX11_guestLine 92 = .ok (.istore_n 2, 1) := by decide +kernel
theorem dX11_guestLine_93 : decode cX11_guestLine 93 = .ok (.iload_n 2, 1) := by decide +kernel
theorem dX11_guestLine_94 : decode cX11_guestLine 94 = .ok (.iconst 5, 1) := by decide +kernel
theorem dX11_guestLine_95 : decode cX11_guestLine 95 = .ok (.if_icmp .ge 20, 3) := by decide +kernel
theorem dX11_guestLine_98 : decode cX11_guestLine 98 = .ok (.aload_n 0, 1) := by decide +kernel
theorem dX11_guestLine_99 : decode cX11_guestLine 99 = .ok (.getfield 35, 3) := by decide +kernel
theorem dX11_guestLine_102 : decode cX11_guestLine 102 = .ok (.iconst 5, 1) := by decide +kernel
theorem dX11_guestLine_103 : decode cX11_guestLine 103 = .ok (.iload_n 1, 1) := by decide +kernel
theorem dX11_guestLine_104 : decode cX11_guestLine 104 = .ok (.imul, 1) := by decide +kernel
theorem dX11_guestLine_105 : decode cX11_guestLine 105 = .ok (.iload_n 2, 1) := by decide +kernel
theorem dX11_guestLine_106 : decode cX11_guestLine 106 = .ok (.iadd, 1) := by decide +kernel
theorem dX11_guestLine_107 : decode cX11_guestLine 107 = .ok (.iconst 0, 1) := by decide +kernel
theorem dX11_guestLine_108 : decode cX11_guestLine 108 = .ok (.iastore, 1) := by decide +kernel
theorem dX11_guestLine_109 : decode cX11_guestLine 109 = .ok (.iinc 2 1, 3) := by decide +kernel
theorem dX11_guestLine_112 : decode cX11_guestLine 112 = .ok (.goto (-19), 3) := by decide +kernel
theorem dX11_guestLine_115 : decode cX11_guestLine 115 = .ok (.aload_n 0, 1) := by decide +kernel
theorem dX11_guestLine_116 : decode cX11_guestLine 116 = .ok (.bipush 9, 2) := by decide +kernel
theorem dX11_guestLine_118 : decode cX11_guestLine 118 = .ok (.invokevirtual 265, 3) := by decide +kernel
theorem dX11_guestLine_121 : decode cX11_guestLine 121 = .ok (.ifCond .eq 100, 3) := by decide +kernel
theorem dX11_guestLine_124 : decode cX11_guestLine 124 = .ok (.aload_n 0, 1) := by decide +kernel
theorem dX11_guestLine_125 : decode cX11_guestLine 125 = .ok (.invokevirtual 178, 3) := by decide +kernel
theorem dX11_guestLine_128 : decode cX11_guestLine 128 = .ok (.aload_n 0, 1) := by decide +kernel
theorem dX11_guestLine_129 : decode cX11_guestLine 129 = .ok (.getfield 145, 3) := by decide +kernel
theorem dX11_guestLine_132 : decode cX11_guestLine 132 = .ok (.iconst 2, 1) := by decide +kernel
theorem dX11_guestLine_133 : decode cX11_guestLine 133 = .ok (.if_icmp .eq 9, 3) := by decide +kernel
theorem dX11_guestLine_136 : decode cX11_guestLine 136 = .ok (.aload_n 0, 1) := by decide +kernel
theorem dX11_guestLine_137 : decode cX11_guestLine 137 = .ok (.iconst 1, 1) := by decide +kernel
theorem dX11_guestLine_138 : decode cX11_guestLine 138 = .ok (.invokevirtual 168, 3) := by decide +kernel
theorem dX11_guestLine_141 : decode cX11_guestLine 141 = .ok (.ireturn, 1) := by decide +kernel
theorem dX11_guestLine_142 : decode cX11_guestLine 142 = .ok (.aload_n 0, 1) := by decide +kernel
theorem dX11_guestLine_143 : decode cX11_guestLine 143 = .ok (.getfield 20, 3) := by decide +kernel
theorem dX11_guestLine_146 : decode cX11_guestLine 146 = .ok (.iconst 5, 1) := by decide +kernel
theorem dX11_guestLine_147 : decode cX11_guestLine 147 = .ok (.aload_n 0, 1) := by decide +kernel
theorem dX11_guestLine_148 : decode cX11_guestLine 148 = .ok (.getfield 181, 3) := by decide +kernel
theorem dX11_guestLine_151 : decode cX11_guestLine 151 = .ok (.aload_n 0, 1) := by decide +kernel
theorem dX11_guestLine_152 : decode cX11_guestLine 152 = .ok (.getfield 156, 3) := by decide +kernel
theorem dX11_guestLine_155 : decode cX11_guestLine 155 = .ok (.invokestatic 253, 3) := by decide +kernel
theorem dX11_guestLine_158 : decode cX11_guestLine 158 = .ok (.istore_n 2, 1) := by decide +kernel
theorem dX11_guestLine_159 : decode cX11_guestLine 159 = .ok (.iload_n 2, 1) := by decide +kernel
theorem dX11_guestLine_160 : decode cX11_guestLine 160 = .ok (.ifCond .ge 9, 3) := by decide +kernel
theorem dX11_guestLine_163 : decode cX11_guestLine 163 = .ok (.aload_n 0, 1) := by decide +kernel
theorem dX11_guestLine_164 : decode cX11_guestLine 164 = .ok (.iconst 4, 1) := by decide +kernel
theorem dX11_guestLine_165 : decode cX11_guestLine 165 = .ok (.invokevirtual 168, 3) := by decide +kernel
theorem dX11_guestLine_168 : decode cX11_guestLine 168 = .ok (.ireturn, 1) := by decide +kernel
theorem dX11_guestLine_169 : decode cX11_guestLine 169 = .ok (.aload_n 0, 1) := by decide +kernel
theorem dX11_guestLine_170 : decode cX11_guestLine 170 = .ok (.getfield 35, 3) := by decide +kernel
theorem dX11_guestLine_173 : decode cX11_guestLine 173 = .ok (.iconst 5, 1) := by decide +kernel
theorem dX11_guestLine_174 : decode cX11_guestLine 174 = .ok (.iload_n 1, 1) := by decide +kernel
theorem dX11_guestLine_175 : decode cX11_guestLine 175 = .ok (.imul, 1) := by decide +kernel
theorem dX11_guestLine_176 : decode cX11_guestLine 176 = .ok (.iload_n 2, 1) := by decide +kernel
theorem dX11_guestLine_177 : decode cX11_guestLine 177 = .ok (.iadd, 1) := by decide +kernel
theorem dX11_guestLine_178 : decode cX11_guestLine 178 = .ok (.iaload, 1) := by decide +kernel
theorem dX11_guestLine_179 : decode cX11_guestLine 179 = .ok (.ifCond .le 9, 3) := by decide +kernel
theorem dX11_guestLine_182 : decode cX11_guestLine 182 = .ok (.aload_n 0, 1) := by decide +kernel
theorem dX11_guestLine_183 : decode cX11_guestLine 183 = .ok (.iconst 3, 1) := by decide +kernel
theorem dX11_guestLine_184 : decode cX11_guestLine 184 = .ok (.invokevirtual 168, 3) := by decide +kernel
theorem dX11_guestLine_187 : decode cX11_guestLine 187 = .ok (.ireturn, 1) := by decide +kernel
theorem dX11_guestLine_188 : decode cX11_guestLine 188 = .ok (.aload_n 0, 1) := by decide +kernel
theorem dX11_guestLine_189 : decode cX11_guestLine 189 = .ok (.invokevirtual 178, 3) := by decide +kernel
theorem dX11_guestLine_192 : decode cX11_guestLine 192 = .ok (.aload_n 0, 1) := by decide +kernel
theorem dX11_guestLine_193 : decode cX11_guestLine 193 = .ok (.iconst 1, 1) := by decide +kernel
theorem dX11_guestLine_194 : decode cX11_guestLine 194 = .ok (.bipush 9, 2) := by decide +kernel
theorem dX11_guestLine_196 : decode cX11_guestLine 196 = .ok (.invokevirtual 261, 3) := by decide +kernel
theorem dX11_guestLine_199 : decode cX11_guestLine 199 = .ok (.ifCond .ne 5, 3) := by decide +kernel
theorem dX11_guestLine_202 : decode cX11_guestLine 202 = .ok (.iconst 0, 1) := by decide +kernel
theorem dX11_guestLine_203 : decode cX11_guestLine 203 = .ok (.ireturn, 1) := by decide +kernel
theorem dX11_guestLine_204 : decode cX11_guestLine 204 = .ok (.aload_n 0, 1) := by decide +kernel
theorem dX11_guestLine_205 : decode cX11_guestLine 205 = .ok (.getfield 35, 3) := by decide +kernel
theorem dX11_guestLine_208 : decode cX11_guestLine 208 = .ok (.iconst 5, 1) := by decide +kernel
theorem dX11_guestLine_209 : decode cX11_guestLine 209 = .ok (.iload_n 1, 1) := by decide +kernel
theorem dX11_guestLine_210 : decode cX11_guestLine 210 = .ok (.imul, 1) := by decide +kernel
theorem dX11_guestLine_211 : decode cX11_guestLine 211 = .ok (.iload_n 2, 1) := by decide +kernel
theorem dX11_guestLine_212 : decode cX11_guestLine 212 = .ok (.iadd, 1) := by decide +kernel
theorem dX11_guestLine_213 : decode cX11_guestLine 213 = .ok (.aload_n 0, 1) := by decide +kernel
theorem dX11_guestLine_214 : decode cX11_guestLine 214 = .ok (.getfield 175, 3) := by decide +kernel
theorem dX11_guestLine_217 : decode cX11_guestLine 217 = .ok (.iastore, 1) := by decide +kernel
theorem dX11_guestLine_218 : decode cX11_guestLine 218 = .ok (.goto (-103), 3) := by decide +kernel
theorem dX11_guestLine_221 : decode cX11_guestLine 221 = .ok (.aload_n 0, 1) := by decide +kernel
theorem dX11_guestLine_222 : decode cX11_guestLine 222 = .ok (.dup, 1) := by decide +kernel
theorem dX11_guestLine_223 : decode cX11_guestLine 223 = .ok (.getfield 184, 3) := by decide +kernel
theorem dX11_guestLine_226 : decode cX11_guestLine 226 = .ok (.iconst 1, 1) := by decide +kernel
theorem dX11_guestLine_227 : decode cX11_guestLine 227 = .ok (.iadd, 1) := by decide +kernel
theorem dX11_guestLine_228 : decode cX11_guestLine 228 = .ok (.putfield 184, 3) := by decide +kernel
theorem dX11_guestLine_231 : decode cX11_guestLine 231 = .ok (.iconst 1, 1) := by decide +kernel
theorem dX11_guestLine_232 : decode cX11_guestLine 232 = .ok (.ireturn, 1) := by decide +kernel
set_option maxRecDepth 10000 in
theorem vX11_guestLine_0 {κ : eg_K} {d : Nat} (hd : 1 ≤ d) {post : Int32 → eg_H → Prop} (M : eg_H)  (h : ((¬ (M.1 (60, 0) 20) = (9 : Int32)) → eCV κ gM mtX11_token d [vR (60, 0)] M (fun M2 => eCI κ gM mtX11_newName d [vR (60, 0), vR (90, 0), vI (9 : Int32), vI (M2.1 (60, 0) 20)] M2 (fun x4 M5 => ((¬ x4 = 0) → (∀ x8 : Int32, x8 = ((15 : Int32) + (M5.1 (60, 0) 20)) → eCI κ gM mtX11_number d [vR (60, 0), vI (0 : Int32), vI (3599 : Int32)] M5 (fun x9 M10 => ((¬ x9 = 0) → (vp_in x8 24 ∧ (∀ M14 : eg_H, M14 = (sI M10 (91, 0) x8.toNatClampNeg (M10.1 (60, 0) 11)) → eCI κ gM mtX11_number d [vR (60, 0), vI (1 : Int32), vI (20 : Int32)] M14 (fun x15 M16 => ((¬ x15 = 0) → (∀ M19 : eg_H, M19 = (sI M16 (92, 0) x8.toNatClampNeg (M16.1 (60, 0) 11)) → eg_W κ gM mtX11_guestLine d (eQI κ gM post) 93 [(0, vR (60, 0)), (1, vI x8), (2, vI (0 : Int32))] [] M19)) ∧ (x15 = 0 → post (0 : Int32) M16))))) ∧ (x9 = 0 → post (0 : Int32) M10)))) ∧ (x4 = 0 → post (0 : Int32) M5)))) ∧ ((M.1 (60, 0) 20) = (9 : Int32) → (∀ (x21 : Int32) (M20 : eg_H), (x21, M20) = fX11_wrong M (2 : Int32) → post x21 M20))) : eg_W κ gM mtX11_guestLine d (eQI κ gM post) 0 [(0, vR (60, 0))] [] M := by
  refine eg_aload_n 0 dX11_guestLine_0 rfl rfl ?_
  refine eg_getI dX11_guestLine_1 fl_11_184 rfl trivial (obM_60 z1) ?_
  refine eg_bipush dX11_guestLine_4 bp_9 ?_
  refine eg_icmp_ne (tgt := 15) dX11_guestLine_6 rfl (fun c1 => ?_) (fun c1 => ?_)
  · have h := h.1 c1
    refine eg_aload_n 0 dX11_guestLine_15 rfl rfl ?_
    obtain ⟨q3, hq3, h⟩ := h
    refine eg_callVV (av := []) (st := []) dX11_guestLine_16 ml_11_178 rfl rfl (obM_60 z1) (by decide) rfl (Nat.le_of_ble_eq_true rfl) (eg_dd (by omega)) hq3 (fun M2 hp => ?_)
    have h := h M2 hp
    refine eg_aload_n 0 dX11_guestLine_19 rfl rfl ?_
    refine eg_aload_n 0 dX11_guestLine_20 rfl rfl ?_
    refine eg_getR dX11_guestLine_21 fl_11_26 rfl rfl (obM_60 z1) ?_
    show eg_W κ gM mtX11_guestLine d (eQI κ gM post) 24 [(0, vR (60, 0))] [vR (90, 0), vR (60, 0)] M2
    refine eg_bipush dX11_guestLine_24 bp_9 ?_
    refine eg_aload_n 0 dX11_guestLine_26 rfl rfl ?_
    refine eg_getI dX11_guestLine_27 fl_11_184 rfl trivial (obM_60 z1) ?_
    obtain ⟨q6, hq6, h⟩ := h
    refine eg_callVI (av := [vR (90, 0), vI (9 : Int32), vI (M2.1 (60, 0) 20)]) (st := []) dX11_guestLine_30 ml_11_257 rfl rfl (obM_60 z1) (by decide) rfl (Nat.le_of_ble_eq_true rfl) (eg_dd (by omega)) hq6 (fun x4 M5 hp => ?_)
    have h := h x4 M5 hp
    refine eg_if_ne (tgt := 38) dX11_guestLine_33 rfl (fun c7 => ?_) (fun c7 => ?_)
    · have h := h.1 c7
      refine eg_bipush dX11_guestLine_38 bp_15 ?_
      refine eg_aload_n 0 dX11_guestLine_40 rfl rfl ?_
      refine eg_getI dX11_guestLine_41 fl_11_184 rfl trivial (obM_60 z1) ?_
      refine eg_iadd dX11_guestLine_44 ?_
      refine en_istore_n (f := fun x8 => [(1, vI x8), (0, vR (60, 0))]) dX11_guestLine_45 rfl (by decide) rfl (fun x8 ex8 => ?_)
      have h := h x8 ex8
      refine eg_aload_n 1 dX11_guestLine_46 rfl rfl ?_
      refine eg_iconst dX11_guestLine_47 ic_0 ?_
      refine eg_sipush dX11_guestLine_48 sp_3599 ?_
      obtain ⟨q11, hq11, h⟩ := h
      refine eg_callVI (av := [vI (0 : Int32), vI (3599 : Int32)]) (st := []) dX11_guestLine_51 ml_11_261 rfl rfl (obM_60 z1) (by decide) rfl (Nat.le_of_ble_eq_true rfl) (eg_dd (by omega)) hq11 (fun x9 M10 hp => ?_)
      have h := h x9 M10 hp
      refine eg_if_ne (tgt := 59) dX11_guestLine_54 rfl (fun c12 => ?_) (fun c12 => ?_)
      · have h := h.1 c12
        refine eg_aload_n 1 dX11_guestLine_59 rfl rfl ?_
        refine eg_getR dX11_guestLine_60 fl_11_29 rfl rfl (obM_60 z1) ?_
        show eg_W κ gM mtX11_guestLine d (eQI κ gM post) 63 [(1, vI x8), (0, vR (60, 0))] [vR (91, 0)] M10
        refine eg_iload_n 0 dX11_guestLine_63 rfl rfl ?_
        refine eg_aload_n 1 dX11_guestLine_64 rfl rfl ?_
        refine eg_getI dX11_guestLine_65 fl_11_175 rfl trivial (obM_60 z1) ?_
        obtain ⟨g13, h⟩ := h
        refine en_iastore dX11_guestLine_68 (arM_91 z1 g13) (fun M14 eM14 => ?_)
        have h := h M14 eM14
        refine eg_aload_n 1 dX11_guestLine_69 rfl rfl ?_
        refine eg_iconst dX11_guestLine_70 ic_1 ?_
        refine eg_bipush dX11_guestLine_71 bp_20 ?_
        obtain ⟨q17, hq17, h⟩ := h
        refine eg_callVI (av := [vI (1 : Int32), vI (20 : Int32)]) (st := []) dX11_guestLine_73 ml_11_261 rfl rfl (obM_60 z1) (by decide) rfl (Nat.le_of_ble_eq_true rfl) (eg_dd (by omega)) hq17 (fun x15 M16 hp => ?_)
        have h := h x15 M16 hp
        refine eg_if_ne (tgt := 81) dX11_guestLine_76 rfl (fun c18 => ?_) (fun c18 => ?_)
        · have h := h.1 c18
          refine eg_aload_n 1 dX11_guestLine_81 rfl rfl ?_
          refine eg_getR dX11_guestLine_82 fl_11_32 rfl rfl (obM_60 z1) ?_
          show eg_W κ gM mtX11_guestLine d (eQI κ gM post) 85 [(1, vI x8), (0, vR (60, 0))] [vR (92, 0)] M16
          refine eg_iload_n 0 dX11_guestLine_85 rfl rfl ?_
          refine eg_aload_n 1 dX11_guestLine_86 rfl rfl ?_
          refine eg_getI dX11_guestLine_87 fl_11_175 rfl trivial (obM_60 z1) ?_
          refine en_iastore dX11_guestLine_90 (arM_92 z1 g13) (fun M19 eM19 => ?_)
          have h := h M19 eM19
          refine eg_iconst dX11_guestLine_91 ic_0 ?_
          refine eg_istore_n dX11_guestLine_92 rfl (by decide) (ls1 := [(2, vI (0 : Int32)), (1, vI x8), (0, vR (60, 0))]) rfl ?_
          refine eg_sub [2, 1, 0] rfl ?_
          exact h
        · have h := h.2 c18
          refine eg_iconst dX11_guestLine_79 ic_0 ?_
          exact eg_zreturn dX11_guestLine_80 rfl (Or.inl rfl) h
      · have h := h.2 c12
        refine eg_iconst dX11_guestLine_57 ic_0 ?_
        exact eg_zreturn dX11_guestLine_58 rfl (Or.inl rfl) h
    · have h := h.2 c7
      refine eg_iconst dX11_guestLine_36 ic_0 ?_
      exact eg_zreturn dX11_guestLine_37 rfl (Or.inl rfl) h
  · have h := h.2 c1
    refine eg_aload_n 0 dX11_guestLine_9 rfl rfl ?_
    refine eg_iconst dX11_guestLine_10 ic_2 ?_
    refine eg_callVI (av := [vI (2 : Int32)]) (st := []) dX11_guestLine_11 ml_11_168 rfl rfl (obM_60 z1) (by decide) rfl (Nat.le_of_ble_eq_true rfl) (eg_dd (by omega)) (sX11_wrong (by omega) M (2 : Int32)  ) (fun x21 M20 eM20 => ?_)
    have h := h x21 M20 eM20
    exact eg_zreturn dX11_guestLine_14 rfl (show x21 = 0 ∨ x21 = 1 from by rw [show x21 = _ from congrArg Prod.fst eM20]; exact zX11_wrong M (2 : Int32)) h
set_option maxRecDepth 10000 in
theorem vX11_guestLine_93 {κ : eg_K} {d : Nat} {post : Int32 → eg_H → Prop} (M : eg_H) (l1 : Int32) (l2 : Int32) (h : ((5 : Int32) ≤ l2 → eg_W κ gM mtX11_guestLine d (eQI κ gM post) 115 [(0, vR (60, 0)), (1, vI l1)] [] M) ∧ ((¬ (5 : Int32) ≤ l2) → (vp_in (((5 : Int32) * l1) + l2) 120 ∧ (∀ M3 : eg_H, M3 = (sI M (93, 0) (((5 : Int32) * l1) + l2).toNatClampNeg (0 : Int32)) → (∀ x4 : Int32, x4 = (l2 + (1 : Int32)) → eg_W κ gM mtX11_guestLine d (eQI κ gM post) 93 [(0, vR (60, 0)), (1, vI l1), (2, vI x4)] [] M3))))) : eg_W κ gM mtX11_guestLine d (eQI κ gM post) 93 [(0, vR (60, 0)), (1, vI l1), (2, vI l2)] [] M := by
  refine eg_iload_n 2 dX11_guestLine_93 rfl rfl ?_
  refine eg_iconst dX11_guestLine_94 ic_5 ?_
  refine eg_icmp_ge (tgt := 115) dX11_guestLine_95 rfl (fun c1 => ?_) (fun c1 => ?_)
  · have h := h.1 c1
    refine eg_sub [0, 1] rfl ?_
    exact h
  · have h := h.2 c1
    refine eg_aload_n 0 dX11_guestLine_98 rfl rfl ?_
    refine eg_getR dX11_guestLine_99 fl_11_35 rfl rfl (obM_60 z1) ?_
    show eg_W κ gM mtX11_guestLine d (eQI κ gM post) 102 [(0, vR (60, 0)), (1, vI l1), (2, vI l2)] [vR (93, 0)] M
    refine eg_iconst dX11_guestLine_102 ic_5 ?_
    refine eg_iload_n 1 dX11_guestLine_103 rfl rfl ?_
    refine eg_imul dX11_guestLine_104 ?_
    refine eg_iload_n 2 dX11_guestLine_105 rfl rfl ?_
    refine eg_iadd dX11_guestLine_106 ?_
    refine eg_iconst dX11_guestLine_107 ic_0 ?_
    obtain ⟨g2, h⟩ := h
    refine en_iastore dX11_guestLine_108 (arM_93 z1 g2) (fun M3 eM3 => ?_)
    have h := h M3 eM3
    refine en_iinc (f := fun x4 => [(2, vI x4), (0, vR (60, 0)), (1, vI l1)]) 2 dX11_guestLine_109 rfl rfl (by decide) rfl (fun x4 ex4 => ?_)
    have h := h x4 ex4
    refine eg_goto (tgt := 93) dX11_guestLine_112 rfl ?_
    refine eg_sub [1, 2, 0] rfl ?_
    exact h
set_option maxRecDepth 10000 in
theorem vX11_guestLine_115 {κ : eg_K} {d : Nat} (hd : 1 ≤ d) {post : Int32 → eg_H → Prop} (M : eg_H) (l1 : Int32) (h : (∀ x2 : Int32, x2 = (fX11_isKey M (9 : Int32)) → (x2 = 0 → (∀ M4 : eg_H, M4 = (sI M (60, 0) 20 ((M.1 (60, 0) 20) + (1 : Int32))) → post (1 : Int32) M4)) ∧ ((¬ x2 = 0) → eCV κ gM mtX11_token d [vR (60, 0)] M (fun M5 => ((M5.1 (60, 0) 8) = (2 : Int32) → (gX11_find M5 ((88, 0) : eg_R) (5 : Int32) (M5.1 (60, 0) 19) (M5.1 (60, 0) 9) ∧ (∀ x10 : Int32, x10 = (fX11_find M5 ((88, 0) : eg_R) (5 : Int32) (M5.1 (60, 0) 19) (M5.1 (60, 0) 9)) → (0 ≤ x10 → (vp_in (((5 : Int32) * l1) + x10) 120 ∧ ((M5.1 (93, 0) (((5 : Int32) * l1) + x10).toNatClampNeg) ≤ 0 → eCV κ gM mtX11_token d [vR (60, 0)] M5 (fun M14 => eCI κ gM mtX11_number d [vR (60, 0), vI (1 : Int32), vI (9 : Int32)] M14 (fun x16 M17 => ((¬ x16 = 0) → (∀ M20 : eg_H, M20 = (sI M17 (93, 0) (((5 : Int32) * l1) + x10).toNatClampNeg (M17.1 (60, 0) 11)) → eg_W κ gM mtX11_guestLine d (eQI κ gM post) 115 [(0, vR (60, 0)), (1, vI l1)] [] M20)) ∧ (x16 = 0 → post (0 : Int32) M17)))) ∧ ((¬ (M5.1 (93, 0) (((5 : Int32) * l1) + x10).toNatClampNeg) ≤ 0) → (∀ (x22 : Int32) (M21 : eg_H), (x22, M21) = fX11_wrong M5 (3 : Int32) → post x22 M21)))) ∧ ((¬ 0 ≤ x10) → (∀ (x24 : Int32) (M23 : eg_H), (x24, M23) = fX11_wrong M5 (4 : Int32) → post x24 M23))))) ∧ ((¬ (M5.1 (60, 0) 8) = (2 : Int32)) → (∀ (x26 : Int32) (M25 : eg_H), (x26, M25) = fX11_wrong M5 (1 : Int32) → post x26 M25)))))) : eg_W κ gM mtX11_guestLine d (eQI κ gM post) 115 [(0, vR (60, 0)), (1, vI l1)] [] M := by
  refine eg_aload_n 0 dX11_guestLine_115 rfl rfl ?_
  refine eg_bipush dX11_guestLine_116 bp_9 ?_
  refine eg_callVI (av := [vI (9 : Int32)]) (st := []) dX11_guestLine_118 ml_11_265 rfl rfl (obM_60 z1) (by decide) rfl (Nat.le_of_ble_eq_true rfl) (eg_dd (by omega)) (sX11_isKey (by omega) M (9 : Int32)  ) (fun x2 M1 hp => ?_)
  obtain ⟨ex2, eM1⟩ := hp
  rw [eM1]
  have h := h x2 ex2
  refine eg_if_eq (tgt := 221) dX11_guestLine_121 rfl (fun c3 => ?_) (fun c3 => ?_)
  · have h := h.1 c3
    refine eg_aload_n 0 dX11_guestLine_221 rfl rfl ?_
    refine eg_dup dX11_guestLine_222 rfl ?_
    refine eg_getI dX11_guestLine_223 fl_11_184 rfl trivial (obM_60 z1) ?_
    refine eg_iconst dX11_guestLine_226 ic_1 ?_
    refine eg_iadd dX11_guestLine_227 ?_
    refine en_putI dX11_guestLine_228 fl_11_184 rfl rfl (obM_60 z1) (fun M4 eM4 => ?_)
    have h := h M4 eM4
    refine eg_iconst dX11_guestLine_231 ic_1 ?_
    exact eg_zreturn dX11_guestLine_232 rfl (Or.inr rfl) h
  · have h := h.2 c3
    refine eg_aload_n 0 dX11_guestLine_124 rfl rfl ?_
    obtain ⟨q6, hq6, h⟩ := h
    refine eg_callVV (av := []) (st := []) dX11_guestLine_125 ml_11_178 rfl rfl (obM_60 z1) (by decide) rfl (Nat.le_of_ble_eq_true rfl) (eg_dd (by omega)) hq6 (fun M5 hp => ?_)
    have h := h M5 hp
    refine eg_aload_n 0 dX11_guestLine_128 rfl rfl ?_
    refine eg_getI dX11_guestLine_129 fl_11_145 rfl trivial (obM_60 z1) ?_
    refine eg_iconst dX11_guestLine_132 ic_2 ?_
    refine eg_icmp_eq (tgt := 142) dX11_guestLine_133 rfl (fun c7 => ?_) (fun c7 => ?_)
    · have h := h.1 c7
      refine eg_aload_n 0 dX11_guestLine_142 rfl rfl ?_
      refine eg_getR dX11_guestLine_143 fl_11_20 rfl rfl (obM_60 z1) ?_
      show eg_W κ gM mtX11_guestLine d (eQI κ gM post) 146 [(0, vR (60, 0)), (1, vI l1)] [vR (88, 0)] M5
      refine eg_iconst dX11_guestLine_146 ic_5 ?_
      refine eg_aload_n 0 dX11_guestLine_147 rfl rfl ?_
      refine eg_getI dX11_guestLine_148 fl_11_181 rfl trivial (obM_60 z1) ?_
      refine eg_aload_n 0 dX11_guestLine_151 rfl rfl ?_
      refine eg_getI dX11_guestLine_152 fl_11_156 rfl trivial (obM_60 z1) ?_
      obtain ⟨g8, h⟩ := h
      refine eg_callSI (av := [vR (88, 0), vI (5 : Int32), vI (M5.1 (60, 0) 19), vI (M5.1 (60, 0) 9)]) (st := []) dX11_guestLine_155 ml_11_253 rfl rfl (Nat.le_of_ble_eq_true rfl) (eg_dd (by omega)) (sX11_find (by omega) M5 ((88, 0) : eg_R) (5 : Int32) (M5.1 (60, 0) 19) (M5.1 (60, 0) 9) (anM_88 z1) g8) (fun x10 M9 hp => ?_)
      obtain ⟨ex10, eM9⟩ := hp
      rw [eM9]
      have h := h x10 ex10
      refine eg_istore_n dX11_guestLine_158 rfl (by decide) (ls1 := [(2, vI x10), (0, vR (60, 0)), (1, vI l1)]) rfl ?_
      refine eg_iload_n 0 dX11_guestLine_159 rfl rfl ?_
      refine eg_if_ge (tgt := 169) dX11_guestLine_160 rfl (fun c11 => ?_) (fun c11 => ?_)
      · have h := h.1 c11
        refine eg_aload_n 1 dX11_guestLine_169 rfl rfl ?_
        refine eg_getR dX11_guestLine_170 fl_11_35 rfl rfl (obM_60 z1) ?_
        show eg_W κ gM mtX11_guestLine d (eQI κ gM post) 173 [(2, vI x10), (0, vR (60, 0)), (1, vI l1)] [vR (93, 0)] M5
        refine eg_iconst dX11_guestLine_173 ic_5 ?_
        refine eg_iload_n 2 dX11_guestLine_174 rfl rfl ?_
        refine eg_imul dX11_guestLine_175 ?_
        refine eg_iload_n 0 dX11_guestLine_176 rfl rfl ?_
        refine eg_iadd dX11_guestLine_177 ?_
        obtain ⟨g12, h⟩ := h
        refine eg_iaload dX11_guestLine_178 (arM_93 z1 g12) ?_
        refine eg_if_le (tgt := 188) dX11_guestLine_179 rfl (fun c13 => ?_) (fun c13 => ?_)
        · have h := h.1 c13
          refine eg_aload_n 1 dX11_guestLine_188 rfl rfl ?_
          obtain ⟨q15, hq15, h⟩ := h
          refine eg_callVV (av := []) (st := []) dX11_guestLine_189 ml_11_178 rfl rfl (obM_60 z1) (by decide) rfl (Nat.le_of_ble_eq_true rfl) (eg_dd (by omega)) hq15 (fun M14 hp => ?_)
          have h := h M14 hp
          refine eg_aload_n 1 dX11_guestLine_192 rfl rfl ?_
          refine eg_iconst dX11_guestLine_193 ic_1 ?_
          refine eg_bipush dX11_guestLine_194 bp_9 ?_
          obtain ⟨q18, hq18, h⟩ := h
          refine eg_callVI (av := [vI (1 : Int32), vI (9 : Int32)]) (st := []) dX11_guestLine_196 ml_11_261 rfl rfl (obM_60 z1) (by decide) rfl (Nat.le_of_ble_eq_true rfl) (eg_dd (by omega)) hq18 (fun x16 M17 hp => ?_)
          have h := h x16 M17 hp
          refine eg_if_ne (tgt := 204) dX11_guestLine_199 rfl (fun c19 => ?_) (fun c19 => ?_)
          · have h := h.1 c19
            refine eg_aload_n 1 dX11_guestLine_204 rfl rfl ?_
            refine eg_getR dX11_guestLine_205 fl_11_35 rfl rfl (obM_60 z1) ?_
            show eg_W κ gM mtX11_guestLine d (eQI κ gM post) 208 [(2, vI x10), (0, vR (60, 0)), (1, vI l1)] [vR (93, 0)] M17
            refine eg_iconst dX11_guestLine_208 ic_5 ?_
            refine eg_iload_n 2 dX11_guestLine_209 rfl rfl ?_
            refine eg_imul dX11_guestLine_210 ?_
            refine eg_iload_n 0 dX11_guestLine_211 rfl rfl ?_
            refine eg_iadd dX11_guestLine_212 ?_
            refine eg_aload_n 1 dX11_guestLine_213 rfl rfl ?_
            refine eg_getI dX11_guestLine_214 fl_11_175 rfl trivial (obM_60 z1) ?_
            refine en_iastore dX11_guestLine_217 (arM_93 z1 g12) (fun M20 eM20 => ?_)
            have h := h M20 eM20
            refine eg_goto (tgt := 115) dX11_guestLine_218 rfl ?_
            refine eg_sub [1, 2] rfl ?_
            exact h
          · have h := h.2 c19
            refine eg_iconst dX11_guestLine_202 ic_0 ?_
            exact eg_zreturn dX11_guestLine_203 rfl (Or.inl rfl) h
        · have h := h.2 c13
          refine eg_aload_n 1 dX11_guestLine_182 rfl rfl ?_
          refine eg_iconst dX11_guestLine_183 ic_3 ?_
          refine eg_callVI (av := [vI (3 : Int32)]) (st := []) dX11_guestLine_184 ml_11_168 rfl rfl (obM_60 z1) (by decide) rfl (Nat.le_of_ble_eq_true rfl) (eg_dd (by omega)) (sX11_wrong (by omega) M5 (3 : Int32)  ) (fun x22 M21 eM21 => ?_)
          have h := h x22 M21 eM21
          exact eg_zreturn dX11_guestLine_187 rfl (show x22 = 0 ∨ x22 = 1 from by rw [show x22 = _ from congrArg Prod.fst eM21]; exact zX11_wrong M5 (3 : Int32)) h
      · have h := h.2 c11
        refine eg_aload_n 1 dX11_guestLine_163 rfl rfl ?_
        refine eg_iconst dX11_guestLine_164 ic_4 ?_
        refine eg_callVI (av := [vI (4 : Int32)]) (st := []) dX11_guestLine_165 ml_11_168 rfl rfl (obM_60 z1) (by decide) rfl (Nat.le_of_ble_eq_true rfl) (eg_dd (by omega)) (sX11_wrong (by omega) M5 (4 : Int32)  ) (fun x24 M23 eM23 => ?_)
        have h := h x24 M23 eM23
        exact eg_zreturn dX11_guestLine_168 rfl (show x24 = 0 ∨ x24 = 1 from by rw [show x24 = _ from congrArg Prod.fst eM23]; exact zX11_wrong M5 (4 : Int32)) h
    · have h := h.2 c7
      refine eg_aload_n 0 dX11_guestLine_136 rfl rfl ?_
      refine eg_iconst dX11_guestLine_137 ic_1 ?_
      refine eg_callVI (av := [vI (1 : Int32)]) (st := []) dX11_guestLine_138 ml_11_168 rfl rfl (obM_60 z1) (by decide) rfl (Nat.le_of_ble_eq_true rfl) (eg_dd (by omega)) (sX11_wrong (by omega) M5 (1 : Int32)  ) (fun x26 M25 eM25 => ?_)
      have h := h x26 M25 eM25
      exact eg_zreturn dX11_guestLine_141 rfl (show x26 = 0 ∨ x26 = 1 from by rw [show x26 = _ from congrArg Prod.fst eM25]; exact zX11_wrong M5 (1 : Int32)) h
theorem dX11_sumInto_0 : decode cX11_sumInto 0 = .ok (.aload_n 0, 1) := by decide +kernel
theorem dX11_sumInto_1 : decode cX11_sumInto 1 = .ok (.getfield 44, 3) := by decide +kernel
theorem dX11_sumInto_4 : decode cX11_sumInto 4 = .ok (.bipush 7, 2) := by decide +kernel
theorem dX11_sumInto_6 : decode cX11_sumInto 6 = .ok (.iload_n 1, 1) := by decide +kernel
theorem dX11_sumInto_7 : decode cX11_sumInto 7 = .ok (.iadd, 1) := by decide +kernel
theorem dX11_sumInto_8 : decode cX11_sumInto 8 = .ok (.aload_n 0, 1) := by decide +kernel
theorem dX11_sumInto_9 : decode cX11_sumInto 9 = .ok (.getfield 190, 3) := by decide +kernel
theorem dX11_sumInto_12 : decode cX11_sumInto 12 = .ok (.iastore, 1) := by decide +kernel
theorem dX11_sumInto_13 : decode cX11_sumInto 13 = .ok (.aload_n 0, 1) := by decide +kernel
theorem dX11_sumInto_14 : decode cX11_sumInto 14 = .ok (.invokevirtual 268, 3) := by decide +kernel
theorem dX11_sumInto_17 : decode cX11_sumInto 17 = .ok (.istore_n 2, 1) := by decide +kernel
theorem dX11_sumInto_18 : decode cX11_sumInto 18 = .ok (.aload_n 0, 1) := by decide +kernel
theorem dX11_sumInto_19 : decode cX11_sumInto 19 = .ok (.getfield 47, 3) := by decide +kernel
theorem dX11_sumInto_22 : decode cX11_sumInto 22 = .ok (.bipush 7, 2) := by decide +kernel
theorem dX11_sumInto_24 : decode cX11_sumInto 24 = .ok (.iload_n 1, 1) := by decide +kernel
theorem dX11_sumInto_25 : decode cX11_sumInto 25 = .ok (.iadd, 1) := by decide +kernel
theorem dX11_sumInto_26 : decode cX11_sumInto 26 = .ok (.aload_n 0, 1) := by decide +kernel
theorem dX11_sumInto_27 : decode cX11_sumInto 27 = .ok (.getfield 190, 3) := by decide +kernel
theorem dX11_sumInto_30 : decode cX11_sumInto 30 = .ok (.iastore, 1) := by decide +kernel
theorem dX11_sumInto_31 : decode cX11_sumInto 31 = .ok (.iload_n 2, 1) := by decide +kernel
theorem dX11_sumInto_32 : decode cX11_sumInto 32 = .ok (.ireturn, 1) := by decide +kernel
set_option maxRecDepth 10000 in
theorem vX11_sumInto_0 {κ : eg_K} {d : Nat} (hd : 1 ≤ d) {post : Int32 → eg_H → Prop} (M : eg_H) (l1 : Int32) (h : (vp_in ((7 : Int32) + l1) 14 ∧ (∀ M2 : eg_H, M2 = (sI M (96, 0) ((7 : Int32) + l1).toNatClampNeg (M.1 (60, 0) 22)) → eCI κ gM mtX11_sumRead d [vR (60, 0)] M2 (fun x3 M4 => (∀ M6 : eg_H, M6 = (sI M4 (97, 0) ((7 : Int32) + l1).toNatClampNeg (M4.1 (60, 0) 22)) → ((x3 = 0 ∨ x3 = 1) ∧ post x3 M6)))))) : eg_W κ gM mtX11_sumInto d (eQI κ gM post) 0 [(0, vR (60, 0)), (1, vI l1)] [] M := by
  refine eg_aload_n 0 dX11_sumInto_0 rfl rfl ?_
  refine eg_getR dX11_sumInto_1 fl_11_44 rfl rfl (obM_60 z1) ?_
  show eg_W κ gM mtX11_sumInto d (eQI κ gM post) 4 [(0, vR (60, 0)), (1, vI l1)] [vR (96, 0)] M
  refine eg_bipush dX11_sumInto_4 bp_7 ?_
  refine eg_iload_n 1 dX11_sumInto_6 rfl rfl ?_
  refine eg_iadd dX11_sumInto_7 ?_
  refine eg_aload_n 0 dX11_sumInto_8 rfl rfl ?_
  refine eg_getI dX11_sumInto_9 fl_11_190 rfl trivial (obM_60 z1) ?_
  obtain ⟨g1, h⟩ := h
  refine en_iastore dX11_sumInto_12 (arM_96 z1 g1) (fun M2 eM2 => ?_)
  have h := h M2 eM2
  refine eg_aload_n 0 dX11_sumInto_13 rfl rfl ?_
  obtain ⟨q5, hq5, h⟩ := h
  refine eg_callVI (av := []) (st := []) dX11_sumInto_14 ml_11_268 rfl rfl (obM_60 z1) (by decide) rfl (Nat.le_of_ble_eq_true rfl) (eg_dd (by omega)) hq5 (fun x3 M4 hp => ?_)
  have h := h x3 M4 hp
  refine eg_istore_n dX11_sumInto_17 rfl (by decide) (ls1 := [(2, vI x3), (0, vR (60, 0)), (1, vI l1)]) rfl ?_
  refine eg_aload_n 1 dX11_sumInto_18 rfl rfl ?_
  refine eg_getR dX11_sumInto_19 fl_11_47 rfl rfl (obM_60 z1) ?_
  show eg_W κ gM mtX11_sumInto d (eQI κ gM post) 22 [(2, vI x3), (0, vR (60, 0)), (1, vI l1)] [vR (97, 0)] M4
  refine eg_bipush dX11_sumInto_22 bp_7 ?_
  refine eg_iload_n 2 dX11_sumInto_24 rfl rfl ?_
  refine eg_iadd dX11_sumInto_25 ?_
  refine eg_aload_n 1 dX11_sumInto_26 rfl rfl ?_
  refine eg_getI dX11_sumInto_27 fl_11_190 rfl trivial (obM_60 z1) ?_
  refine en_iastore dX11_sumInto_30 (arM_97 z1 g1) (fun M6 eM6 => ?_)
  have h := h M6 eM6
  refine eg_iload_n 0 dX11_sumInto_31 rfl rfl ?_
  obtain ⟨g7, h⟩ := h
  exact eg_zreturn dX11_sumInto_32 rfl g7 h
theorem dX11_lawLine_0 : decode cX11_lawLine 0 = .ok (.aload_n 0, 1) := by decide +kernel
theorem dX11_lawLine_1 : decode cX11_lawLine 1 = .ok (.invokevirtual 178, 3) := by decide +kernel
theorem dX11_lawLine_4 : decode cX11_lawLine 4 = .ok (.aload_n 0, 1) := by decide +kernel
theorem dX11_lawLine_5 : decode cX11_lawLine 5 = .ok (.invokevirtual 272, 3) := by decide +kernel
theorem dX11_lawLine_8 : decode cX11_lawLine 8 = .ok (.istore_n 1, 1) := by decide +kernel
theorem dX11_lawLine_9 : decode cX11_lawLine 9 = .ok (.iload_n 1, 1) := by decide +kernel
theorem dX11_lawLine_10 : decode cX11_lawLine 10 = .ok (.ifCond .ge 5, 3) := by decide +kernel
theorem dX11_lawLine_13 : decode cX11_lawLine 13 = .ok (.iconst 0, 1) := by decide +kernel
theorem dX11_lawLine_14 : decode cX11_lawLine 14 = .ok (.ireturn, 1) := by decide +kernel
theorem dX11_lawLine_15 : decode cX11_lawLine 15 = .ok (.aload_n 0, 1) := by decide +kernel
theorem dX11_lawLine_16 : decode cX11_lawLine 16 = .ok (.getfield 50, 3) := by decide +kernel
theorem dX11_lawLine_19 : decode cX11_lawLine 19 = .ok (.iconst 3, 1) := by decide +kernel
theorem dX11_lawLine_20 : decode cX11_lawLine 20 = .ok (.iload_n 1, 1) := by decide +kernel
theorem dX11_lawLine_21 : decode cX11_lawLine 21 = .ok (.iadd, 1) := by decide +kernel
theorem dX11_lawLine_22 : decode cX11_lawLine 22 = .ok (.baload, 1) := by decide +kernel
theorem dX11_lawLine_23 : decode cX11_lawLine 23 = .ok (.ifCond .eq 9, 3) := by decide +kernel
theorem dX11_lawLine_26 : decode cX11_lawLine 26 = .ok (.aload_n 0, 1) := by decide +kernel
theorem dX11_lawLine_27 : decode cX11_lawLine 27 = .ok (.iconst 3, 1) := by decide +kernel
theorem dX11_lawLine_28 : decode cX11_lawLine 28 = .ok (.invokevirtual 168, 3) := by decide +kernel
theorem dX11_lawLine_31 : decode cX11_lawLine 31 = .ok (.ireturn, 1) := by decide +kernel
theorem dX11_lawLine_32 : decode cX11_lawLine 32 = .ok (.aload_n 0, 1) := by decide +kernel
theorem dX11_lawLine_33 : decode cX11_lawLine 33 = .ok (.getfield 50, 3) := by decide +kernel
theorem dX11_lawLine_36 : decode cX11_lawLine 36 = .ok (.iconst 3, 1) := by decide +kernel
theorem dX11_lawLine_37 : decode cX11_lawLine 37 = .ok (.iload_n 1, 1) := by decide +kernel
theorem dX11_lawLine_38 : decode cX11_lawLine 38 = .ok (.iadd, 1) := by decide +kernel
theorem dX11_lawLine_39 : decode cX11_lawLine 39 = .ok (.iconst 1, 1) := by decide +kernel
theorem dX11_lawLine_40 : decode cX11_lawLine 40 = .ok (.bastore, 1) := by decide +kernel
theorem dX11_lawLine_41 : decode cX11_lawLine 41 = .ok (.aload_n 0, 1) := by decide +kernel
theorem dX11_lawLine_42 : decode cX11_lawLine 42 = .ok (.invokevirtual 178, 3) := by decide +kernel
theorem dX11_lawLine_45 : decode cX11_lawLine 45 = .ok (.aload_n 0, 1) := by decide +kernel
theorem dX11_lawLine_46 : decode cX11_lawLine 46 = .ok (.iload_n 1, 1) := by decide +kernel
theorem dX11_lawLine_47 : decode cX11_lawLine 47 = .ok (.invokevirtual 276, 3) := by decide +kernel
theorem dX11_lawLine_50 : decode cX11_lawLine 50 = .ok (.ireturn, 1) := by decide +kernel
set_option maxRecDepth 10000 in
theorem vX11_lawLine_0 {κ : eg_K} {d : Nat} (hd : 2 ≤ d) {post : Int32 → eg_H → Prop} (M : eg_H)  (h : eCV κ gM mtX11_token d [vR (60, 0)] M (fun M1 => (∀ (x4 : Int32) (M3 : eg_H), (x4, M3) = fX11_lawKind M1 → (0 ≤ x4 → (vp_in ((3 : Int32) + x4) 6 ∧ ((M3.1 (98, 0) ((3 : Int32) + x4).toNatClampNeg) = 0 → (∀ M8 : eg_H, M8 = (sI M3 (98, 0) ((3 : Int32) + x4).toNatClampNeg (vp_nar .boolean (1 : Int32))) → eCV κ gM mtX11_token d [vR (60, 0)] M8 (fun M9 => eCI κ gM mtX11_sumInto d [vR (60, 0), vI x4] M9 (fun x11 M12 => ((x11 = 0 ∨ x11 = 1) ∧ post x11 M12))))) ∧ ((¬ (M3.1 (98, 0) ((3 : Int32) + x4).toNatClampNeg) = 0) → (∀ (x16 : Int32) (M15 : eg_H), (x16, M15) = fX11_wrong M3 (3 : Int32) → post x16 M15)))) ∧ ((¬ 0 ≤ x4) → post (0 : Int32) M3)))) : eg_W κ gM mtX11_lawLine d (eQI κ gM post) 0 [(0, vR (60, 0))] [] M := by
  refine eg_aload_n 0 dX11_lawLine_0 rfl rfl ?_
  obtain ⟨q2, hq2, h⟩ := h
  refine eg_callVV (av := []) (st := []) dX11_lawLine_1 ml_11_178 rfl rfl (obM_60 z1) (by decide) rfl (Nat.le_of_ble_eq_true rfl) (eg_dd (by omega)) hq2 (fun M1 hp => ?_)
  have h := h M1 hp
  refine eg_aload_n 0 dX11_lawLine_4 rfl rfl ?_
  refine eg_callVI (av := []) (st := []) dX11_lawLine_5 ml_11_272 rfl rfl (obM_60 z1) (by decide) rfl (Nat.le_of_ble_eq_true rfl) (eg_dd (by omega)) (sX11_lawKind (by omega) M1   ) (fun x4 M3 eM3 => ?_)
  have h := h x4 M3 eM3
  refine eg_istore_n dX11_lawLine_8 rfl (by decide) (ls1 := [(1, vI x4), (0, vR (60, 0))]) rfl ?_
  refine eg_iload_n 0 dX11_lawLine_9 rfl rfl ?_
  refine eg_if_ge (tgt := 15) dX11_lawLine_10 rfl (fun c5 => ?_) (fun c5 => ?_)
  · have h := h.1 c5
    refine eg_aload_n 1 dX11_lawLine_15 rfl rfl ?_
    refine eg_getR dX11_lawLine_16 fl_11_50 rfl rfl (obM_60 z1) ?_
    show eg_W κ gM mtX11_lawLine d (eQI κ gM post) 19 [(1, vI x4), (0, vR (60, 0))] [vR (98, 0)] M3
    refine eg_iconst dX11_lawLine_19 ic_3 ?_
    refine eg_iload_n 0 dX11_lawLine_20 rfl rfl ?_
    refine eg_iadd dX11_lawLine_21 ?_
    obtain ⟨g6, h⟩ := h
    refine eg_zaload dX11_lawLine_22 (arM_98 z1 g6) ?_
    refine eg_if_eq (tgt := 32) dX11_lawLine_23 rfl (fun c7 => ?_) (fun c7 => ?_)
    · have h := h.1 c7
      refine eg_aload_n 1 dX11_lawLine_32 rfl rfl ?_
      refine eg_getR dX11_lawLine_33 fl_11_50 rfl rfl (obM_60 z1) ?_
      show eg_W κ gM mtX11_lawLine d (eQI κ gM post) 36 [(1, vI x4), (0, vR (60, 0))] [vR (98, 0)] M3
      refine eg_iconst dX11_lawLine_36 ic_3 ?_
      refine eg_iload_n 0 dX11_lawLine_37 rfl rfl ?_
      refine eg_iadd dX11_lawLine_38 ?_
      refine eg_iconst dX11_lawLine_39 ic_1 ?_
      refine en_zastore dX11_lawLine_40 (arM_98 z1 g6) (fun M8 eM8 => ?_)
      have h := h M8 eM8
      refine eg_aload_n 1 dX11_lawLine_41 rfl rfl ?_
      obtain ⟨q10, hq10, h⟩ := h
      refine eg_callVV (av := []) (st := []) dX11_lawLine_42 ml_11_178 rfl rfl (obM_60 z1) (by decide) rfl (Nat.le_of_ble_eq_true rfl) (eg_dd (by omega)) hq10 (fun M9 hp => ?_)
      have h := h M9 hp
      refine eg_aload_n 1 dX11_lawLine_45 rfl rfl ?_
      refine eg_iload_n 0 dX11_lawLine_46 rfl rfl ?_
      obtain ⟨q13, hq13, h⟩ := h
      refine eg_callVI (av := [vI x4]) (st := []) dX11_lawLine_47 ml_11_276 rfl rfl (obM_60 z1) (by decide) rfl (Nat.le_of_ble_eq_true rfl) (eg_dd (by omega)) hq13 (fun x11 M12 hp => ?_)
      have h := h x11 M12 hp
      obtain ⟨g14, h⟩ := h
      exact eg_zreturn dX11_lawLine_50 rfl g14 h
    · have h := h.2 c7
      refine eg_aload_n 1 dX11_lawLine_26 rfl rfl ?_
      refine eg_iconst dX11_lawLine_27 ic_3 ?_
      refine eg_callVI (av := [vI (3 : Int32)]) (st := []) dX11_lawLine_28 ml_11_168 rfl rfl (obM_60 z1) (by decide) rfl (Nat.le_of_ble_eq_true rfl) (eg_dd (by omega)) (sX11_wrong (by omega) M3 (3 : Int32)  ) (fun x16 M15 eM15 => ?_)
      have h := h x16 M15 eM15
      exact eg_zreturn dX11_lawLine_31 rfl (show x16 = 0 ∨ x16 = 1 from by rw [show x16 = _ from congrArg Prod.fst eM15]; exact zX11_wrong M3 (3 : Int32)) h
  · have h := h.2 c5
    refine eg_iconst dX11_lawLine_13 ic_0 ?_
    exact eg_zreturn dX11_lawLine_14 rfl (Or.inl rfl) h
theorem dX11_mayLine_0 : decode cX11_mayLine 0 = .ok (.aload_n 0, 1) := by decide +kernel
theorem dX11_mayLine_1 : decode cX11_mayLine 1 = .ok (.getfield 187, 3) := by decide +kernel
theorem dX11_mayLine_4 : decode cX11_mayLine 4 = .ok (.iconst 4, 1) := by decide +kernel
theorem dX11_mayLine_5 : decode cX11_mayLine 5 = .ok (.if_icmp .ne 9, 3) := by decide +kernel
theorem dX11_mayLine_8 : decode cX11_mayLine 8 = .ok (.aload_n 0, 1) := by decide +kernel
theorem dX11_mayLine_9 : decode cX11_mayLine 9 = .ok (.iconst 2, 1) := by decide +kernel
theorem dX11_mayLine_10 : decode cX11_mayLine 10 = .ok (.invokevirtual 168, 3) := by decide +kernel
theorem dX11_mayLine_13 : decode cX11_mayLine 13 = .ok (.ireturn, 1) := by decide +kernel
theorem dX11_mayLine_14 : decode cX11_mayLine 14 = .ok (.aload_n 0, 1) := by decide +kernel
theorem dX11_mayLine_15 : decode cX11_mayLine 15 = .ok (.invokevirtual 178, 3) := by decide +kernel
theorem dX11_mayLine_18 : decode cX11_mayLine 18 = .ok (.aload_n 0, 1) := by decide +kernel
theorem dX11_mayLine_19 : decode cX11_mayLine 19 = .ok (.invokevirtual 272, 3) := by decide +kernel
theorem dX11_mayLine_22 : decode cX11_mayLine 22 = .ok (.istore_n 1, 1) := by decide +kernel
theorem dX11_mayLine_23 : decode cX11_mayLine 23 = .ok (.iload_n 1, 1) := by decide +kernel
theorem dX11_mayLine_24 : decode cX11_mayLine 24 = .ok (.ifCond .ge 5, 3) := by decide +kernel
theorem dX11_mayLine_27 : decode cX11_mayLine 27 = .ok (.iconst 0, 1) := by decide +kernel
theorem dX11_mayLine_28 : decode cX11_mayLine 28 = .ok (.ireturn, 1) := by decide +kernel
theorem dX11_mayLine_29 : decode cX11_mayLine 29 = .ok (.aload_n 0, 1) := by decide +kernel
theorem dX11_mayLine_30 : decode cX11_mayLine 30 = .ok (.invokevirtual 178, 3) := by decide +kernel
theorem dX11_mayLine_33 : decode cX11_mayLine 33 = .ok (.aload_n 0, 1) := by decide +kernel
theorem dX11_mayLine_34 : decode cX11_mayLine 34 = .ok (.aload_n 0, 1) := by decide +kernel
theorem dX11_mayLine_35 : decode cX11_mayLine 35 = .ok (.getfield 38, 3) := by decide +kernel
theorem dX11_mayLine_38 : decode cX11_mayLine 38 = .ok (.iconst 4, 1) := by decide +kernel
theorem dX11_mayLine_39 : decode cX11_mayLine 39 = .ok (.aload_n 0, 1) := by decide +kernel
theorem dX11_mayLine_40 : decode cX11_mayLine 40 = .ok (.getfield 187, 3) := by decide +kernel
theorem dX11_mayLine_43 : decode cX11_mayLine 43 = .ok (.invokevirtual 257, 3) := by decide +kernel
theorem dX11_mayLine_46 : decode cX11_mayLine 46 = .ok (.ifCond .ne 5, 3) := by decide +kernel
theorem dX11_mayLine_49 : decode cX11_mayLine 49 = .ok (.iconst 0, 1) := by decide +kernel
theorem dX11_mayLine_50 : decode cX11_mayLine 50 = .ok (.ireturn, 1) := by decide +kernel
theorem dX11_mayLine_51 : decode cX11_mayLine 51 = .ok (.aload_n 0, 1) := by decide +kernel
theorem dX11_mayLine_52 : decode cX11_mayLine 52 = .ok (.getfield 41, 3) := by decide +kernel
theorem dX11_mayLine_55 : decode cX11_mayLine 55 = .ok (.iconst 4, 1) := by decide +kernel
theorem dX11_mayLine_56 : decode cX11_mayLine 56 = .ok (.aload_n 0, 1) := by decide +kernel
theorem dX11_mayLine_57 : decode cX11_mayLine 57 = .ok (.getfield 187, 3) := by decide +kernel
theorem dX11_mayLine_60 : decode cX11_mayLine 60 = .ok (.iadd, 1) := by decide +kernel
theorem dX11_mayLine_61 : decode cX11_mayLine 61 = .ok (.iload_n 1, 1) := by decide +kernel
theorem dX11_mayLine_62 : decode cX11_mayLine 62 = .ok (.iastore, 1) := by decide +kernel
theorem dX11_mayLine_63 : decode cX11_mayLine 63 = .ok (.aload_n 0, 1) := by decide +kernel
theorem dX11_mayLine_64 : decode cX11_mayLine 64 = .ok (.dup, 1) := by decide +kernel
theorem dX11_mayLine_65 : decode cX11_mayLine 65 = .ok (.getfield 187, 3) := by decide +kernel
theorem dX11_mayLine_68 : decode cX11_mayLine 68 = .ok (.iconst 1, 1) := by decide +kernel
theorem dX11_mayLine_69 : decode cX11_mayLine 69 = .ok (.iadd, 1) := by decide +kernel
theorem dX11_mayLine_70 : decode cX11_mayLine 70 = .ok (.putfield 187, 3) := by decide +kernel
theorem dX11_mayLine_73 : decode cX11_mayLine 73 = .ok (.aload_n 0, 1) := by decide +kernel
theorem dX11_mayLine_74 : decode cX11_mayLine 74 = .ok (.iconst 2, 1) := by decide +kernel
theorem dX11_mayLine_75 : decode cX11_mayLine 75 = .ok (.aload_n 0, 1) := by decide +kernel
theorem dX11_mayLine_76 : decode cX11_mayLine 76 = .ok (.getfield 187, 3) := by decide +kernel
theorem dX11_mayLine_79 : decode cX11_mayLine 79 = .ok (.iadd, 1) := by decide +kernel
theorem dX11_mayLine_80 : decode cX11_mayLine 80 = .ok (.invokevirtual 276, 3) := by decide +kernel
theorem dX11_mayLine_83 : decode cX11_mayLine 83 = .ok (.ireturn, 1) := by decide +kernel
set_option maxRecDepth 10000 in
theorem vX11_mayLine_0 {κ : eg_K} {d : Nat} (hd : 2 ≤ d) {post : Int32 → eg_H → Prop} (M : eg_H)  (h : ((¬ (M.1 (60, 0) 21) = (4 : Int32)) → eCV κ gM mtX11_token d [vR (60, 0)] M (fun M2 => (∀ (x5 : Int32) (M4 : eg_H), (x5, M4) = fX11_lawKind M2 → (0 ≤ x5 → eCV κ gM mtX11_token d [vR (60, 0)] M4 (fun M7 => eCI κ gM mtX11_newName d [vR (60, 0), vR (94, 0), vI (4 : Int32), vI (M7.1 (60, 0) 21)] M7 (fun x9 M10 => ((¬ x9 = 0) → (vp_in ((4 : Int32) + (M10.1 (60, 0) 21)) 8 ∧ (∀ M14 : eg_H, M14 = (sI M10 (95, 0) ((4 : Int32) + (M10.1 (60, 0) 21)).toNatClampNeg x5) → (∀ M15 : eg_H, M15 = (sI M14 (60, 0) 21 ((M14.1 (60, 0) 21) + (1 : Int32))) → eCI κ gM mtX11_sumInto d [vR (60, 0), vI ((2 : Int32) + (M15.1 (60, 0) 21))] M15 (fun x16 M17 => ((x16 = 0 ∨ x16 = 1) ∧ post x16 M17)))))) ∧ (x9 = 0 → post (0 : Int32) M10)))) ∧ ((¬ 0 ≤ x5) → post (0 : Int32) M4)))) ∧ ((M.1 (60, 0) 21) = (4 : Int32) → (∀ (x21 : Int32) (M20 : eg_H), (x21, M20) = fX11_wrong M (2 : Int32) → post x21 M20))) : eg_W κ gM mtX11_mayLine d (eQI κ gM post) 0 [(0, vR (60, 0))] [] M := by
  refine eg_aload_n 0 dX11_mayLine_0 rfl rfl ?_
  refine eg_getI dX11_mayLine_1 fl_11_187 rfl trivial (obM_60 z1) ?_
  refine eg_iconst dX11_mayLine_4 ic_4 ?_
  refine eg_icmp_ne (tgt := 14) dX11_mayLine_5 rfl (fun c1 => ?_) (fun c1 => ?_)
  · have h := h.1 c1
    refine eg_aload_n 0 dX11_mayLine_14 rfl rfl ?_
    obtain ⟨q3, hq3, h⟩ := h
    refine eg_callVV (av := []) (st := []) dX11_mayLine_15 ml_11_178 rfl rfl (obM_60 z1) (by decide) rfl (Nat.le_of_ble_eq_true rfl) (eg_dd (by omega)) hq3 (fun M2 hp => ?_)
    have h := h M2 hp
    refine eg_aload_n 0 dX11_mayLine_18 rfl rfl ?_
    refine eg_callVI (av := []) (st := []) dX11_mayLine_19 ml_11_272 rfl rfl (obM_60 z1) (by decide) rfl (Nat.le_of_ble_eq_true rfl) (eg_dd (by omega)) (sX11_lawKind (by omega) M2   ) (fun x5 M4 eM4 => ?_)
    have h := h x5 M4 eM4
    refine eg_istore_n dX11_mayLine_22 rfl (by decide) (ls1 := [(1, vI x5), (0, vR (60, 0))]) rfl ?_
    refine eg_iload_n 0 dX11_mayLine_23 rfl rfl ?_
    refine eg_if_ge (tgt := 29) dX11_mayLine_24 rfl (fun c6 => ?_) (fun c6 => ?_)
    · have h := h.1 c6
      refine eg_aload_n 1 dX11_mayLine_29 rfl rfl ?_
      obtain ⟨q8, hq8, h⟩ := h
      refine eg_callVV (av := []) (st := []) dX11_mayLine_30 ml_11_178 rfl rfl (obM_60 z1) (by decide) rfl (Nat.le_of_ble_eq_true rfl) (eg_dd (by omega)) hq8 (fun M7 hp => ?_)
      have h := h M7 hp
      refine eg_aload_n 1 dX11_mayLine_33 rfl rfl ?_
      refine eg_aload_n 1 dX11_mayLine_34 rfl rfl ?_
      refine eg_getR dX11_mayLine_35 fl_11_38 rfl rfl (obM_60 z1) ?_
      show eg_W κ gM mtX11_mayLine d (eQI κ gM post) 38 [(1, vI x5), (0, vR (60, 0))] [vR (94, 0), vR (60, 0)] M7
      refine eg_iconst dX11_mayLine_38 ic_4 ?_
      refine eg_aload_n 1 dX11_mayLine_39 rfl rfl ?_
      refine eg_getI dX11_mayLine_40 fl_11_187 rfl trivial (obM_60 z1) ?_
      obtain ⟨q11, hq11, h⟩ := h
      refine eg_callVI (av := [vR (94, 0), vI (4 : Int32), vI (M7.1 (60, 0) 21)]) (st := []) dX11_mayLine_43 ml_11_257 rfl rfl (obM_60 z1) (by decide) rfl (Nat.le_of_ble_eq_true rfl) (eg_dd (by omega)) hq11 (fun x9 M10 hp => ?_)
      have h := h x9 M10 hp
      refine eg_if_ne (tgt := 51) dX11_mayLine_46 rfl (fun c12 => ?_) (fun c12 => ?_)
      · have h := h.1 c12
        refine eg_aload_n 1 dX11_mayLine_51 rfl rfl ?_
        refine eg_getR dX11_mayLine_52 fl_11_41 rfl rfl (obM_60 z1) ?_
        show eg_W κ gM mtX11_mayLine d (eQI κ gM post) 55 [(1, vI x5), (0, vR (60, 0))] [vR (95, 0)] M10
        refine eg_iconst dX11_mayLine_55 ic_4 ?_
        refine eg_aload_n 1 dX11_mayLine_56 rfl rfl ?_
        refine eg_getI dX11_mayLine_57 fl_11_187 rfl trivial (obM_60 z1) ?_
        refine eg_iadd dX11_mayLine_60 ?_
        refine eg_iload_n 0 dX11_mayLine_61 rfl rfl ?_
        obtain ⟨g13, h⟩ := h
        refine en_iastore dX11_mayLine_62 (arM_95 z1 g13) (fun M14 eM14 => ?_)
        have h := h M14 eM14
        refine eg_aload_n 1 dX11_mayLine_63 rfl rfl ?_
        refine eg_dup dX11_mayLine_64 rfl ?_
        refine eg_getI dX11_mayLine_65 fl_11_187 rfl trivial (obM_60 z1) ?_
        refine eg_iconst dX11_mayLine_68 ic_1 ?_
        refine eg_iadd dX11_mayLine_69 ?_
        refine en_putI dX11_mayLine_70 fl_11_187 rfl rfl (obM_60 z1) (fun M15 eM15 => ?_)
        have h := h M15 eM15
        refine eg_aload_n 1 dX11_mayLine_73 rfl rfl ?_
        refine eg_iconst dX11_mayLine_74 ic_2 ?_
        refine eg_aload_n 1 dX11_mayLine_75 rfl rfl ?_
        refine eg_getI dX11_mayLine_76 fl_11_187 rfl trivial (obM_60 z1) ?_
        refine eg_iadd dX11_mayLine_79 ?_
        obtain ⟨q18, hq18, h⟩ := h
        refine eg_callVI (av := [vI ((2 : Int32) + (M15.1 (60, 0) 21))]) (st := []) dX11_mayLine_80 ml_11_276 rfl rfl (obM_60 z1) (by decide) rfl (Nat.le_of_ble_eq_true rfl) (eg_dd (by omega)) hq18 (fun x16 M17 hp => ?_)
        have h := h x16 M17 hp
        obtain ⟨g19, h⟩ := h
        exact eg_zreturn dX11_mayLine_83 rfl g19 h
      · have h := h.2 c12
        refine eg_iconst dX11_mayLine_49 ic_0 ?_
        exact eg_zreturn dX11_mayLine_50 rfl (Or.inl rfl) h
    · have h := h.2 c6
      refine eg_iconst dX11_mayLine_27 ic_0 ?_
      exact eg_zreturn dX11_mayLine_28 rfl (Or.inl rfl) h
  · have h := h.2 c1
    refine eg_aload_n 0 dX11_mayLine_8 rfl rfl ?_
    refine eg_iconst dX11_mayLine_9 ic_2 ?_
    refine eg_callVI (av := [vI (2 : Int32)]) (st := []) dX11_mayLine_10 ml_11_168 rfl rfl (obM_60 z1) (by decide) rfl (Nat.le_of_ble_eq_true rfl) (eg_dd (by omega)) (sX11_wrong (by omega) M (2 : Int32)  ) (fun x21 M20 eM20 => ?_)
    have h := h x21 M20 eM20
    exact eg_zreturn dX11_mayLine_13 rfl (show x21 = 0 ∨ x21 = 1 from by rw [show x21 = _ from congrArg Prod.fst eM20]; exact zX11_wrong M (2 : Int32)) h
theorem dX11_lineRead_0 : decode cX11_lineRead 0 = .ok (.aload_n 0, 1) := by decide +kernel
theorem dX11_lineRead_1 : decode cX11_lineRead 1 = .ok (.getfield 145, 3) := by decide +kernel
theorem dX11_lineRead_4 : decode cX11_lineRead 4 = .ok (.iconst 1, 1) := by decide +kernel
theorem dX11_lineRead_5 : decode cX11_lineRead 5 = .ok (.if_icmp .ne 12, 3) := by decide +kernel
theorem dX11_lineRead_8 : decode cX11_lineRead 8 = .ok (.aload_n 0, 1) := by decide +kernel
theorem dX11_lineRead_9 : decode cX11_lineRead 9 = .ok (.getfield 156, 3) := by decide +kernel
theorem dX11_lineRead_12 : decode cX11_lineRead 12 = .ok (.bipush 6, 2) := by decide +kernel
theorem dX11_lineRead_14 : decode cX11_lineRead 14 = .ok (.if_icmp .le 9, 3) := by decide +kernel
theorem dX11_lineRead_17 : decode cX11_lineRead 17 = .ok (.aload_n 0, 1) := by decide +kernel
theorem dX11_lineRead_18 : decode cX11_lineRead 18 = .ok (.iconst 1, 1) := by decide +kernel
theorem dX11_lineRead_19 : decode cX11_lineRead 19 = .ok (.invokevirtual 168, 3) := by decide +kernel
theorem dX11_lineRead_22 : decode cX11_lineRead 22 = .ok (.ireturn, 1) := by decide +kernel
theorem dX11_lineRead_23 : decode cX11_lineRead 23 = .ok (.iconst 1, 1) := by decide +kernel
theorem dX11_lineRead_24 : decode cX11_lineRead 24 = .ok (.istore_n 1, 1) := by decide +kernel
theorem dX11_lineRead_25 : decode cX11_lineRead 25 = .ok (.aload_n 0, 1) := by decide +kernel
theorem dX11_lineRead_26 : decode cX11_lineRead 26 = .ok (.getfield 156, 3) := by decide +kernel
theorem dX11_lineRead_29 : decode cX11_lineRead 29 = .ok (.tableswitch 167 0 5 #[39, 47, 55, 80, 117, 159], 39) := by decide +kernel
theorem dX11_lineRead_68 : decode cX11_lineRead 68 = .ok (.aload_n 0, 1) := by decide +kernel
theorem dX11_lineRead_69 : decode cX11_lineRead 69 = .ok (.invokevirtual 279, 3) := by decide +kernel
theorem dX11_lineRead_72 : decode cX11_lineRead 72 = .ok (.istore_n 1, 1) := by decide +kernel
theorem dX11_lineRead_73 : decode cX11_lineRead 73 = .ok (.goto 128, 3) := by decide +kernel
theorem dX11_lineRead_76 : decode cX11_lineRead 76 = .ok (.aload_n 0, 1) := by decide +kernel
theorem dX11_lineRead_77 : decode cX11_lineRead 77 = .ok (.invokevirtual 282, 3) := by decide +kernel
theorem dX11_lineRead_80 : decode cX11_lineRead 80 = .ok (.istore_n 1, 1) := by decide +kernel
theorem dX11_lineRead_81 : decode cX11_lineRead 81 = .ok (.goto 120, 3) := by decide +kernel
theorem dX11_lineRead_84 : decode cX11_lineRead 84 = .ok (.aload_n 0, 1) := by decide +kernel
theorem dX11_lineRead_85 : decode cX11_lineRead 85 = .ok (.getfield 196, 3) := by decide +kernel
theorem dX11_lineRead_88 : decode cX11_lineRead 88 = .ok (.ifCond .eq 9, 3) := by decide +kernel
theorem dX11_lineRead_91 : decode cX11_lineRead 91 = .ok (.aload_n 0, 1) := by decide +kernel
theorem dX11_lineRead_92 : decode cX11_lineRead 92 = .ok (.iconst 3, 1) := by decide +kernel
theorem dX11_lineRead_93 : decode cX11_lineRead 93 = .ok (.invokevirtual 168, 3) := by decide +kernel
theorem dX11_lineRead_96 : decode cX11_lineRead 96 = .ok (.ireturn, 1) := by decide +kernel
theorem dX11_lineRead_97 : decode cX11_lineRead 97 = .ok (.aload_n 0, 1) := by decide +kernel
theorem dX11_lineRead_98 : decode cX11_lineRead 98 = .ok (.iconst 1, 1) := by decide +kernel
theorem dX11_lineRead_99 : decode cX11_lineRead 99 = .ok (.putfield 196, 3) := by decide +kernel
theorem dX11_lineRead_102 : decode cX11_lineRead 102 = .ok (.aload_n 0, 1) := by decide +kernel
theorem dX11_lineRead_103 : decode cX11_lineRead 103 = .ok (.invokevirtual 178, 3) := by decide +kernel
theorem dX11_lineRead_106 : decode cX11_lineRead 106 = .ok (.goto 95, 3) := by decide +kernel
theorem dX11_lineRead_109 : decode cX11_lineRead 109 = .ok (.aload_n 0, 1) := by decide +kernel
theorem dX11_lineRead_110 : decode cX11_lineRead 110 = .ok (.getfield 200, 3) := by decide +kernel
theorem dX11_lineRead_113 : decode cX11_lineRead 113 = .ok (.ifCond .le 9, 3) := by decide +kernel
theorem dX11_lineRead_116 : decode cX11_lineRead 116 = .ok (.aload_n 0, 1) := by decide +kernel
theorem dX11_lineRead_117 : decode cX11_lineRead 117 = .ok (.iconst 3, 1) := by decide +kernel
theorem dX11_lineRead_118 : decode cX11_lineRead 118 = .ok (.invokevirtual 168, 3) := by decide +kernel
theorem dX11_lineRead_121 : decode cX11_lineRead 121 = .ok (.ireturn, 1) := by decide +kernel
theorem dX11_lineRead_122 : decode cX11_lineRead 122 = .ok (.aload_n 0, 1) := by decide +kernel
theorem dX11_lineRead_123 : decode cX11_lineRead 123 = .ok (.invokevirtual 178, 3) := by decide +kernel
theorem dX11_lineRead_126 : decode cX11_lineRead 126 = .ok (.aload_n 0, 1) := by decide +kernel
theorem dX11_lineRead_127 : decode cX11_lineRead 127 = .ok (.iconst 1, 1) := by decide +kernel
theorem dX11_lineRead_128 : decode cX11_lineRead 128 = .ok (.sipush 1800, 3) := by decide +kernel
theorem dX11_lineRead_131 : decode cX11_lineRead 131 = .ok (.invokevirtual 261, 3) := by decide +kernel
theorem dX11_lineRead_134 : decode cX11_lineRead 134 = .ok (.istore_n 1, 1) := by decide +kernel
theorem dX11_lineRead_135 : decode cX11_lineRead 135 = .ok (.aload_n 0, 1) := by decide +kernel
theorem dX11_lineRead_136 : decode cX11_lineRead 136 = .ok (.aload_n 0, 1) := by decide +kernel
theorem dX11_lineRead_137 : decode cX11_lineRead 137 = .ok (.getfield 175, 3) := by decide +kernel
theorem dX11_lineRead_140 : decode cX11_lineRead 140 = .ok (.putfield 200, 3) := by decide +kernel
theorem dX11_lineRead_143 : decode cX11_lineRead 143 = .ok (.goto 58, 3) := by decide +kernel
theorem dX11_lineRead_146 : decode cX11_lineRead 146 = .ok (.aload_n 0, 1) := by decide +kernel
theorem dX11_lineRead_147 : decode cX11_lineRead 147 = .ok (.getfield 206, 3) := by decide +kernel
theorem dX11_lineRead_150 : decode cX11_lineRead 150 = .ok (.ifCond .eq 9, 3) := by decide +kernel
theorem dX11_lineRead_153 : decode cX11_lineRead 153 = .ok (.aload_n 0, 1) := by decide +kernel
theorem dX11_lineRead_154 : decode cX11_lineRead 154 = .ok (.iconst 3, 1) := by decide +kernel
theorem dX11_lineRead_155 : decode cX11_lineRead 155 = .ok (.invokevirtual 168, 3) := by decide +kernel
theorem dX11_lineRead_158 : decode cX11_lineRead 158 = .ok (.ireturn, 1) := by decide +kernel
theorem dX11_lineRead_159 : decode cX11_lineRead 159 = .ok (.aload_n 0, 1) := by decide +kernel
theorem dX11_lineRead_160 : decode cX11_lineRead 160 = .ok (.iconst 1, 1) := by decide +kernel
theorem dX11_lineRead_161 : decode cX11_lineRead 161 = .ok (.putfield 206, 3) := by decide +kernel
theorem dX11_lineRead_164 : decode cX11_lineRead 164 = .ok (.aload_n 0, 1) := by decide +kernel
theorem dX11_lineRead_165 : decode cX11_lineRead 165 = .ok (.invokevirtual 178, 3) := by decide +kernel
theorem dX11_lineRead_168 : decode cX11_lineRead 168 = .ok (.aload_n 0, 1) := by decide +kernel
theorem dX11_lineRead_169 : decode cX11_lineRead 169 = .ok (.iconst 0, 1) := by decide +kernel
theorem dX11_lineRead_170 : decode cX11_lineRead 170 = .ok (.sipush 3600, 3) := by decide +kernel
theorem dX11_lineRead_173 : decode cX11_lineRead 173 = .ok (.invokevirtual 261, 3) := by decide +kernel
theorem dX11_lineRead_176 : decode cX11_lineRead 176 = .ok (.istore_n 1, 1) := by decide +kernel
theorem dX11_lineRead_177 : decode cX11_lineRead 177 = .ok (.aload_n 0, 1) := by decide +kernel
theorem dX11_lineRead_178 : decode cX11_lineRead 178 = .ok (.aload_n 0, 1) := by decide +kernel
theorem dX11_lineRead_179 : decode cX11_lineRead 179 = .ok (.getfield 175, 3) := by decide +kernel
theorem dX11_lineRead_182 : decode cX11_lineRead 182 = .ok (.putfield 203, 3) := by decide +kernel
theorem dX11_lineRead_185 : decode cX11_lineRead 185 = .ok (.goto 16, 3) := by decide +kernel
theorem dX11_lineRead_188 : decode cX11_lineRead 188 = .ok (.aload_n 0, 1) := by decide +kernel
theorem dX11_lineRead_189 : decode cX11_lineRead 189 = .ok (.invokevirtual 285, 3) := by decide +kernel
theorem dX11_lineRead_192 : decode cX11_lineRead 192 = .ok (.istore_n 1, 1) := by decide +kernel
theorem dX11_lineRead_193 : decode cX11_lineRead 193 = .ok (.goto 8, 3) := by decide +kernel
theorem dX11_lineRead_196 : decode cX11_lineRead 196 = .ok (.aload_n 0, 1) := by decide +kernel
theorem dX11_lineRead_197 : decode cX11_lineRead 197 = .ok (.invokevirtual 288, 3) := by decide +kernel
theorem dX11_lineRead_200 : decode cX11_lineRead 200 = .ok (.istore_n 1, 1) := by decide +kernel
theorem dX11_lineRead_201 : decode cX11_lineRead 201 = .ok (.iload_n 1, 1) := by decide +kernel
theorem dX11_lineRead_202 : decode cX11_lineRead 202 = .ok (.ifCond .ne 5, 3) := by decide +kernel
theorem dX11_lineRead_205 : decode cX11_lineRead 205 = .ok (.iconst 0, 1) := by decide +kernel
theorem dX11_lineRead_206 : decode cX11_lineRead 206 = .ok (.ireturn, 1) := by decide +kernel
theorem dX11_lineRead_207 : decode cX11_lineRead 207 = .ok (.aload_n 0, 1) := by decide +kernel
theorem dX11_lineRead_208 : decode cX11_lineRead 208 = .ok (.bipush 59, 2) := by decide +kernel
theorem dX11_lineRead_210 : decode cX11_lineRead 210 = .ok (.invokevirtual 291, 3) := by decide +kernel
theorem dX11_lineRead_213 : decode cX11_lineRead 213 = .ok (.ifCond .ne 9, 3) := by decide +kernel
theorem dX11_lineRead_216 : decode cX11_lineRead 216 = .ok (.aload_n 0, 1) := by decide +kernel
theorem dX11_lineRead_217 : decode cX11_lineRead 217 = .ok (.iconst 1, 1) := by decide +kernel
theorem dX11_lineRead_218 : decode cX11_lineRead 218 = .ok (.invokevirtual 168, 3) := by decide +kernel
theorem dX11_lineRead_221 : decode cX11_lineRead 221 = .ok (.ireturn, 1) := by decide +kernel
theorem dX11_lineRead_222 : decode cX11_lineRead 222 = .ok (.aload_n 0, 1) := by decide +kernel
theorem dX11_lineRead_223 : decode cX11_lineRead 223 = .ok (.invokevirtual 178, 3) := by decide +kernel
theorem dX11_lineRead_226 : decode cX11_lineRead 226 = .ok (.iconst 1, 1) := by decide +kernel
theorem dX11_lineRead_227 : decode cX11_lineRead 227 = .ok (.ireturn, 1) := by decide +kernel
set_option maxRecDepth 10000 in
theorem vX11_lineRead_0 {κ : eg_K} {d : Nat} (hd : 1 ≤ d) {post : Int32 → eg_H → Prop} (M : eg_H)  (h : ((¬ (M.1 (60, 0) 8) = (1 : Int32)) → (∀ (x3 : Int32) (M2 : eg_H), (x3, M2) = fX11_wrong M (1 : Int32) → post x3 M2)) ∧ ((M.1 (60, 0) 8) = (1 : Int32) → ((M.1 (60, 0) 9) ≤ (6 : Int32) → ((¬ (M.1 (60, 0) 9) = (0 : Int32)) → (¬ (M.1 (60, 0) 9) = (1 : Int32)) → (¬ (M.1 (60, 0) 9) = (2 : Int32)) → (¬ (M.1 (60, 0) 9) = (3 : Int32)) → (¬ (M.1 (60, 0) 9) = (4 : Int32)) → (¬ (M.1 (60, 0) 9) = (5 : Int32)) → eCI κ gM mtX11_mayLine d [vR (60, 0)] M (fun x5 M6 => eg_W κ gM mtX11_lineRead d (eQI κ gM post) 201 [(0, vR (60, 0)), (1, vI x5)] [] M6)) ∧ ((M.1 (60, 0) 9) = (0 : Int32) → eCI κ gM mtX11_stationLine d [vR (60, 0)] M (fun x8 M9 => eg_W κ gM mtX11_lineRead d (eQI κ gM post) 201 [(0, vR (60, 0)), (1, vI x8)] [] M9)) ∧ ((M.1 (60, 0) 9) = (1 : Int32) → eCI κ gM mtX11_guestLine d [vR (60, 0)] M (fun x11 M12 => eg_W κ gM mtX11_lineRead d (eQI κ gM post) 201 [(0, vR (60, 0)), (1, vI x11)] [] M12)) ∧ ((M.1 (60, 0) 9) = (2 : Int32) → ((M.1 (60, 0) 23) = 0 → (∀ M15 : eg_H, M15 = (sI M (60, 0) 23 (1 : Int32)) → eCV κ gM mtX11_token d [vR (60, 0)] M15 (fun M16 => eg_W κ gM mtX11_lineRead d (eQI κ gM post) 201 [(0, vR (60, 0)), (1, vI (1 : Int32))] [] M16))) ∧ ((¬ (M.1 (60, 0) 23) = 0) → (∀ (x19 : Int32) (M18 : eg_H), (x19, M18) = fX11_wrong M (3 : Int32) → post x19 M18))) ∧ ((M.1 (60, 0) 9) = (3 : Int32) → ((M.1 (60, 0) 24) ≤ 0 → eCV κ gM mtX11_token d [vR (60, 0)] M (fun M21 => eCI κ gM mtX11_number d [vR (60, 0), vI (1 : Int32), vI (1800 : Int32)] M21 (fun x23 M24 => (∀ M26 : eg_H, M26 = (sI M24 (60, 0) 24 (M24.1 (60, 0) 11)) → eg_W κ gM mtX11_lineRead d (eQI κ gM post) 201 [(0, vR (60, 0)), (1, vI x23)] [] M26)))) ∧ ((¬ (M.1 (60, 0) 24) ≤ 0) → (∀ (x28 : Int32) (M27 : eg_H), (x28, M27) = fX11_wrong M (3 : Int32) → post x28 M27))) ∧ ((M.1 (60, 0) 9) = (4 : Int32) → ((M.1 (60, 0) 26) = 0 → (∀ M30 : eg_H, M30 = (sI M (60, 0) 26 (1 : Int32)) → eCV κ gM mtX11_token d [vR (60, 0)] M30 (fun M31 => eCI κ gM mtX11_number d [vR (60, 0), vI (0 : Int32), vI (3600 : Int32)] M31 (fun x33 M34 => (∀ M36 : eg_H, M36 = (sI M34 (60, 0) 25 (M34.1 (60, 0) 11)) → eg_W κ gM mtX11_lineRead d (eQI κ gM post) 201 [(0, vR (60, 0)), (1, vI x33)] [] M36))))) ∧ ((¬ (M.1 (60, 0) 26) = 0) → (∀ (x38 : Int32) (M37 : eg_H), (x38, M37) = fX11_wrong M (3 : Int32) → post x38 M37))) ∧ ((M.1 (60, 0) 9) = (5 : Int32) → eCI κ gM mtX11_lawLine d [vR (60, 0)] M (fun x39 M40 => eg_W κ gM mtX11_lineRead d (eQI κ gM post) 201 [(0, vR (60, 0)), (1, vI x39)] [] M40))) ∧ ((¬ (M.1 (60, 0) 9) ≤ (6 : Int32)) → (∀ (x43 : Int32) (M42 : eg_H), (x43, M42) = fX11_wrong M (1 : Int32) → post x43 M42)))) : eg_W κ gM mtX11_lineRead d (eQI κ gM post) 0 [(0, vR (60, 0))] [] M := by
  refine eg_aload_n 0 dX11_lineRead_0 rfl rfl ?_
  refine eg_getI dX11_lineRead_1 fl_11_145 rfl trivial (obM_60 z1) ?_
  refine eg_iconst dX11_lineRead_4 ic_1 ?_
  refine eg_icmp_ne (tgt := 17) dX11_lineRead_5 rfl (fun c1 => ?_) (fun c1 => ?_)
  · have h := h.1 c1
    refine eg_aload_n 0 dX11_lineRead_17 rfl rfl ?_
    refine eg_iconst dX11_lineRead_18 ic_1 ?_
    refine eg_callVI (av := [vI (1 : Int32)]) (st := []) dX11_lineRead_19 ml_11_168 rfl rfl (obM_60 z1) (by decide) rfl (Nat.le_of_ble_eq_true rfl) (eg_dd (by omega)) (sX11_wrong (by omega) M (1 : Int32)  ) (fun x3 M2 eM2 => ?_)
    have h := h x3 M2 eM2
    exact eg_zreturn dX11_lineRead_22 rfl (show x3 = 0 ∨ x3 = 1 from by rw [show x3 = _ from congrArg Prod.fst eM2]; exact zX11_wrong M (1 : Int32)) h
  · have h := h.2 c1
    refine eg_aload_n 0 dX11_lineRead_8 rfl rfl ?_
    refine eg_getI dX11_lineRead_9 fl_11_156 rfl trivial (obM_60 z1) ?_
    refine eg_bipush dX11_lineRead_12 bp_6 ?_
    refine eg_icmp_le (tgt := 23) dX11_lineRead_14 rfl (fun c4 => ?_) (fun c4 => ?_)
    · have h := h.1 c4
      refine eg_iconst dX11_lineRead_23 ic_1 ?_
      refine eg_istore_n dX11_lineRead_24 rfl (by decide) (ls1 := [(1, vI (1 : Int32)), (0, vR (60, 0))]) rfl ?_
      refine eg_aload_n 1 dX11_lineRead_25 rfl rfl ?_
      refine eg_getI dX11_lineRead_26 fl_11_156 rfl trivial (obM_60 z1) ?_
      have J : (¬ (M.1 (60, 0) 9) = (0 : Int32)) → (¬ (M.1 (60, 0) 9) = (1 : Int32)) → (¬ (M.1 (60, 0) 9) = (2 : Int32)) → (¬ (M.1 (60, 0) 9) = (3 : Int32)) → (¬ (M.1 (60, 0) 9) = (4 : Int32)) → (¬ (M.1 (60, 0) 9) = (5 : Int32)) → eg_W κ gM mtX11_lineRead d (eQI κ gM post) 196 [(1, vI (1 : Int32)), (0, vR (60, 0))] [] M := by
        intro c0_ c1_ c2_ c3_ c4_ c5_
        have h := h.1 c0_ c1_ c2_ c3_ c4_ c5_
        refine eg_aload_n 1 dX11_lineRead_196 rfl rfl ?_
        obtain ⟨q7, hq7, h⟩ := h
        refine eg_callVI (av := []) (st := []) dX11_lineRead_197 ml_11_288 rfl rfl (obM_60 z1) (by decide) rfl (Nat.le_of_ble_eq_true rfl) (eg_dd (by omega)) hq7 (fun x5 M6 hp => ?_)
        have h := h x5 M6 hp
        refine eg_istore_n dX11_lineRead_200 rfl (by decide) (ls1 := [(1, vI x5), (0, vR (60, 0))]) rfl ?_
        refine eg_sub [1, 0] rfl ?_
        exact h
      by_cases c0_ : (M.1 (60, 0) 9) = (0 : Int32)
      · refine eg_tabI (tgt := 68) dX11_lineRead_29 (by rw [c0_]; decide) (by rw [c0_]; decide) (off := 39) (by rw [c0_]; rfl) rfl ?_
        have h := h.2.1 c0_
        refine eg_aload_n 1 dX11_lineRead_68 rfl rfl ?_
        obtain ⟨q10, hq10, h⟩ := h
        refine eg_callVI (av := []) (st := []) dX11_lineRead_69 ml_11_279 rfl rfl (obM_60 z1) (by decide) rfl (Nat.le_of_ble_eq_true rfl) (eg_dd (by omega)) hq10 (fun x8 M9 hp => ?_)
        have h := h x8 M9 hp
        refine eg_istore_n dX11_lineRead_72 rfl (by decide) (ls1 := [(1, vI x8), (0, vR (60, 0))]) rfl ?_
        refine eg_goto (tgt := 201) dX11_lineRead_73 rfl ?_
        refine eg_sub [1, 0] rfl ?_
        exact h
      by_cases c1_ : (M.1 (60, 0) 9) = (1 : Int32)
      · refine eg_tabI (tgt := 76) dX11_lineRead_29 (by rw [c1_]; decide) (by rw [c1_]; decide) (off := 47) (by rw [c1_]; rfl) rfl ?_
        have h := h.2.2.1 c1_
        refine eg_aload_n 1 dX11_lineRead_76 rfl rfl ?_
        obtain ⟨q13, hq13, h⟩ := h
        refine eg_callVI (av := []) (st := []) dX11_lineRead_77 ml_11_282 rfl rfl (obM_60 z1) (by decide) rfl (Nat.le_of_ble_eq_true rfl) (eg_dd (by omega)) hq13 (fun x11 M12 hp => ?_)
        have h := h x11 M12 hp
        refine eg_istore_n dX11_lineRead_80 rfl (by decide) (ls1 := [(1, vI x11), (0, vR (60, 0))]) rfl ?_
        refine eg_goto (tgt := 201) dX11_lineRead_81 rfl ?_
        refine eg_sub [1, 0] rfl ?_
        exact h
      by_cases c2_ : (M.1 (60, 0) 9) = (2 : Int32)
      · refine eg_tabI (tgt := 84) dX11_lineRead_29 (by rw [c2_]; decide) (by rw [c2_]; decide) (off := 55) (by rw [c2_]; rfl) rfl ?_
        have h := h.2.2.2.1 c2_
        refine eg_aload_n 1 dX11_lineRead_84 rfl rfl ?_
        refine eg_getI dX11_lineRead_85 fl_11_196 rfl trivial (obM_60 z1) ?_
        refine eg_if_eq (tgt := 97) dX11_lineRead_88 rfl (fun c14 => ?_) (fun c14 => ?_)
        · have h := h.1 c14
          refine eg_aload_n 1 dX11_lineRead_97 rfl rfl ?_
          refine eg_iconst dX11_lineRead_98 ic_1 ?_
          refine en_putZ dX11_lineRead_99 fl_11_196 rfl rfl (Or.inr rfl) (obM_60 z1) (fun M15 eM15 => ?_)
          have h := h M15 eM15
          refine eg_aload_n 1 dX11_lineRead_102 rfl rfl ?_
          obtain ⟨q17, hq17, h⟩ := h
          refine eg_callVV (av := []) (st := []) dX11_lineRead_103 ml_11_178 rfl rfl (obM_60 z1) (by decide) rfl (Nat.le_of_ble_eq_true rfl) (eg_dd (by omega)) hq17 (fun M16 hp => ?_)
          have h := h M16 hp
          refine eg_goto (tgt := 201) dX11_lineRead_106 rfl ?_
          refine eg_sub [1, 0] rfl ?_
          exact h
        · have h := h.2 c14
          refine eg_aload_n 1 dX11_lineRead_91 rfl rfl ?_
          refine eg_iconst dX11_lineRead_92 ic_3 ?_
          refine eg_callVI (av := [vI (3 : Int32)]) (st := []) dX11_lineRead_93 ml_11_168 rfl rfl (obM_60 z1) (by decide) rfl (Nat.le_of_ble_eq_true rfl) (eg_dd (by omega)) (sX11_wrong (by omega) M (3 : Int32)  ) (fun x19 M18 eM18 => ?_)
          have h := h x19 M18 eM18
          exact eg_zreturn dX11_lineRead_96 rfl (show x19 = 0 ∨ x19 = 1 from by rw [show x19 = _ from congrArg Prod.fst eM18]; exact zX11_wrong M (3 : Int32)) h
      by_cases c3_ : (M.1 (60, 0) 9) = (3 : Int32)
      · refine eg_tabI (tgt := 109) dX11_lineRead_29 (by rw [c3_]; decide) (by rw [c3_]; decide) (off := 80) (by rw [c3_]; rfl) rfl ?_
        have h := h.2.2.2.2.1 c3_
        refine eg_aload_n 1 dX11_lineRead_109 rfl rfl ?_
        refine eg_getI dX11_lineRead_110 fl_11_200 rfl trivial (obM_60 z1) ?_
        refine eg_if_le (tgt := 122) dX11_lineRead_113 rfl (fun c20 => ?_) (fun c20 => ?_)
        · have h := h.1 c20
          refine eg_aload_n 1 dX11_lineRead_122 rfl rfl ?_
          obtain ⟨q22, hq22, h⟩ := h
          refine eg_callVV (av := []) (st := []) dX11_lineRead_123 ml_11_178 rfl rfl (obM_60 z1) (by decide) rfl (Nat.le_of_ble_eq_true rfl) (eg_dd (by omega)) hq22 (fun M21 hp => ?_)
          have h := h M21 hp
          refine eg_aload_n 1 dX11_lineRead_126 rfl rfl ?_
          refine eg_iconst dX11_lineRead_127 ic_1 ?_
          refine eg_sipush dX11_lineRead_128 sp_1800 ?_
          obtain ⟨q25, hq25, h⟩ := h
          refine eg_callVI (av := [vI (1 : Int32), vI (1800 : Int32)]) (st := []) dX11_lineRead_131 ml_11_261 rfl rfl (obM_60 z1) (by decide) rfl (Nat.le_of_ble_eq_true rfl) (eg_dd (by omega)) hq25 (fun x23 M24 hp => ?_)
          have h := h x23 M24 hp
          refine eg_istore_n dX11_lineRead_134 rfl (by decide) (ls1 := [(1, vI x23), (0, vR (60, 0))]) rfl ?_
          refine eg_aload_n 1 dX11_lineRead_135 rfl rfl ?_
          refine eg_aload_n 1 dX11_lineRead_136 rfl rfl ?_
          refine eg_getI dX11_lineRead_137 fl_11_175 rfl trivial (obM_60 z1) ?_
          refine en_putI dX11_lineRead_140 fl_11_200 rfl rfl (obM_60 z1) (fun M26 eM26 => ?_)
          have h := h M26 eM26
          refine eg_goto (tgt := 201) dX11_lineRead_143 rfl ?_
          refine eg_sub [1, 0] rfl ?_
          exact h
        · have h := h.2 c20
          refine eg_aload_n 1 dX11_lineRead_116 rfl rfl ?_
          refine eg_iconst dX11_lineRead_117 ic_3 ?_
          refine eg_callVI (av := [vI (3 : Int32)]) (st := []) dX11_lineRead_118 ml_11_168 rfl rfl (obM_60 z1) (by decide) rfl (Nat.le_of_ble_eq_true rfl) (eg_dd (by omega)) (sX11_wrong (by omega) M (3 : Int32)  ) (fun x28 M27 eM27 => ?_)
          have h := h x28 M27 eM27
          exact eg_zreturn dX11_lineRead_121 rfl (show x28 = 0 ∨ x28 = 1 from by rw [show x28 = _ from congrArg Prod.fst eM27]; exact zX11_wrong M (3 : Int32)) h
      by_cases c4_ : (M.1 (60, 0) 9) = (4 : Int32)
      · refine eg_tabI (tgt := 146) dX11_lineRead_29 (by rw [c4_]; decide) (by rw [c4_]; decide) (off := 117) (by rw [c4_]; rfl) rfl ?_
        have h := h.2.2.2.2.2.1 c4_
        refine eg_aload_n 1 dX11_lineRead_146 rfl rfl ?_
        refine eg_getI dX11_lineRead_147 fl_11_206 rfl trivial (obM_60 z1) ?_
        refine eg_if_eq (tgt := 159) dX11_lineRead_150 rfl (fun c29 => ?_) (fun c29 => ?_)
        · have h := h.1 c29
          refine eg_aload_n 1 dX11_lineRead_159 rfl rfl ?_
          refine eg_iconst dX11_lineRead_160 ic_1 ?_
          refine en_putZ dX11_lineRead_161 fl_11_206 rfl rfl (Or.inr rfl) (obM_60 z1) (fun M30 eM30 => ?_)
          have h := h M30 eM30
          refine eg_aload_n 1 dX11_lineRead_164 rfl rfl ?_
          obtain ⟨q32, hq32, h⟩ := h
          refine eg_callVV (av := []) (st := []) dX11_lineRead_165 ml_11_178 rfl rfl (obM_60 z1) (by decide) rfl (Nat.le_of_ble_eq_true rfl) (eg_dd (by omega)) hq32 (fun M31 hp => ?_)
          have h := h M31 hp
          refine eg_aload_n 1 dX11_lineRead_168 rfl rfl ?_
          refine eg_iconst dX11_lineRead_169 ic_0 ?_
          refine eg_sipush dX11_lineRead_170 sp_3600 ?_
          obtain ⟨q35, hq35, h⟩ := h
          refine eg_callVI (av := [vI (0 : Int32), vI (3600 : Int32)]) (st := []) dX11_lineRead_173 ml_11_261 rfl rfl (obM_60 z1) (by decide) rfl (Nat.le_of_ble_eq_true rfl) (eg_dd (by omega)) hq35 (fun x33 M34 hp => ?_)
          have h := h x33 M34 hp
          refine eg_istore_n dX11_lineRead_176 rfl (by decide) (ls1 := [(1, vI x33), (0, vR (60, 0))]) rfl ?_
          refine eg_aload_n 1 dX11_lineRead_177 rfl rfl ?_
          refine eg_aload_n 1 dX11_lineRead_178 rfl rfl ?_
          refine eg_getI dX11_lineRead_179 fl_11_175 rfl trivial (obM_60 z1) ?_
          refine en_putI dX11_lineRead_182 fl_11_203 rfl rfl (obM_60 z1) (fun M36 eM36 => ?_)
          have h := h M36 eM36
          refine eg_goto (tgt := 201) dX11_lineRead_185 rfl ?_
          refine eg_sub [1, 0] rfl ?_
          exact h
        · have h := h.2 c29
          refine eg_aload_n 1 dX11_lineRead_153 rfl rfl ?_
          refine eg_iconst dX11_lineRead_154 ic_3 ?_
          refine eg_callVI (av := [vI (3 : Int32)]) (st := []) dX11_lineRead_155 ml_11_168 rfl rfl (obM_60 z1) (by decide) rfl (Nat.le_of_ble_eq_true rfl) (eg_dd (by omega)) (sX11_wrong (by omega) M (3 : Int32)  ) (fun x38 M37 eM37 => ?_)
          have h := h x38 M37 eM37
          exact eg_zreturn dX11_lineRead_158 rfl (show x38 = 0 ∨ x38 = 1 from by rw [show x38 = _ from congrArg Prod.fst eM37]; exact zX11_wrong M (3 : Int32)) h
      by_cases c5_ : (M.1 (60, 0) 9) = (5 : Int32)
      · refine eg_tabI (tgt := 188) dX11_lineRead_29 (by rw [c5_]; decide) (by rw [c5_]; decide) (off := 159) (by rw [c5_]; rfl) rfl ?_
        have h := h.2.2.2.2.2.2 c5_
        refine eg_aload_n 1 dX11_lineRead_188 rfl rfl ?_
        obtain ⟨q41, hq41, h⟩ := h
        refine eg_callVI (av := []) (st := []) dX11_lineRead_189 ml_11_285 rfl rfl (obM_60 z1) (by decide) rfl (Nat.le_of_ble_eq_true rfl) (eg_dd (by omega)) hq41 (fun x39 M40 hp => ?_)
        have h := h x39 M40 hp
        refine eg_istore_n dX11_lineRead_192 rfl (by decide) (ls1 := [(1, vI x39), (0, vR (60, 0))]) rfl ?_
        refine eg_goto (tgt := 201) dX11_lineRead_193 rfl ?_
        refine eg_sub [1, 0] rfl ?_
        exact h
      refine eg_tabO (tgt := 196) dX11_lineRead_29 ?_ rfl (J c0_ c1_ c2_ c3_ c4_ c5_)
      have t0_ := eg_ti 0 (by decide) c0_
      have t1_ := eg_ti 1 (by decide) c1_
      have t2_ := eg_ti 2 (by decide) c2_
      have t3_ := eg_ti 3 (by decide) c3_
      have t4_ := eg_ti 4 (by decide) c4_
      have t5_ := eg_ti 5 (by decide) c5_
      omega
    · have h := h.2 c4
      refine eg_aload_n 0 dX11_lineRead_17 rfl rfl ?_
      refine eg_iconst dX11_lineRead_18 ic_1 ?_
      refine eg_callVI (av := [vI (1 : Int32)]) (st := []) dX11_lineRead_19 ml_11_168 rfl rfl (obM_60 z1) (by decide) rfl (Nat.le_of_ble_eq_true rfl) (eg_dd (by omega)) (sX11_wrong (by omega) M (1 : Int32)  ) (fun x43 M42 eM42 => ?_)
      have h := h x43 M42 eM42
      exact eg_zreturn dX11_lineRead_22 rfl (show x43 = 0 ∨ x43 = 1 from by rw [show x43 = _ from congrArg Prod.fst eM42]; exact zX11_wrong M (1 : Int32)) h
set_option maxRecDepth 10000 in
theorem vX11_lineRead_201 {κ : eg_K} {d : Nat} (hd : 1 ≤ d) {post : Int32 → eg_H → Prop} (M : eg_H) (l1 : Int32) (h : ((¬ l1 = 0) → (∀ x3 : Int32, x3 = (fX11_isSign M (59 : Int32)) → ((¬ x3 = 0) → eCV κ gM mtX11_token d [vR (60, 0)] M (fun M5 => post (1 : Int32) M5)) ∧ (x3 = 0 → (∀ (x8 : Int32) (M7 : eg_H), (x8, M7) = fX11_wrong M (1 : Int32) → post x8 M7)))) ∧ (l1 = 0 → post (0 : Int32) M)) : eg_W κ gM mtX11_lineRead d (eQI κ gM post) 201 [(0, vR (60, 0)), (1, vI l1)] [] M := by
  refine eg_iload_n 1 dX11_lineRead_201 rfl rfl ?_
  refine eg_if_ne (tgt := 207) dX11_lineRead_202 rfl (fun c1 => ?_) (fun c1 => ?_)
  · have h := h.1 c1
    refine eg_aload_n 0 dX11_lineRead_207 rfl rfl ?_
    refine eg_bipush dX11_lineRead_208 bp_59 ?_
    refine eg_callVI (av := [vI (59 : Int32)]) (st := []) dX11_lineRead_210 ml_11_291 rfl rfl (obM_60 z1) (by decide) rfl (Nat.le_of_ble_eq_true rfl) (eg_dd (by omega)) (sX11_isSign (by omega) M (59 : Int32)  ) (fun x3 M2 hp => ?_)
    obtain ⟨ex3, eM2⟩ := hp
    rw [eM2]
    have h := h x3 ex3
    refine eg_if_ne (tgt := 222) dX11_lineRead_213 rfl (fun c4 => ?_) (fun c4 => ?_)
    · have h := h.1 c4
      refine eg_aload_n 0 dX11_lineRead_222 rfl rfl ?_
      obtain ⟨q6, hq6, h⟩ := h
      refine eg_callVV (av := []) (st := []) dX11_lineRead_223 ml_11_178 rfl rfl (obM_60 z1) (by decide) rfl (Nat.le_of_ble_eq_true rfl) (eg_dd (by omega)) hq6 (fun M5 hp => ?_)
      have h := h M5 hp
      refine eg_iconst dX11_lineRead_226 ic_1 ?_
      exact eg_zreturn dX11_lineRead_227 rfl (Or.inr rfl) h
    · have h := h.2 c4
      refine eg_aload_n 0 dX11_lineRead_216 rfl rfl ?_
      refine eg_iconst dX11_lineRead_217 ic_1 ?_
      refine eg_callVI (av := [vI (1 : Int32)]) (st := []) dX11_lineRead_218 ml_11_168 rfl rfl (obM_60 z1) (by decide) rfl (Nat.le_of_ble_eq_true rfl) (eg_dd (by omega)) (sX11_wrong (by omega) M (1 : Int32)  ) (fun x8 M7 eM7 => ?_)
      have h := h x8 M7 eM7
      exact eg_zreturn dX11_lineRead_221 rfl (show x8 = 0 ∨ x8 = 1 from by rw [show x8 = _ from congrArg Prod.fst eM7]; exact zX11_wrong M (1 : Int32)) h
  · have h := h.2 c1
    refine eg_iconst dX11_lineRead_205 ic_0 ?_
    exact eg_zreturn dX11_lineRead_206 rfl (Or.inl rfl) h
theorem dX11_text_0 : decode cX11_text 0 = .ok (.aload_n 0, 1) := by decide +kernel
theorem dX11_text_1 : decode cX11_text 1 = .ok (.iconst 0, 1) := by decide +kernel
theorem dX11_text_2 : decode cX11_text 2 = .ok (.putfield 127, 3) := by decide +kernel
theorem dX11_text_5 : decode cX11_text 5 = .ok (.iload_n 1, 1) := by decide +kernel
theorem dX11_text_6 : decode cX11_text 6 = .ok (.ifCond .lt 11, 3) := by decide +kernel
theorem dX11_text_9 : decode cX11_text 9 = .ok (.iload_n 1, 1) := by decide +kernel
theorem dX11_text_10 : decode cX11_text 10 = .ok (.aload_n 0, 1) := by decide +kernel
theorem dX11_text_11 : decode cX11_text 11 = .ok (.getfield 130, 3) := by decide +kernel
theorem dX11_text_14 : decode cX11_text 14 = .ok (.if_icmp .le 6, 3) := by decide +kernel
theorem dX11_text_17 : decode cX11_text 17 = .ok (.bipush (-2), 2) := by decide +kernel
theorem dX11_text_19 : decode cX11_text 19 = .ok (.ireturn, 1) := by decide +kernel
theorem dX11_text_20 : decode cX11_text 20 = .ok (.aload_n 0, 1) := by decide +kernel
theorem dX11_text_21 : decode cX11_text 21 = .ok (.iload_n 1, 1) := by decide +kernel
theorem dX11_text_22 : decode cX11_text 22 = .ok (.putfield 139, 3) := by decide +kernel
theorem dX11_text_25 : decode cX11_text 25 = .ok (.aload_n 0, 1) := by decide +kernel
theorem dX11_text_26 : decode cX11_text 26 = .ok (.iconst 0, 1) := by decide +kernel
theorem dX11_text_27 : decode cX11_text 27 = .ok (.putfield 130, 3) := by decide +kernel
theorem dX11_text_30 : decode cX11_text 30 = .ok (.aload_n 0, 1) := by decide +kernel
theorem dX11_text_31 : decode cX11_text 31 = .ok (.iconst 0, 1) := by decide +kernel
theorem dX11_text_32 : decode cX11_text 32 = .ok (.putfield 133, 3) := by decide +kernel
theorem dX11_text_35 : decode cX11_text 35 = .ok (.aload_n 0, 1) := by decide +kernel
theorem dX11_text_36 : decode cX11_text 36 = .ok (.iconst (-1), 1) := by decide +kernel
theorem dX11_text_37 : decode cX11_text 37 = .ok (.putfield 16, 3) := by decide +kernel
theorem dX11_text_40 : decode cX11_text 40 = .ok (.aload_n 0, 1) := by decide +kernel
theorem dX11_text_41 : decode cX11_text 41 = .ok (.iconst 0, 1) := by decide +kernel
theorem dX11_text_42 : decode cX11_text 42 = .ok (.putfield 142, 3) := by decide +kernel
theorem dX11_text_45 : decode cX11_text 45 = .ok (.aload_n 0, 1) := by decide +kernel
theorem dX11_text_46 : decode cX11_text 46 = .ok (.invokevirtual 121, 3) := by decide +kernel
theorem dX11_text_49 : decode cX11_text 49 = .ok (.aload_n 0, 1) := by decide +kernel
theorem dX11_text_50 : decode cX11_text 50 = .ok (.invokevirtual 178, 3) := by decide +kernel
theorem dX11_text_53 : decode cX11_text 53 = .ok (.iconst 0, 1) := by decide +kernel
theorem dX11_text_54 : decode cX11_text 54 = .ok (.istore_n 2, 1) := by decide +kernel
theorem dX11_text_55 : decode cX11_text 55 = .ok (.aload_n 0, 1) := by decide +kernel
theorem dX11_text_56 : decode cX11_text 56 = .ok (.getfield 145, 3) := by decide +kernel
theorem dX11_text_59 : decode cX11_text 59 = .ok (.ifCond .eq 18, 3) := by decide +kernel
theorem dX11_text_62 : decode cX11_text 62 = .ok (.aload_n 0, 1) := by decide +kernel
theorem dX11_text_63 : decode cX11_text 63 = .ok (.invokevirtual 294, 3) := by decide +kernel
theorem dX11_text_66 : decode cX11_text 66 = .ok (.ifCond .ne 5, 3) := by decide +kernel
theorem dX11_text_69 : decode cX11_text 69 = .ok (.iconst (-1), 1) := by decide +kernel
theorem dX11_text_70 : decode cX11_text 70 = .ok (.ireturn, 1) := by decide +kernel
theorem dX11_text_71 : decode cX11_text 71 = .ok (.iinc 2 1, 3) := by decide +kernel
theorem dX11_text_74 : decode cX11_text 74 = .ok (.goto (-19), 3) := by decide +kernel
theorem dX11_text_77 : decode cX11_text 77 = .ok (.aload_n 0, 1) := by decide +kernel
theorem dX11_text_78 : decode cX11_text 78 = .ok (.invokevirtual 124, 3) := by decide +kernel
theorem dX11_text_81 : decode cX11_text 81 = .ok (.iload_n 2, 1) := by decide +kernel
theorem dX11_text_82 : decode cX11_text 82 = .ok (.ireturn, 1) := by decide +kernel
set_option maxRecDepth 10000 in
theorem vX11_text_0 {κ : eg_K} {d : Nat} (hd : 1 ≤ d) {post : Int32 → eg_H → Prop} (M : eg_H) (l1 : Int32) (h : (∀ M1 : eg_H, M1 = (sI M (60, 0) 2 (0 : Int32)) → (l1 < 0 → post (-2 : Int32) M1) ∧ ((¬ l1 < 0) → (l1 ≤ (M1.1 (60, 0) 1) → (∀ M4 : eg_H, M4 = (sI M1 (60, 0) 6 l1) → (∀ M5 : eg_H, M5 = (sI M4 (60, 0) 1 (0 : Int32)) → (∀ M6 : eg_H, M6 = (sI M5 (60, 0) 4 (0 : Int32)) → (∀ M7 : eg_H, M7 = (sI M6 (60, 0) 5 (-1 : Int32)) → (∀ M8 : eg_H, M8 = (sI M7 (60, 0) 7 (0 : Int32)) → eCV κ gM mtX11_plain d [vR (60, 0)] M8 (fun M9 => eCV κ gM mtX11_token d [vR (60, 0)] M9 (fun M11 => eg_W κ gM mtX11_text d (eQI κ gM post) 55 [(0, vR (60, 0)), (2, vI (0 : Int32))] [] M11)))))))) ∧ ((¬ l1 ≤ (M1.1 (60, 0) 1)) → post (-2 : Int32) M1)))) : eg_W κ gM mtX11_text d (eQI κ gM post) 0 [(0, vR (60, 0)), (1, vI l1)] [] M := by
  refine eg_aload_n 0 dX11_text_0 rfl rfl ?_
  refine eg_iconst dX11_text_1 ic_0 ?_
  refine en_putI dX11_text_2 fl_11_127 rfl rfl (obM_60 z1) (fun M1 eM1 => ?_)
  have h := h M1 eM1
  refine eg_iload_n 1 dX11_text_5 rfl rfl ?_
  refine eg_if_lt (tgt := 17) dX11_text_6 rfl (fun c2 => ?_) (fun c2 => ?_)
  · have h := h.1 c2
    refine eg_bipush dX11_text_17 bp_m2 ?_
    exact eg_ireturn dX11_text_19 rfl h
  · have h := h.2 c2
    refine eg_iload_n 1 dX11_text_9 rfl rfl ?_
    refine eg_aload_n 0 dX11_text_10 rfl rfl ?_
    refine eg_getI dX11_text_11 fl_11_130 rfl trivial (obM_60 z1) ?_
    refine eg_icmp_le (tgt := 20) dX11_text_14 rfl (fun c3 => ?_) (fun c3 => ?_)
    · have h := h.1 c3
      refine eg_aload_n 0 dX11_text_20 rfl rfl ?_
      refine eg_iload_n 1 dX11_text_21 rfl rfl ?_
      refine en_putI dX11_text_22 fl_11_139 rfl rfl (obM_60 z1) (fun M4 eM4 => ?_)
      have h := h M4 eM4
      refine eg_aload_n 0 dX11_text_25 rfl rfl ?_
      refine eg_iconst dX11_text_26 ic_0 ?_
      refine en_putI dX11_text_27 fl_11_130 rfl rfl (obM_60 z1) (fun M5 eM5 => ?_)
      have h := h M5 eM5
      refine eg_aload_n 0 dX11_text_30 rfl rfl ?_
      refine eg_iconst dX11_text_31 ic_0 ?_
      refine en_putI dX11_text_32 fl_11_133 rfl rfl (obM_60 z1) (fun M6 eM6 => ?_)
      have h := h M6 eM6
      refine eg_aload_n 0 dX11_text_35 rfl rfl ?_
      refine eg_iconst dX11_text_36 ic_m1 ?_
      refine en_putI dX11_text_37 fl_11_16 rfl rfl (obM_60 z1) (fun M7 eM7 => ?_)
      have h := h M7 eM7
      refine eg_aload_n 0 dX11_text_40 rfl rfl ?_
      refine eg_iconst dX11_text_41 ic_0 ?_
      refine en_putI dX11_text_42 fl_11_142 rfl rfl (obM_60 z1) (fun M8 eM8 => ?_)
      have h := h M8 eM8
      refine eg_aload_n 0 dX11_text_45 rfl rfl ?_
      obtain ⟨q10, hq10, h⟩ := h
      refine eg_callVV (av := []) (st := []) dX11_text_46 ml_11_121 rfl rfl (obM_60 z1) (by decide) rfl (Nat.le_of_ble_eq_true rfl) (eg_dd (by omega)) hq10 (fun M9 hp => ?_)
      have h := h M9 hp
      refine eg_aload_n 0 dX11_text_49 rfl rfl ?_
      obtain ⟨q12, hq12, h⟩ := h
      refine eg_callVV (av := []) (st := []) dX11_text_50 ml_11_178 rfl rfl (obM_60 z1) (by decide) rfl (Nat.le_of_ble_eq_true rfl) (eg_dd (by omega)) hq12 (fun M11 hp => ?_)
      have h := h M11 hp
      refine eg_iconst dX11_text_53 ic_0 ?_
      refine eg_istore_n dX11_text_54 rfl (by decide) (ls1 := [(2, vI (0 : Int32)), (0, vR (60, 0)), (1, vI l1)]) rfl ?_
      refine eg_sub [1, 0] rfl ?_
      exact h
    · have h := h.2 c3
      refine eg_bipush dX11_text_17 bp_m2 ?_
      exact eg_ireturn dX11_text_19 rfl h
set_option maxRecDepth 10000 in
theorem vX11_text_55 {κ : eg_K} {d : Nat} (hd : 1 ≤ d) {post : Int32 → eg_H → Prop} (M : eg_H) (l2 : Int32) (h : ((M.1 (60, 0) 8) = 0 → eCV κ gM mtX11_keepText d [vR (60, 0)] M (fun M2 => post l2 M2)) ∧ ((¬ (M.1 (60, 0) 8) = 0) → eCI κ gM mtX11_lineRead d [vR (60, 0)] M (fun x4 M5 => ((¬ x4 = 0) → (∀ x8 : Int32, x8 = (l2 + (1 : Int32)) → eg_W κ gM mtX11_text d (eQI κ gM post) 55 [(0, vR (60, 0)), (2, vI x8)] [] M5)) ∧ (x4 = 0 → post (-1 : Int32) M5)))) : eg_W κ gM mtX11_text d (eQI κ gM post) 55 [(0, vR (60, 0)), (2, vI l2)] [] M := by
  refine eg_aload_n 0 dX11_text_55 rfl rfl ?_
  refine eg_getI dX11_text_56 fl_11_145 rfl trivial (obM_60 z1) ?_
  refine eg_if_eq (tgt := 77) dX11_text_59 rfl (fun c1 => ?_) (fun c1 => ?_)
  · have h := h.1 c1
    refine eg_aload_n 0 dX11_text_77 rfl rfl ?_
    obtain ⟨q3, hq3, h⟩ := h
    refine eg_callVV (av := []) (st := []) dX11_text_78 ml_11_124 rfl rfl (obM_60 z1) (by decide) rfl (Nat.le_of_ble_eq_true rfl) (eg_dd (by omega)) hq3 (fun M2 hp => ?_)
    have h := h M2 hp
    refine eg_iload_n 1 dX11_text_81 rfl rfl ?_
    exact eg_ireturn dX11_text_82 rfl h
  · have h := h.2 c1
    refine eg_aload_n 0 dX11_text_62 rfl rfl ?_
    obtain ⟨q6, hq6, h⟩ := h
    refine eg_callVI (av := []) (st := []) dX11_text_63 ml_11_294 rfl rfl (obM_60 z1) (by decide) rfl (Nat.le_of_ble_eq_true rfl) (eg_dd (by omega)) hq6 (fun x4 M5 hp => ?_)
    have h := h x4 M5 hp
    refine eg_if_ne (tgt := 71) dX11_text_66 rfl (fun c7 => ?_) (fun c7 => ?_)
    · have h := h.1 c7
      refine en_iinc (f := fun x8 => [(2, vI x8), (0, vR (60, 0))]) 1 dX11_text_71 rfl rfl (by decide) rfl (fun x8 ex8 => ?_)
      have h := h x8 ex8
      refine eg_goto (tgt := 55) dX11_text_74 rfl ?_
      refine eg_sub [1, 0] rfl ?_
      exact h
    · have h := h.2 c7
      refine eg_iconst dX11_text_69 ic_m1 ?_
      exact eg_ireturn dX11_text_70 rfl h
theorem dX11_grown_0 : decode cX11_grown 0 = .ok (.aload_n 0, 1) := by decide +kernel
theorem dX11_grown_1 : decode cX11_grown 1 = .ok (.getfield 54, 3) := by decide +kernel
theorem dX11_grown_4 : decode cX11_grown 4 = .ok (.bipush 64, 2) := by decide +kernel
theorem dX11_grown_6 : decode cX11_grown 6 = .ok (.aload_n 0, 1) := by decide +kernel
theorem dX11_grown_7 : decode cX11_grown 7 = .ok (.getfield 190, 3) := by decide +kernel
theorem dX11_grown_10 : decode cX11_grown 10 = .ok (.iadd, 1) := by decide +kernel
theorem dX11_grown_11 : decode cX11_grown 11 = .ok (.iload_n 1, 1) := by decide +kernel
theorem dX11_grown_12 : decode cX11_grown 12 = .ok (.iastore, 1) := by decide +kernel
theorem dX11_grown_13 : decode cX11_grown 13 = .ok (.aload_n 0, 1) := by decide +kernel
theorem dX11_grown_14 : decode cX11_grown 14 = .ok (.getfield 57, 3) := by decide +kernel
theorem dX11_grown_17 : decode cX11_grown 17 = .ok (.bipush 64, 2) := by decide +kernel
theorem dX11_grown_19 : decode cX11_grown 19 = .ok (.aload_n 0, 1) := by decide +kernel
theorem dX11_grown_20 : decode cX11_grown 20 = .ok (.getfield 190, 3) := by decide +kernel
theorem dX11_grown_23 : decode cX11_grown 23 = .ok (.iadd, 1) := by decide +kernel
theorem dX11_grown_24 : decode cX11_grown 24 = .ok (.iload_n 2, 1) := by decide +kernel
theorem dX11_grown_25 : decode cX11_grown 25 = .ok (.iastore, 1) := by decide +kernel
theorem dX11_grown_26 : decode cX11_grown 26 = .ok (.aload_n 0, 1) := by decide +kernel
theorem dX11_grown_27 : decode cX11_grown 27 = .ok (.getfield 60, 3) := by decide +kernel
theorem dX11_grown_30 : decode cX11_grown 30 = .ok (.bipush 64, 2) := by decide +kernel
theorem dX11_grown_32 : decode cX11_grown 32 = .ok (.aload_n 0, 1) := by decide +kernel
theorem dX11_grown_33 : decode cX11_grown 33 = .ok (.getfield 190, 3) := by decide +kernel
theorem dX11_grown_36 : decode cX11_grown 36 = .ok (.iadd, 1) := by decide +kernel
theorem dX11_grown_37 : decode cX11_grown 37 = .ok (.iload_n 3, 1) := by decide +kernel
theorem dX11_grown_38 : decode cX11_grown 38 = .ok (.iastore, 1) := by decide +kernel
theorem dX11_grown_39 : decode cX11_grown 39 = .ok (.aload_n 0, 1) := by decide +kernel
theorem dX11_grown_40 : decode cX11_grown 40 = .ok (.getfield 66, 3) := by decide +kernel
theorem dX11_grown_43 : decode cX11_grown 43 = .ok (.aload_n 0, 1) := by decide +kernel
theorem dX11_grown_44 : decode cX11_grown 44 = .ok (.getfield 297, 3) := by decide +kernel
theorem dX11_grown_47 : decode cX11_grown 47 = .ok (.aload_n 0, 1) := by decide +kernel
theorem dX11_grown_48 : decode cX11_grown 48 = .ok (.getfield 190, 3) := by decide +kernel
theorem dX11_grown_51 : decode cX11_grown 51 = .ok (.iastore, 1) := by decide +kernel
theorem dX11_grown_52 : decode cX11_grown 52 = .ok (.aload_n 0, 1) := by decide +kernel
theorem dX11_grown_53 : decode cX11_grown 53 = .ok (.dup, 1) := by decide +kernel
theorem dX11_grown_54 : decode cX11_grown 54 = .ok (.getfield 297, 3) := by decide +kernel
theorem dX11_grown_57 : decode cX11_grown 57 = .ok (.iconst 1, 1) := by decide +kernel
theorem dX11_grown_58 : decode cX11_grown 58 = .ok (.iadd, 1) := by decide +kernel
theorem dX11_grown_59 : decode cX11_grown 59 = .ok (.putfield 297, 3) := by decide +kernel
theorem dX11_grown_62 : decode cX11_grown 62 = .ok (.aload_n 0, 1) := by decide +kernel
theorem dX11_grown_63 : decode cX11_grown 63 = .ok (.dup, 1) := by decide +kernel
theorem dX11_grown_64 : decode cX11_grown 64 = .ok (.getfield 190, 3) := by decide +kernel
theorem dX11_grown_67 : decode cX11_grown 67 = .ok (.iconst 1, 1) := by decide +kernel
theorem dX11_grown_68 : decode cX11_grown 68 = .ok (.iadd, 1) := by decide +kernel
theorem dX11_grown_69 : decode cX11_grown 69 = .ok (.putfield 190, 3) := by decide +kernel
theorem dX11_grown_72 : decode cX11_grown 72 = .ok (.return_, 1) := by decide +kernel
set_option maxRecDepth 10000 in
theorem vX11_grown_0 {κ : eg_K} {d : Nat} {post : eg_H → Prop} (M : eg_H) (l1 : Int32) (l2 : Int32) (l3 : Int32) (h : (vp_in ((64 : Int32) + (M.1 (60, 0) 22)) 128 ∧ (∀ M2 : eg_H, M2 = (sI M (99, 0) ((64 : Int32) + (M.1 (60, 0) 22)).toNatClampNeg l1) → (vp_in ((64 : Int32) + (M2.1 (60, 0) 22)) 128 ∧ (∀ M4 : eg_H, M4 = (sI M2 (100, 0) ((64 : Int32) + (M2.1 (60, 0) 22)).toNatClampNeg l2) → (vp_in ((64 : Int32) + (M4.1 (60, 0) 22)) 128 ∧ (∀ M6 : eg_H, M6 = (sI M4 (101, 0) ((64 : Int32) + (M4.1 (60, 0) 22)).toNatClampNeg l3) → (vp_in (M6.1 (60, 0) 44) 96 ∧ (∀ M8 : eg_H, M8 = (sI M6 (103, 0) (M6.1 (60, 0) 44).toNatClampNeg (M6.1 (60, 0) 22)) → (∀ M9 : eg_H, M9 = (sI M8 (60, 0) 44 ((M8.1 (60, 0) 44) + (1 : Int32))) → (∀ M10 : eg_H, M10 = (sI M9 (60, 0) 22 ((M9.1 (60, 0) 22) + (1 : Int32))) → post M10))))))))))) : eg_W κ gM mtX11_grown d (eQV κ gM post) 0 [(0, vR (60, 0)), (1, vI l1), (2, vI l2), (3, vI l3)] [] M := by
  refine eg_aload_n 0 dX11_grown_0 rfl rfl ?_
  refine eg_getR dX11_grown_1 fl_11_54 rfl rfl (obM_60 z1) ?_
  show eg_W κ gM mtX11_grown d (eQV κ gM post) 4 [(0, vR (60, 0)), (1, vI l1), (2, vI l2), (3, vI l3)] [vR (99, 0)] M
  refine eg_bipush dX11_grown_4 bp_64 ?_
  refine eg_aload_n 0 dX11_grown_6 rfl rfl ?_
  refine eg_getI dX11_grown_7 fl_11_190 rfl trivial (obM_60 z1) ?_
  refine eg_iadd dX11_grown_10 ?_
  refine eg_iload_n 1 dX11_grown_11 rfl rfl ?_
  obtain ⟨g1, h⟩ := h
  refine en_iastore dX11_grown_12 (arM_99 z1 g1) (fun M2 eM2 => ?_)
  have h := h M2 eM2
  refine eg_aload_n 0 dX11_grown_13 rfl rfl ?_
  refine eg_getR dX11_grown_14 fl_11_57 rfl rfl (obM_60 z1) ?_
  show eg_W κ gM mtX11_grown d (eQV κ gM post) 17 [(0, vR (60, 0)), (1, vI l1), (2, vI l2), (3, vI l3)] [vR (100, 0)] M2
  refine eg_bipush dX11_grown_17 bp_64 ?_
  refine eg_aload_n 0 dX11_grown_19 rfl rfl ?_
  refine eg_getI dX11_grown_20 fl_11_190 rfl trivial (obM_60 z1) ?_
  refine eg_iadd dX11_grown_23 ?_
  refine eg_iload_n 2 dX11_grown_24 rfl rfl ?_
  obtain ⟨g3, h⟩ := h
  refine en_iastore dX11_grown_25 (arM_100 z1 g3) (fun M4 eM4 => ?_)
  have h := h M4 eM4
  refine eg_aload_n 0 dX11_grown_26 rfl rfl ?_
  refine eg_getR dX11_grown_27 fl_11_60 rfl rfl (obM_60 z1) ?_
  show eg_W κ gM mtX11_grown d (eQV κ gM post) 30 [(0, vR (60, 0)), (1, vI l1), (2, vI l2), (3, vI l3)] [vR (101, 0)] M4
  refine eg_bipush dX11_grown_30 bp_64 ?_
  refine eg_aload_n 0 dX11_grown_32 rfl rfl ?_
  refine eg_getI dX11_grown_33 fl_11_190 rfl trivial (obM_60 z1) ?_
  refine eg_iadd dX11_grown_36 ?_
  refine eg_iload_n 3 dX11_grown_37 rfl rfl ?_
  obtain ⟨g5, h⟩ := h
  refine en_iastore dX11_grown_38 (arM_101 z1 g5) (fun M6 eM6 => ?_)
  have h := h M6 eM6
  refine eg_aload_n 0 dX11_grown_39 rfl rfl ?_
  refine eg_getR dX11_grown_40 fl_11_66 rfl rfl (obM_60 z1) ?_
  show eg_W κ gM mtX11_grown d (eQV κ gM post) 43 [(0, vR (60, 0)), (1, vI l1), (2, vI l2), (3, vI l3)] [vR (103, 0)] M6
  refine eg_aload_n 0 dX11_grown_43 rfl rfl ?_
  refine eg_getI dX11_grown_44 fl_11_297 rfl trivial (obM_60 z1) ?_
  refine eg_aload_n 0 dX11_grown_47 rfl rfl ?_
  refine eg_getI dX11_grown_48 fl_11_190 rfl trivial (obM_60 z1) ?_
  obtain ⟨g7, h⟩ := h
  refine en_iastore dX11_grown_51 (arM_103 z1 g7) (fun M8 eM8 => ?_)
  have h := h M8 eM8
  refine eg_aload_n 0 dX11_grown_52 rfl rfl ?_
  refine eg_dup dX11_grown_53 rfl ?_
  refine eg_getI dX11_grown_54 fl_11_297 rfl trivial (obM_60 z1) ?_
  refine eg_iconst dX11_grown_57 ic_1 ?_
  refine eg_iadd dX11_grown_58 ?_
  refine en_putI dX11_grown_59 fl_11_297 rfl rfl (obM_60 z1) (fun M9 eM9 => ?_)
  have h := h M9 eM9
  refine eg_aload_n 0 dX11_grown_62 rfl rfl ?_
  refine eg_dup dX11_grown_63 rfl ?_
  refine eg_getI dX11_grown_64 fl_11_190 rfl trivial (obM_60 z1) ?_
  refine eg_iconst dX11_grown_67 ic_1 ?_
  refine eg_iadd dX11_grown_68 ?_
  refine en_putI dX11_grown_69 fl_11_190 rfl rfl (obM_60 z1) (fun M10 eM10 => ?_)
  have h := h M10 eM10
  exact eg_vreturn dX11_grown_72 rfl h
theorem dX11_bind_0 : decode cX11_bind 0 = .ok (.aload_n 0, 1) := by decide +kernel
theorem dX11_bind_1 : decode cX11_bind 1 = .ok (.getfield 300, 3) := by decide +kernel
theorem dX11_bind_4 : decode cX11_bind 4 = .ok (.ifCond .le 72, 3) := by decide +kernel
theorem dX11_bind_7 : decode cX11_bind 7 = .ok (.aload_n 0, 1) := by decide +kernel
theorem dX11_bind_8 : decode cX11_bind 8 = .ok (.getfield 63, 3) := by decide +kernel
theorem dX11_bind_11 : decode cX11_bind 11 = .ok (.aload_n 0, 1) := by decide +kernel
theorem dX11_bind_12 : decode cX11_bind 12 = .ok (.getfield 300, 3) := by decide +kernel
theorem dX11_bind_15 : decode cX11_bind 15 = .ok (.iconst 1, 1) := by decide +kernel
theorem dX11_bind_16 : decode cX11_bind 16 = .ok (.isub, 1) := by decide +kernel
theorem dX11_bind_17 : decode cX11_bind 17 = .ok (.iaload, 1) := by decide +kernel
theorem dX11_bind_18 : decode cX11_bind 18 = .ok (.invokestatic 303, 3) := by decide +kernel
theorem dX11_bind_21 : decode cX11_bind 21 = .ok (.iload_n 1, 1) := by decide +kernel
theorem dX11_bind_22 : decode cX11_bind 22 = .ok (.if_icmp .lt 54, 3) := by decide +kernel
theorem dX11_bind_25 : decode cX11_bind 25 = .ok (.aload_n 0, 1) := by decide +kernel
theorem dX11_bind_26 : decode cX11_bind 26 = .ok (.dup, 1) := by decide +kernel
theorem dX11_bind_27 : decode cX11_bind 27 = .ok (.getfield 300, 3) := by decide +kernel
theorem dX11_bind_30 : decode cX11_bind 30 = .ok (.iconst 1, 1) := by decide +kernel
theorem dX11_bind_31 : decode cX11_bind 31 = .ok (.isub, 1) := by decide +kernel
theorem dX11_bind_32 : decode cX11_bind 32 = .ok (.putfield 300, 3) := by decide +kernel
theorem dX11_bind_35 : decode cX11_bind 35 = .ok (.aload_n 0, 1) := by decide +kernel
theorem dX11_bind_36 : decode cX11_bind 36 = .ok (.getfield 63, 3) := by decide +kernel
theorem dX11_bind_39 : decode cX11_bind 39 = .ok (.aload_n 0, 1) := by decide +kernel
theorem dX11_bind_40 : decode cX11_bind 40 = .ok (.getfield 300, 3) := by decide +kernel
theorem dX11_bind_43 : decode cX11_bind 43 = .ok (.iaload, 1) := by decide +kernel
theorem dX11_bind_44 : decode cX11_bind 44 = .ok (.istore_n 2, 1) := by decide +kernel
theorem dX11_bind_45 : decode cX11_bind 45 = .ok (.iload_n 2, 1) := by decide +kernel
theorem dX11_bind_46 : decode cX11_bind 46 = .ok (.iconst 2, 1) := by decide +kernel
theorem dX11_bind_47 : decode cX11_bind 47 = .ok (.if_icmp .ne 7, 3) := by decide +kernel
theorem dX11_bind_50 : decode cX11_bind 50 = .ok (.iconst (-1), 1) := by decide +kernel
theorem dX11_bind_51 : decode cX11_bind 51 = .ok (.goto 7, 3) := by decide +kernel
theorem dX11_bind_54 : decode cX11_bind 54 = .ok (.aload_n 0, 1) := by decide +kernel
theorem dX11_bind_55 : decode cX11_bind 55 = .ok (.invokevirtual 307, 3) := by decide +kernel
theorem dX11_bind_58 : decode cX11_bind 58 = .ok (.istore_n 3, 1) := by decide +kernel
theorem dX11_bind_59 : decode cX11_bind 59 = .ok (.aload_n 0, 1) := by decide +kernel
theorem dX11_bind_60 : decode cX11_bind 60 = .ok (.invokevirtual 307, 3) := by decide +kernel
theorem dX11_bind_63 : decode cX11_bind 63 = .ok (.istore 4, 2) := by decide +kernel
theorem dX11_bind_65 : decode cX11_bind 65 = .ok (.aload_n 0, 1) := by decide +kernel
theorem dX11_bind_66 : decode cX11_bind 66 = .ok (.iload_n 2, 1) := by decide +kernel
theorem dX11_bind_67 : decode cX11_bind 67 = .ok (.iload 4, 2) := by decide +kernel
theorem dX11_bind_69 : decode cX11_bind 69 = .ok (.iload_n 3, 1) := by decide +kernel
theorem dX11_bind_70 : decode cX11_bind 70 = .ok (.invokevirtual 310, 3) := by decide +kernel
theorem dX11_bind_73 : decode cX11_bind 73 = .ok (.goto (-73), 3) := by decide +kernel
theorem dX11_bind_76 : decode cX11_bind 76 = .ok (.return_, 1) := by decide +kernel
set_option maxRecDepth 10000 in
theorem vX11_bind_0 {κ : eg_K} {d : Nat} (hd : 1 ≤ d) {post : eg_H → Prop} (M : eg_H) (l1 : Int32) (h : ((M.1 (60, 0) 43) ≤ 0 → post M) ∧ ((¬ (M.1 (60, 0) 43) ≤ 0) → (vp_in ((M.1 (60, 0) 43) - (1 : Int32)) 96 ∧ (∀ x4 : Int32, x4 = (fX11_rank M (M.1 (102, 0) ((M.1 (60, 0) 43) - (1 : Int32)).toNatClampNeg)) → (x4 < l1 → post M) ∧ ((¬ x4 < l1) → (∀ M6 : eg_H, M6 = (sI M (60, 0) 43 ((M.1 (60, 0) 43) - (1 : Int32))) → (vp_in (M6.1 (60, 0) 43) 96 ∧ (∀ x8 : Int32, x8 = (M6.1 (102, 0) (M6.1 (60, 0) 43).toNatClampNeg) → ((¬ x8 = (2 : Int32)) → (gX11_dropHeld M6 ∧ (∀ (x12 : Int32) (M11 : eg_H), (x12, M11) = fX11_dropHeld M6 → eg_W κ gM mtX11_bind d (eQV κ gM post) 58 [(0, vR (60, 0)), (1, vI l1), (2, vI x8)] [vI x12] M11))) ∧ (x8 = (2 : Int32) → eg_W κ gM mtX11_bind d (eQV κ gM post) 58 [(0, vR (60, 0)), (1, vI l1), (2, vI x8)] [vI (-1 : Int32)] M6))))))))) : eg_W κ gM mtX11_bind d (eQV κ gM post) 0 [(0, vR (60, 0)), (1, vI l1)] [] M := by
  refine eg_aload_n 0 dX11_bind_0 rfl rfl ?_
  refine eg_getI dX11_bind_1 fl_11_300 rfl trivial (obM_60 z1) ?_
  refine eg_if_le (tgt := 76) dX11_bind_4 rfl (fun c1 => ?_) (fun c1 => ?_)
  · have h := h.1 c1
    exact eg_vreturn dX11_bind_76 rfl h
  · have h := h.2 c1
    refine eg_aload_n 0 dX11_bind_7 rfl rfl ?_
    refine eg_getR dX11_bind_8 fl_11_63 rfl rfl (obM_60 z1) ?_
    show eg_W κ gM mtX11_bind d (eQV κ gM post) 11 [(0, vR (60, 0)), (1, vI l1)] [vR (102, 0)] M
    refine eg_aload_n 0 dX11_bind_11 rfl rfl ?_
    refine eg_getI dX11_bind_12 fl_11_300 rfl trivial (obM_60 z1) ?_
    refine eg_iconst dX11_bind_15 ic_1 ?_
    refine eg_isub dX11_bind_16 ?_
    obtain ⟨g2, h⟩ := h
    refine eg_iaload dX11_bind_17 (arM_102 z1 g2) ?_
    refine eg_callSI (av := [vI (M.1 (102, 0) ((M.1 (60, 0) 43) - (1 : Int32)).toNatClampNeg)]) (st := []) dX11_bind_18 ml_11_303 rfl rfl (Nat.le_of_ble_eq_true rfl) (eg_dd (by omega)) (sX11_rank (by omega) M (M.1 (102, 0) ((M.1 (60, 0) 43) - (1 : Int32)).toNatClampNeg)  ) (fun x4 M3 hp => ?_)
    obtain ⟨ex4, eM3⟩ := hp
    rw [eM3]
    have h := h x4 ex4
    refine eg_iload_n 1 dX11_bind_21 rfl rfl ?_
    refine eg_icmp_lt (tgt := 76) dX11_bind_22 rfl (fun c5 => ?_) (fun c5 => ?_)
    · have h := h.1 c5
      exact eg_vreturn dX11_bind_76 rfl h
    · have h := h.2 c5
      refine eg_aload_n 0 dX11_bind_25 rfl rfl ?_
      refine eg_dup dX11_bind_26 rfl ?_
      refine eg_getI dX11_bind_27 fl_11_300 rfl trivial (obM_60 z1) ?_
      refine eg_iconst dX11_bind_30 ic_1 ?_
      refine eg_isub dX11_bind_31 ?_
      refine en_putI dX11_bind_32 fl_11_300 rfl rfl (obM_60 z1) (fun M6 eM6 => ?_)
      have h := h M6 eM6
      refine eg_aload_n 0 dX11_bind_35 rfl rfl ?_
      refine eg_getR dX11_bind_36 fl_11_63 rfl rfl (obM_60 z1) ?_
      show eg_W κ gM mtX11_bind d (eQV κ gM post) 39 [(0, vR (60, 0)), (1, vI l1)] [vR (102, 0)] M6
      refine eg_aload_n 0 dX11_bind_39 rfl rfl ?_
      refine eg_getI dX11_bind_40 fl_11_300 rfl trivial (obM_60 z1) ?_
      obtain ⟨g7, h⟩ := h
      refine eg_iaload dX11_bind_43 (arM_102 z1 g7) ?_
      refine en_istore_n (f := fun x8 => [(2, vI x8), (0, vR (60, 0)), (1, vI l1)]) dX11_bind_44 rfl (by decide) rfl (fun x8 ex8 => ?_)
      have h := h x8 ex8
      refine eg_iload_n 0 dX11_bind_45 rfl rfl ?_
      refine eg_iconst dX11_bind_46 ic_2 ?_
      refine eg_icmp_ne (tgt := 54) dX11_bind_47 rfl (fun c9 => ?_) (fun c9 => ?_)
      · have h := h.1 c9
        refine eg_aload_n 1 dX11_bind_54 rfl rfl ?_
        obtain ⟨g10, h⟩ := h
        refine eg_callVI (av := []) (st := []) dX11_bind_55 ml_11_307 rfl rfl (obM_60 z1) (by decide) rfl (Nat.le_of_ble_eq_true rfl) (eg_dd (by omega)) (sX11_dropHeld (by omega) M6   g10) (fun x12 M11 eM11 => ?_)
        have h := h x12 M11 eM11
        refine eg_sub [1, 2, 0] rfl ?_
        exact h
      · have h := h.2 c9
        refine eg_iconst dX11_bind_50 ic_m1 ?_
        refine eg_goto (tgt := 58) dX11_bind_51 rfl ?_
        refine eg_sub [1, 2, 0] rfl ?_
        exact h
set_option maxRecDepth 10000 in
theorem vX11_bind_58 {κ : eg_K} {d : Nat} (hd : 1 ≤ d) {post : eg_H → Prop} (M : eg_H) (l1 : Int32) (l2 : Int32) (s0 : Int32) (h : (gX11_dropHeld M ∧ (∀ (x3 : Int32) (M2 : eg_H), (x3, M2) = fX11_dropHeld M → eCV κ gM mtX11_grown d [vR (60, 0), vI l2, vI x3, vI s0] M2 (fun M4 => eg_W κ gM mtX11_bind d (eQV κ gM post) 0 [(0, vR (60, 0)), (1, vI l1)] [] M4)))) : eg_W κ gM mtX11_bind d (eQV κ gM post) 58 [(0, vR (60, 0)), (1, vI l1), (2, vI l2)] [vI s0] M := by
  refine eg_istore_n dX11_bind_58 rfl (by decide) (ls1 := [(3, vI s0), (0, vR (60, 0)), (1, vI l1), (2, vI l2)]) rfl ?_
  refine eg_aload_n 1 dX11_bind_59 rfl rfl ?_
  obtain ⟨g1, h⟩ := h
  refine eg_callVI (av := []) (st := []) dX11_bind_60 ml_11_307 rfl rfl (obM_60 z1) (by decide) rfl (Nat.le_of_ble_eq_true rfl) (eg_dd (by omega)) (sX11_dropHeld (by omega) M   g1) (fun x3 M2 eM2 => ?_)
  have h := h x3 M2 eM2
  refine eg_istore dX11_bind_63 (by decide) (ls1 := [(4, vI x3), (3, vI s0), (0, vR (60, 0)), (1, vI l1), (2, vI l2)]) rfl ?_
  refine eg_aload_n 2 dX11_bind_65 rfl rfl ?_
  refine eg_iload_n 4 dX11_bind_66 rfl rfl ?_
  refine eg_iload 0 dX11_bind_67 rfl ?_
  refine eg_iload_n 1 dX11_bind_69 rfl rfl ?_
  obtain ⟨q5, hq5, h⟩ := h
  refine eg_callVV (av := [vI l2, vI x3, vI s0]) (st := []) dX11_bind_70 ml_11_310 rfl rfl (obM_60 z1) (by decide) rfl (Nat.le_of_ble_eq_true rfl) (eg_dd (by omega)) hq5 (fun M4 hp => ?_)
  have h := h M4 hp
  refine eg_goto (tgt := 0) dX11_bind_73 rfl ?_
  refine eg_sub [2, 3] rfl ?_
  exact h
theorem dX11_leafRead_0 : decode cX11_leafRead 0 = .ok (.aload_n 0, 1) := by decide +kernel
theorem dX11_leafRead_1 : decode cX11_leafRead 1 = .ok (.bipush 40, 2) := by decide +kernel
theorem dX11_leafRead_3 : decode cX11_leafRead 3 = .ok (.invokevirtual 291, 3) := by decide +kernel
theorem dX11_leafRead_6 : decode cX11_leafRead 6 = .ok (.ifCond .eq 44, 3) := by decide +kernel
theorem dX11_leafRead_9 : decode cX11_leafRead 9 = .ok (.aload_n 0, 1) := by decide +kernel
theorem dX11_leafRead_10 : decode cX11_leafRead 10 = .ok (.getfield 314, 3) := by decide +kernel
theorem dX11_leafRead_13 : decode cX11_leafRead 13 = .ok (.bipush 8, 2) := by decide +kernel
theorem dX11_leafRead_15 : decode cX11_leafRead 15 = .ok (.if_icmp .ne 9, 3) := by decide +kernel
theorem dX11_leafRead_18 : decode cX11_leafRead 18 = .ok (.aload_n 0, 1) := by decide +kernel
theorem dX11_leafRead_19 : decode cX11_leafRead 19 = .ok (.iconst 2, 1) := by decide +kernel
theorem dX11_leafRead_20 : decode cX11_leafRead 20 = .ok (.invokevirtual 168, 3) := by decide +kernel
theorem dX11_leafRead_23 : decode cX11_leafRead 23 = .ok (.ireturn, 1) := by decide +kernel
theorem dX11_leafRead_24 : decode cX11_leafRead 24 = .ok (.aload_n 0, 1) := by decide +kernel
theorem dX11_leafRead_25 : decode cX11_leafRead 25 = .ok (.dup, 1) := by decide +kernel
theorem dX11_leafRead_26 : decode cX11_leafRead 26 = .ok (.getfield 314, 3) := by decide +kernel
theorem dX11_leafRead_29 : decode cX11_leafRead 29 = .ok (.iconst 1, 1) := by decide +kernel
theorem dX11_leafRead_30 : decode cX11_leafRead 30 = .ok (.iadd, 1) := by decide +kernel
theorem dX11_leafRead_31 : decode cX11_leafRead 31 = .ok (.putfield 314, 3) := by decide +kernel
theorem dX11_leafRead_34 : decode cX11_leafRead 34 = .ok (.aload_n 0, 1) := by decide +kernel
theorem dX11_leafRead_35 : decode cX11_leafRead 35 = .ok (.iconst 0, 1) := by decide +kernel
theorem dX11_leafRead_36 : decode cX11_leafRead 36 = .ok (.invokevirtual 317, 3) := by decide +kernel
theorem dX11_leafRead_39 : decode cX11_leafRead 39 = .ok (.aload_n 0, 1) := by decide +kernel
theorem dX11_leafRead_40 : decode cX11_leafRead 40 = .ok (.iconst 1, 1) := by decide +kernel
theorem dX11_leafRead_41 : decode cX11_leafRead 41 = .ok (.putfield 321, 3) := by decide +kernel
theorem dX11_leafRead_44 : decode cX11_leafRead 44 = .ok (.aload_n 0, 1) := by decide +kernel
theorem dX11_leafRead_45 : decode cX11_leafRead 45 = .ok (.invokevirtual 178, 3) := by decide +kernel
theorem dX11_leafRead_48 : decode cX11_leafRead 48 = .ok (.iconst 1, 1) := by decide +kernel
theorem dX11_leafRead_49 : decode cX11_leafRead 49 = .ok (.ireturn, 1) := by decide +kernel
theorem dX11_leafRead_50 : decode cX11_leafRead 50 = .ok (.aload_n 0, 1) := by decide +kernel
theorem dX11_leafRead_51 : decode cX11_leafRead 51 = .ok (.bipush 15, 2) := by decide +kernel
theorem dX11_leafRead_53 : decode cX11_leafRead 53 = .ok (.invokevirtual 265, 3) := by decide +kernel
theorem dX11_leafRead_56 : decode cX11_leafRead 56 = .ok (.ifCond .eq 30, 3) := by decide +kernel
theorem dX11_leafRead_59 : decode cX11_leafRead 59 = .ok (.aload_n 0, 1) := by decide +kernel
theorem dX11_leafRead_60 : decode cX11_leafRead 60 = .ok (.getfield 321, 3) := by decide +kernel
theorem dX11_leafRead_63 : decode cX11_leafRead 63 = .ok (.ifCond .eq 23, 3) := by decide +kernel
theorem dX11_leafRead_66 : decode cX11_leafRead 66 = .ok (.aload_n 0, 1) := by decide +kernel
theorem dX11_leafRead_67 : decode cX11_leafRead 67 = .ok (.invokevirtual 324, 3) := by decide +kernel
theorem dX11_leafRead_70 : decode cX11_leafRead 70 = .ok (.ifCond .ne 5, 3) := by decide +kernel
theorem dX11_leafRead_73 : decode cX11_leafRead 73 = .ok (.iconst 0, 1) := by decide +kernel
theorem dX11_leafRead_74 : decode cX11_leafRead 74 = .ok (.ireturn, 1) := by decide +kernel
theorem dX11_leafRead_75 : decode cX11_leafRead 75 = .ok (.aload_n 0, 1) := by decide +kernel
theorem dX11_leafRead_76 : decode cX11_leafRead 76 = .ok (.iconst 2, 1) := by decide +kernel
theorem dX11_leafRead_77 : decode cX11_leafRead 77 = .ok (.invokevirtual 317, 3) := by decide +kernel
theorem dX11_leafRead_80 : decode cX11_leafRead 80 = .ok (.aload_n 0, 1) := by decide +kernel
theorem dX11_leafRead_81 : decode cX11_leafRead 81 = .ok (.invokevirtual 178, 3) := by decide +kernel
theorem dX11_leafRead_84 : decode cX11_leafRead 84 = .ok (.iconst 1, 1) := by decide +kernel
theorem dX11_leafRead_85 : decode cX11_leafRead 85 = .ok (.ireturn, 1) := by decide +kernel
theorem dX11_leafRead_86 : decode cX11_leafRead 86 = .ok (.aload_n 0, 1) := by decide +kernel
theorem dX11_leafRead_87 : decode cX11_leafRead 87 = .ok (.getfield 145, 3) := by decide +kernel
theorem dX11_leafRead_90 : decode cX11_leafRead 90 = .ok (.iconst 1, 1) := by decide +kernel
theorem dX11_leafRead_91 : decode cX11_leafRead 91 = .ok (.if_icmp .ne 16, 3) := by decide +kernel
theorem dX11_leafRead_94 : decode cX11_leafRead 94 = .ok (.aload_n 0, 1) := by decide +kernel
theorem dX11_leafRead_95 : decode cX11_leafRead 95 = .ok (.getfield 156, 3) := by decide +kernel
theorem dX11_leafRead_98 : decode cX11_leafRead 98 = .ok (.bipush 16, 2) := by decide +kernel
theorem dX11_leafRead_100 : decode cX11_leafRead 100 = .ok (.if_icmp .lt 7, 3) := by decide +kernel
theorem dX11_leafRead_103 : decode cX11_leafRead 103 = .ok (.iconst 1, 1) := by decide +kernel
theorem dX11_leafRead_104 : decode cX11_leafRead 104 = .ok (.goto 4, 3) := by decide +kernel
theorem dX11_leafRead_107 : decode cX11_leafRead 107 = .ok (.iconst 0, 1) := by decide +kernel
theorem dX11_leafRead_108 : decode cX11_leafRead 108 = .ok (.istore_n 1, 1) := by decide +kernel
theorem dX11_leafRead_109 : decode cX11_leafRead 109 = .ok (.iload_n 1, 1) := by decide +kernel
theorem dX11_leafRead_110 : decode cX11_leafRead 110 = .ok (.ifCond .ne 17, 3) := by decide +kernel
theorem dX11_leafRead_113 : decode cX11_leafRead 113 = .ok (.aload_n 0, 1) := by decide +kernel
theorem dX11_leafRead_114 : decode cX11_leafRead 114 = .ok (.getfield 145, 3) := by decide +kernel
theorem dX11_leafRead_117 : decode cX11_leafRead 117 = .ok (.iconst 3, 1) := by decide +kernel
theorem dX11_leafRead_118 : decode cX11_leafRead 118 = .ok (.if_icmp .eq 9, 3) := by decide +kernel
theorem dX11_leafRead_121 : decode cX11_leafRead 121 = .ok (.aload_n 0, 1) := by decide +kernel
theorem dX11_leafRead_122 : decode cX11_leafRead 122 = .ok (.iconst 1, 1) := by decide +kernel
theorem dX11_leafRead_123 : decode cX11_leafRead 123 = .ok (.invokevirtual 168, 3) := by decide +kernel
theorem dX11_leafRead_126 : decode cX11_leafRead 126 = .ok (.ireturn, 1) := by decide +kernel
theorem dX11_leafRead_127 : decode cX11_leafRead 127 = .ok (.iload_n 1, 1) := by decide +kernel
theorem dX11_leafRead_128 : decode cX11_leafRead 128 = .ok (.ifCond .ne 19, 3) := by decide +kernel
theorem dX11_leafRead_131 : decode cX11_leafRead 131 = .ok (.aload_n 0, 1) := by decide +kernel
theorem dX11_leafRead_132 : decode cX11_leafRead 132 = .ok (.getfield 156, 3) := by decide +kernel
theorem dX11_leafRead_135 : decode cX11_leafRead 135 = .ok (.sipush 9999, 3) := by decide +kernel
theorem dX11_leafRead_138 : decode cX11_leafRead 138 = .ok (.if_icmp .le 9, 3) := by decide +kernel
theorem dX11_leafRead_141 : decode cX11_leafRead 141 = .ok (.aload_n 0, 1) := by decide +kernel
theorem dX11_leafRead_142 : decode cX11_leafRead 142 = .ok (.iconst 2, 1) := by decide +kernel
theorem dX11_leafRead_143 : decode cX11_leafRead 143 = .ok (.invokevirtual 168, 3) := by decide +kernel
theorem dX11_leafRead_146 : decode cX11_leafRead 146 = .ok (.ireturn, 1) := by decide +kernel
theorem dX11_leafRead_147 : decode cX11_leafRead 147 = .ok (.aload_n 0, 1) := by decide +kernel
theorem dX11_leafRead_148 : decode cX11_leafRead 148 = .ok (.invokevirtual 324, 3) := by decide +kernel
theorem dX11_leafRead_151 : decode cX11_leafRead 151 = .ok (.ifCond .ne 5, 3) := by decide +kernel
theorem dX11_leafRead_154 : decode cX11_leafRead 154 = .ok (.iconst 0, 1) := by decide +kernel
theorem dX11_leafRead_155 : decode cX11_leafRead 155 = .ok (.ireturn, 1) := by decide +kernel
theorem dX11_leafRead_156 : decode cX11_leafRead 156 = .ok (.aload_n 0, 1) := by decide +kernel
theorem dX11_leafRead_157 : decode cX11_leafRead 157 = .ok (.iload_n 1, 1) := by decide +kernel
theorem dX11_leafRead_158 : decode cX11_leafRead 158 = .ok (.ifCond .eq 7, 3) := by decide +kernel
theorem dX11_leafRead_161 : decode cX11_leafRead 161 = .ok (.iconst 1, 1) := by decide +kernel
theorem dX11_leafRead_162 : decode cX11_leafRead 162 = .ok (.goto 4, 3) := by decide +kernel
theorem dX11_leafRead_165 : decode cX11_leafRead 165 = .ok (.iconst 0, 1) := by decide +kernel
theorem dX11_leafRead_166 : decode cX11_leafRead 166 = .ok (.iload_n 1, 1) := by decide +kernel
theorem dX11_leafRead_167 : decode cX11_leafRead 167 = .ok (.ifCond .eq 13, 3) := by decide +kernel
theorem dX11_leafRead_170 : decode cX11_leafRead 170 = .ok (.aload_n 0, 1) := by decide +kernel
theorem dX11_leafRead_171 : decode cX11_leafRead 171 = .ok (.getfield 156, 3) := by decide +kernel
theorem dX11_leafRead_174 : decode cX11_leafRead 174 = .ok (.bipush 16, 2) := by decide +kernel
theorem dX11_leafRead_176 : decode cX11_leafRead 176 = .ok (.isub, 1) := by decide +kernel
theorem dX11_leafRead_177 : decode cX11_leafRead 177 = .ok (.goto 7, 3) := by decide +kernel
theorem dX11_leafRead_180 : decode cX11_leafRead 180 = .ok (.aload_n 0, 1) := by decide +kernel
theorem dX11_leafRead_181 : decode cX11_leafRead 181 = .ok (.getfield 156, 3) := by decide +kernel
theorem dX11_leafRead_184 : decode cX11_leafRead 184 = .ok (.iconst 0, 1) := by decide +kernel
theorem dX11_leafRead_185 : decode cX11_leafRead 185 = .ok (.invokevirtual 310, 3) := by decide +kernel
theorem dX11_leafRead_188 : decode cX11_leafRead 188 = .ok (.aload_n 0, 1) := by decide +kernel
theorem dX11_leafRead_189 : decode cX11_leafRead 189 = .ok (.iconst 0, 1) := by decide +kernel
theorem dX11_leafRead_190 : decode cX11_leafRead 190 = .ok (.putfield 327, 3) := by decide +kernel
theorem dX11_leafRead_193 : decode cX11_leafRead 193 = .ok (.aload_n 0, 1) := by decide +kernel
theorem dX11_leafRead_194 : decode cX11_leafRead 194 = .ok (.invokevirtual 178, 3) := by decide +kernel
theorem dX11_leafRead_197 : decode cX11_leafRead 197 = .ok (.iconst 1, 1) := by decide +kernel
theorem dX11_leafRead_198 : decode cX11_leafRead 198 = .ok (.ireturn, 1) := by decide +kernel
set_option maxRecDepth 10000 in
theorem vX11_leafRead_0 {κ : eg_K} {d : Nat} (hd : 2 ≤ d) {post : Int32 → eg_H → Prop} (M : eg_H)  (h : (∀ x2 : Int32, x2 = (fX11_isSign M (40 : Int32)) → (x2 = 0 → (∀ x5 : Int32, x5 = (fX11_isKey M (15 : Int32)) → (x5 = 0 → eg_W κ gM mtX11_leafRead d (eQI κ gM post) 86 [(0, vR (60, 0))] [] M) ∧ ((¬ x5 = 0) → ((M.1 (60, 0) 48) = 0 → eg_W κ gM mtX11_leafRead d (eQI κ gM post) 86 [(0, vR (60, 0))] [] M) ∧ ((¬ (M.1 (60, 0) 48) = 0) → (∀ (x9 : Int32) (M8 : eg_H), (x9, M8) = fX11_isCounted M → ((¬ x9 = 0) → (gX11_waitsFor M8 (2 : Int32) ∧ (∀ M12 : eg_H, M12 = (fX11_waitsFor M8 (2 : Int32)) → eCV κ gM mtX11_token d [vR (60, 0)] M12 (fun M14 => post (1 : Int32) M14)))) ∧ (x9 = 0 → post (0 : Int32) M8)))))) ∧ ((¬ x2 = 0) → ((¬ (M.1 (60, 0) 45) = (8 : Int32)) → (∀ M17 : eg_H, M17 = (sI M (60, 0) 45 ((M.1 (60, 0) 45) + (1 : Int32))) → (gX11_waitsFor M17 (0 : Int32) ∧ (∀ M19 : eg_H, M19 = (fX11_waitsFor M17 (0 : Int32)) → (∀ M21 : eg_H, M21 = (sI M19 (60, 0) 48 (1 : Int32)) → eCV κ gM mtX11_token d [vR (60, 0)] M21 (fun M22 => post (1 : Int32) M22)))))) ∧ ((M.1 (60, 0) 45) = (8 : Int32) → (∀ (x25 : Int32) (M24 : eg_H), (x25, M24) = fX11_wrong M (2 : Int32) → post x25 M24))))) : eg_W κ gM mtX11_leafRead d (eQI κ gM post) 0 [(0, vR (60, 0))] [] M := by
  refine eg_aload_n 0 dX11_leafRead_0 rfl rfl ?_
  refine eg_bipush dX11_leafRead_1 bp_40 ?_
  refine eg_callVI (av := [vI (40 : Int32)]) (st := []) dX11_leafRead_3 ml_11_291 rfl rfl (obM_60 z1) (by decide) rfl (Nat.le_of_ble_eq_true rfl) (eg_dd (by omega)) (sX11_isSign (by omega) M (40 : Int32)  ) (fun x2 M1 hp => ?_)
  obtain ⟨ex2, eM1⟩ := hp
  rw [eM1]
  have h := h x2 ex2
  refine eg_if_eq (tgt := 50) dX11_leafRead_6 rfl (fun c3 => ?_) (fun c3 => ?_)
  · have h := h.1 c3
    refine eg_aload_n 0 dX11_leafRead_50 rfl rfl ?_
    refine eg_bipush dX11_leafRead_51 bp_15 ?_
    refine eg_callVI (av := [vI (15 : Int32)]) (st := []) dX11_leafRead_53 ml_11_265 rfl rfl (obM_60 z1) (by decide) rfl (Nat.le_of_ble_eq_true rfl) (eg_dd (by omega)) (sX11_isKey (by omega) M (15 : Int32)  ) (fun x5 M4 hp => ?_)
    obtain ⟨ex5, eM4⟩ := hp
    rw [eM4]
    have h := h x5 ex5
    refine eg_if_eq (tgt := 86) dX11_leafRead_56 rfl (fun c6 => ?_) (fun c6 => ?_)
    · have h := h.1 c6
      exact h
    · have h := h.2 c6
      refine eg_aload_n 0 dX11_leafRead_59 rfl rfl ?_
      refine eg_getI dX11_leafRead_60 fl_11_321 rfl trivial (obM_60 z1) ?_
      refine eg_if_eq (tgt := 86) dX11_leafRead_63 rfl (fun c7 => ?_) (fun c7 => ?_)
      · have h := h.1 c7
        exact h
      · have h := h.2 c7
        refine eg_aload_n 0 dX11_leafRead_66 rfl rfl ?_
        refine eg_callVI (av := []) (st := []) dX11_leafRead_67 ml_11_324 rfl rfl (obM_60 z1) (by decide) rfl (Nat.le_of_ble_eq_true rfl) (eg_dd (by omega)) (sX11_isCounted (by omega) M   ) (fun x9 M8 eM8 => ?_)
        have h := h x9 M8 eM8
        refine eg_if_ne (tgt := 75) dX11_leafRead_70 rfl (fun c10 => ?_) (fun c10 => ?_)
        · have h := h.1 c10
          refine eg_aload_n 0 dX11_leafRead_75 rfl rfl ?_
          refine eg_iconst dX11_leafRead_76 ic_2 ?_
          obtain ⟨g11, h⟩ := h
          refine eg_callVV (av := [vI (2 : Int32)]) (st := []) dX11_leafRead_77 ml_11_317 rfl rfl (obM_60 z1) (by decide) rfl (Nat.le_of_ble_eq_true rfl) (eg_dd (by omega)) (sX11_waitsFor (by omega) M8 (2 : Int32)  g11) (fun M12 eM12 => ?_)
          have h := h M12 eM12
          refine eg_aload_n 0 dX11_leafRead_80 rfl rfl ?_
          obtain ⟨q15, hq15, h⟩ := h
          refine eg_callVV (av := []) (st := []) dX11_leafRead_81 ml_11_178 rfl rfl (obM_60 z1) (by decide) rfl (Nat.le_of_ble_eq_true rfl) (eg_dd (by omega)) hq15 (fun M14 hp => ?_)
          have h := h M14 hp
          refine eg_iconst dX11_leafRead_84 ic_1 ?_
          exact eg_zreturn dX11_leafRead_85 rfl (Or.inr rfl) h
        · have h := h.2 c10
          refine eg_iconst dX11_leafRead_73 ic_0 ?_
          exact eg_zreturn dX11_leafRead_74 rfl (Or.inl rfl) h
  · have h := h.2 c3
    refine eg_aload_n 0 dX11_leafRead_9 rfl rfl ?_
    refine eg_getI dX11_leafRead_10 fl_11_314 rfl trivial (obM_60 z1) ?_
    refine eg_bipush dX11_leafRead_13 bp_8 ?_
    refine eg_icmp_ne (tgt := 24) dX11_leafRead_15 rfl (fun c16 => ?_) (fun c16 => ?_)
    · have h := h.1 c16
      refine eg_aload_n 0 dX11_leafRead_24 rfl rfl ?_
      refine eg_dup dX11_leafRead_25 rfl ?_
      refine eg_getI dX11_leafRead_26 fl_11_314 rfl trivial (obM_60 z1) ?_
      refine eg_iconst dX11_leafRead_29 ic_1 ?_
      refine eg_iadd dX11_leafRead_30 ?_
      refine en_putI dX11_leafRead_31 fl_11_314 rfl rfl (obM_60 z1) (fun M17 eM17 => ?_)
      have h := h M17 eM17
      refine eg_aload_n 0 dX11_leafRead_34 rfl rfl ?_
      refine eg_iconst dX11_leafRead_35 ic_0 ?_
      obtain ⟨g18, h⟩ := h
      refine eg_callVV (av := [vI (0 : Int32)]) (st := []) dX11_leafRead_36 ml_11_317 rfl rfl (obM_60 z1) (by decide) rfl (Nat.le_of_ble_eq_true rfl) (eg_dd (by omega)) (sX11_waitsFor (by omega) M17 (0 : Int32)  g18) (fun M19 eM19 => ?_)
      have h := h M19 eM19
      refine eg_aload_n 0 dX11_leafRead_39 rfl rfl ?_
      refine eg_iconst dX11_leafRead_40 ic_1 ?_
      refine en_putZ dX11_leafRead_41 fl_11_321 rfl rfl (Or.inr rfl) (obM_60 z1) (fun M21 eM21 => ?_)
      have h := h M21 eM21
      refine eg_aload_n 0 dX11_leafRead_44 rfl rfl ?_
      obtain ⟨q23, hq23, h⟩ := h
      refine eg_callVV (av := []) (st := []) dX11_leafRead_45 ml_11_178 rfl rfl (obM_60 z1) (by decide) rfl (Nat.le_of_ble_eq_true rfl) (eg_dd (by omega)) hq23 (fun M22 hp => ?_)
      have h := h M22 hp
      refine eg_iconst dX11_leafRead_48 ic_1 ?_
      exact eg_zreturn dX11_leafRead_49 rfl (Or.inr rfl) h
    · have h := h.2 c16
      refine eg_aload_n 0 dX11_leafRead_18 rfl rfl ?_
      refine eg_iconst dX11_leafRead_19 ic_2 ?_
      refine eg_callVI (av := [vI (2 : Int32)]) (st := []) dX11_leafRead_20 ml_11_168 rfl rfl (obM_60 z1) (by decide) rfl (Nat.le_of_ble_eq_true rfl) (eg_dd (by omega)) (sX11_wrong (by omega) M (2 : Int32)  ) (fun x25 M24 eM24 => ?_)
      have h := h x25 M24 eM24
      exact eg_zreturn dX11_leafRead_23 rfl (show x25 = 0 ∨ x25 = 1 from by rw [show x25 = _ from congrArg Prod.fst eM24]; exact zX11_wrong M (2 : Int32)) h
set_option maxRecDepth 10000 in
theorem vX11_leafRead_86 {κ : eg_K} {d : Nat} (hd : 1 ≤ d) {post : Int32 → eg_H → Prop} (M : eg_H)  (h : (∀ x1 : Int32, x1 = ((if (¬ (M.1 (60, 0) 8) = (1 : Int32)) then (0 : Int32) else (if (M.1 (60, 0) 9) < (16 : Int32) then (0 : Int32) else (1 : Int32)))) → ((¬ x1 = 0) → eg_W κ gM mtX11_leafRead d (eQI κ gM post) 127 [(0, vR (60, 0)), (1, vI x1)] [] M) ∧ (x1 = 0 → ((M.1 (60, 0) 8) = (3 : Int32) → eg_W κ gM mtX11_leafRead d (eQI κ gM post) 127 [(0, vR (60, 0)), (1, vI x1)] [] M) ∧ ((¬ (M.1 (60, 0) 8) = (3 : Int32)) → (∀ (x5 : Int32) (M4 : eg_H), (x5, M4) = fX11_wrong M (1 : Int32) → post x5 M4))))) : eg_W κ gM mtX11_leafRead d (eQI κ gM post) 86 [(0, vR (60, 0))] [] M := by
  refine eg_aload_n 0 dX11_leafRead_86 rfl rfl ?_
  refine eg_getI dX11_leafRead_87 fl_11_145 rfl trivial (obM_60 z1) ?_
  refine eg_iconst dX11_leafRead_90 ic_1 ?_
  have J : ∀ x1 : Int32, x1 = (if (¬ (M.1 (60, 0) 8) = (1 : Int32)) then (0 : Int32) else (if (M.1 (60, 0) 9) < (16 : Int32) then (0 : Int32) else (1 : Int32))) → eg_W κ gM mtX11_leafRead d (eQI κ gM post) 108 [(0, vR (60, 0))] [vI x1] M := by
    intro x1 ex1
    have h := h x1 ex1
    refine eg_istore_n dX11_leafRead_108 rfl (by decide) (ls1 := [(1, vI x1), (0, vR (60, 0))]) rfl ?_
    refine eg_iload_n 0 dX11_leafRead_109 rfl rfl ?_
    refine eg_if_ne (tgt := 127) dX11_leafRead_110 rfl (fun c2 => ?_) (fun c2 => ?_)
    · have h := h.1 c2
      refine eg_sub [1, 0] rfl ?_
      exact h
    · have h := h.2 c2
      refine eg_aload_n 1 dX11_leafRead_113 rfl rfl ?_
      refine eg_getI dX11_leafRead_114 fl_11_145 rfl trivial (obM_60 z1) ?_
      refine eg_iconst dX11_leafRead_117 ic_3 ?_
      refine eg_icmp_eq (tgt := 127) dX11_leafRead_118 rfl (fun c3 => ?_) (fun c3 => ?_)
      · have h := h.1 c3
        refine eg_sub [1, 0] rfl ?_
        exact h
      · have h := h.2 c3
        refine eg_aload_n 1 dX11_leafRead_121 rfl rfl ?_
        refine eg_iconst dX11_leafRead_122 ic_1 ?_
        refine eg_callVI (av := [vI (1 : Int32)]) (st := []) dX11_leafRead_123 ml_11_168 rfl rfl (obM_60 z1) (by decide) rfl (Nat.le_of_ble_eq_true rfl) (eg_dd (by omega)) (sX11_wrong (by omega) M (1 : Int32)  ) (fun x5 M4 eM4 => ?_)
        have h := h x5 M4 eM4
        exact eg_zreturn dX11_leafRead_126 rfl (show x5 = 0 ∨ x5 = 1 from by rw [show x5 = _ from congrArg Prod.fst eM4]; exact zX11_wrong M (1 : Int32)) h
  clear h
  refine eg_icmp_ne (tgt := 107) dX11_leafRead_91 rfl (fun c6 => ?_) (fun c6 => ?_)
  · refine eg_iconst dX11_leafRead_107 ic_0 ?_
    exact J _ (by rw [if_pos c6])
  · have c7 : ¬ (¬ (M.1 (60, 0) 8) = (1 : Int32)) := fun z => z c6
    refine eg_aload_n 0 dX11_leafRead_94 rfl rfl ?_
    refine eg_getI dX11_leafRead_95 fl_11_156 rfl trivial (obM_60 z1) ?_
    refine eg_bipush dX11_leafRead_98 bp_16 ?_
    refine eg_icmp_lt (tgt := 107) dX11_leafRead_100 rfl (fun c8 => ?_) (fun c8 => ?_)
    · refine eg_iconst dX11_leafRead_107 ic_0 ?_
      exact J _ (by rw [if_neg c7, if_pos c8])
    · refine eg_iconst dX11_leafRead_103 ic_1 ?_
      refine eg_goto (tgt := 108) dX11_leafRead_104 rfl ?_
      exact J _ (by rw [if_neg c7, if_neg c8])
set_option maxRecDepth 10000 in
theorem vX11_leafRead_127 {κ : eg_K} {d : Nat} (hd : 1 ≤ d) {post : Int32 → eg_H → Prop} (M : eg_H) (l1 : Int32) (h : ((¬ l1 = 0) → eg_W κ gM mtX11_leafRead d (eQI κ gM post) 147 [(0, vR (60, 0)), (1, vI l1)] [] M) ∧ (l1 = 0 → ((M.1 (60, 0) 9) ≤ (9999 : Int32) → eg_W κ gM mtX11_leafRead d (eQI κ gM post) 147 [(0, vR (60, 0)), (1, vI l1)] [] M) ∧ ((¬ (M.1 (60, 0) 9) ≤ (9999 : Int32)) → (∀ (x4 : Int32) (M3 : eg_H), (x4, M3) = fX11_wrong M (2 : Int32) → post x4 M3)))) : eg_W κ gM mtX11_leafRead d (eQI κ gM post) 127 [(0, vR (60, 0)), (1, vI l1)] [] M := by
  refine eg_iload_n 1 dX11_leafRead_127 rfl rfl ?_
  refine eg_if_ne (tgt := 147) dX11_leafRead_128 rfl (fun c1 => ?_) (fun c1 => ?_)
  · have h := h.1 c1
    exact h
  · have h := h.2 c1
    refine eg_aload_n 0 dX11_leafRead_131 rfl rfl ?_
    refine eg_getI dX11_leafRead_132 fl_11_156 rfl trivial (obM_60 z1) ?_
    refine eg_sipush dX11_leafRead_135 sp_9999 ?_
    refine eg_icmp_le (tgt := 147) dX11_leafRead_138 rfl (fun c2 => ?_) (fun c2 => ?_)
    · have h := h.1 c2
      exact h
    · have h := h.2 c2
      refine eg_aload_n 0 dX11_leafRead_141 rfl rfl ?_
      refine eg_iconst dX11_leafRead_142 ic_2 ?_
      refine eg_callVI (av := [vI (2 : Int32)]) (st := []) dX11_leafRead_143 ml_11_168 rfl rfl (obM_60 z1) (by decide) rfl (Nat.le_of_ble_eq_true rfl) (eg_dd (by omega)) (sX11_wrong (by omega) M (2 : Int32)  ) (fun x4 M3 eM3 => ?_)
      have h := h x4 M3 eM3
      exact eg_zreturn dX11_leafRead_146 rfl (show x4 = 0 ∨ x4 = 1 from by rw [show x4 = _ from congrArg Prod.fst eM3]; exact zX11_wrong M (2 : Int32)) h
set_option maxRecDepth 10000 in
theorem vX11_leafRead_147 {κ : eg_K} {d : Nat} (hd : 2 ≤ d) {post : Int32 → eg_H → Prop} (M : eg_H) (l1 : Int32) (h : (∀ (x2 : Int32) (M1 : eg_H), (x2, M1) = fX11_isCounted M → ((¬ x2 = 0) → (∀ x4 : Int32, x4 = ((if l1 = 0 then (0 : Int32) else (1 : Int32))) → (∀ x5 : Int32, x5 = ((if l1 = 0 then (M1.1 (60, 0) 9) else ((M1.1 (60, 0) 9) - (16 : Int32)))) → eCV κ gM mtX11_grown d [vR (60, 0), vI x4, vI x5, vI (0 : Int32)] M1 (fun M6 => (∀ M8 : eg_H, M8 = (sI M6 (60, 0) 47 (0 : Int32)) → eCV κ gM mtX11_token d [vR (60, 0)] M8 (fun M9 => post (1 : Int32) M9)))))) ∧ (x2 = 0 → post (0 : Int32) M1))) : eg_W κ gM mtX11_leafRead d (eQI κ gM post) 147 [(0, vR (60, 0)), (1, vI l1)] [] M := by
  refine eg_aload_n 0 dX11_leafRead_147 rfl rfl ?_
  refine eg_callVI (av := []) (st := []) dX11_leafRead_148 ml_11_324 rfl rfl (obM_60 z1) (by decide) rfl (Nat.le_of_ble_eq_true rfl) (eg_dd (by omega)) (sX11_isCounted (by omega) M   ) (fun x2 M1 eM1 => ?_)
  have h := h x2 M1 eM1
  refine eg_if_ne (tgt := 156) dX11_leafRead_151 rfl (fun c3 => ?_) (fun c3 => ?_)
  · have h := h.1 c3
    refine eg_aload_n 0 dX11_leafRead_156 rfl rfl ?_
    refine eg_iload_n 1 dX11_leafRead_157 rfl rfl ?_
    have J : ∀ x4 : Int32, x4 = (if l1 = 0 then (0 : Int32) else (1 : Int32)) → eg_W κ gM mtX11_leafRead d (eQI κ gM post) 166 [(0, vR (60, 0)), (1, vI l1)] [vI x4, vR (60, 0)] M1 := by
      intro x4 ex4
      have h := h x4 ex4
      refine eg_iload_n 1 dX11_leafRead_166 rfl rfl ?_
      have J : ∀ x5 : Int32, x5 = (if l1 = 0 then (M1.1 (60, 0) 9) else ((M1.1 (60, 0) 9) - (16 : Int32))) → eg_W κ gM mtX11_leafRead d (eQI κ gM post) 184 [(0, vR (60, 0)), (1, vI l1)] [vI x5, vI x4, vR (60, 0)] M1 := by
        intro x5 ex5
        have h := h x5 ex5
        refine eg_iconst dX11_leafRead_184 ic_0 ?_
        obtain ⟨q7, hq7, h⟩ := h
        refine eg_callVV (av := [vI x4, vI x5, vI (0 : Int32)]) (st := []) dX11_leafRead_185 ml_11_310 rfl rfl (obM_60 z1) (by decide) rfl (Nat.le_of_ble_eq_true rfl) (eg_dd (by omega)) hq7 (fun M6 hp => ?_)
        have h := h M6 hp
        refine eg_aload_n 0 dX11_leafRead_188 rfl rfl ?_
        refine eg_iconst dX11_leafRead_189 ic_0 ?_
        refine en_putZ dX11_leafRead_190 fl_11_327 rfl rfl (Or.inl rfl) (obM_60 z1) (fun M8 eM8 => ?_)
        have h := h M8 eM8
        refine eg_aload_n 0 dX11_leafRead_193 rfl rfl ?_
        obtain ⟨q10, hq10, h⟩ := h
        refine eg_callVV (av := []) (st := []) dX11_leafRead_194 ml_11_178 rfl rfl (obM_60 z1) (by decide) rfl (Nat.le_of_ble_eq_true rfl) (eg_dd (by omega)) hq10 (fun M9 hp => ?_)
        have h := h M9 hp
        refine eg_iconst dX11_leafRead_197 ic_1 ?_
        exact eg_zreturn dX11_leafRead_198 rfl (Or.inr rfl) h
      clear h
      refine eg_if_eq (tgt := 180) dX11_leafRead_167 rfl (fun c11 => ?_) (fun c11 => ?_)
      · refine eg_aload_n 0 dX11_leafRead_180 rfl rfl ?_
        refine eg_getI dX11_leafRead_181 fl_11_156 rfl trivial (obM_60 z1) ?_
        exact J _ (by rw [if_pos c11])
      · refine eg_aload_n 0 dX11_leafRead_170 rfl rfl ?_
        refine eg_getI dX11_leafRead_171 fl_11_156 rfl trivial (obM_60 z1) ?_
        refine eg_bipush dX11_leafRead_174 bp_16 ?_
        refine eg_isub dX11_leafRead_176 ?_
        refine eg_goto (tgt := 184) dX11_leafRead_177 rfl ?_
        exact J _ (by rw [if_neg c11])
    clear h
    refine eg_if_eq (tgt := 165) dX11_leafRead_158 rfl (fun c12 => ?_) (fun c12 => ?_)
    · refine eg_iconst dX11_leafRead_165 ic_0 ?_
      exact J _ (by rw [if_pos c12])
    · refine eg_iconst dX11_leafRead_161 ic_1 ?_
      refine eg_goto (tgt := 166) dX11_leafRead_162 rfl ?_
      exact J _ (by rw [if_neg c12])
  · have h := h.2 c3
    refine eg_iconst dX11_leafRead_154 ic_0 ?_
    exact eg_zreturn dX11_leafRead_155 rfl (Or.inl rfl) h
theorem dX11_signs_0 : decode cX11_signs 0 = .ok (.aload_n 0, 1) := by decide +kernel
theorem dX11_signs_1 : decode cX11_signs 1 = .ok (.bipush 41, 2) := by decide +kernel
theorem dX11_signs_3 : decode cX11_signs 3 = .ok (.invokevirtual 291, 3) := by decide +kernel
theorem dX11_signs_6 : decode cX11_signs 6 = .ok (.ifCond .eq 41, 3) := by decide +kernel
theorem dX11_signs_9 : decode cX11_signs 9 = .ok (.aload_n 0, 1) := by decide +kernel
theorem dX11_signs_10 : decode cX11_signs 10 = .ok (.getfield 314, 3) := by decide +kernel
theorem dX11_signs_13 : decode cX11_signs 13 = .ok (.ifCond .le 34, 3) := by decide +kernel
theorem dX11_signs_16 : decode cX11_signs 16 = .ok (.aload_n 0, 1) := by decide +kernel
theorem dX11_signs_17 : decode cX11_signs 17 = .ok (.iconst 1, 1) := by decide +kernel
theorem dX11_signs_18 : decode cX11_signs 18 = .ok (.invokevirtual 330, 3) := by decide +kernel
theorem dX11_signs_21 : decode cX11_signs 21 = .ok (.aload_n 0, 1) := by decide +kernel
theorem dX11_signs_22 : decode cX11_signs 22 = .ok (.dup, 1) := by decide +kernel
theorem dX11_signs_23 : decode cX11_signs 23 = .ok (.getfield 300, 3) := by decide +kernel
theorem dX11_signs_26 : decode cX11_signs 26 = .ok (.iconst 1, 1) := by decide +kernel
theorem dX11_signs_27 : decode cX11_signs 27 = .ok (.isub, 1) := by decide +kernel
theorem dX11_signs_28 : decode cX11_signs 28 = .ok (.putfield 300, 3) := by decide +kernel
theorem dX11_signs_31 : decode cX11_signs 31 = .ok (.aload_n 0, 1) := by decide +kernel
theorem dX11_signs_32 : decode cX11_signs 32 = .ok (.dup, 1) := by decide +kernel
theorem dX11_signs_33 : decode cX11_signs 33 = .ok (.getfield 314, 3) := by decide +kernel
theorem dX11_signs_36 : decode cX11_signs 36 = .ok (.iconst 1, 1) := by decide +kernel
theorem dX11_signs_37 : decode cX11_signs 37 = .ok (.isub, 1) := by decide +kernel
theorem dX11_signs_38 : decode cX11_signs 38 = .ok (.putfield 314, 3) := by decide +kernel
theorem dX11_signs_41 : decode cX11_signs 41 = .ok (.aload_n 0, 1) := by decide +kernel
theorem dX11_signs_42 : decode cX11_signs 42 = .ok (.invokevirtual 178, 3) := by decide +kernel
theorem dX11_signs_45 : decode cX11_signs 45 = .ok (.iconst 1, 1) := by decide +kernel
theorem dX11_signs_46 : decode cX11_signs 46 = .ok (.ireturn, 1) := by decide +kernel
theorem dX11_signs_47 : decode cX11_signs 47 = .ok (.aload_n 0, 1) := by decide +kernel
theorem dX11_signs_48 : decode cX11_signs 48 = .ok (.bipush 13, 2) := by decide +kernel
theorem dX11_signs_50 : decode cX11_signs 50 = .ok (.invokevirtual 265, 3) := by decide +kernel
theorem dX11_signs_53 : decode cX11_signs 53 = .ok (.ifCond .eq 7, 3) := by decide +kernel
theorem dX11_signs_56 : decode cX11_signs 56 = .ok (.iconst 3, 1) := by decide +kernel
theorem dX11_signs_57 : decode cX11_signs 57 = .ok (.goto 90, 3) := by decide +kernel
theorem dX11_signs_60 : decode cX11_signs 60 = .ok (.aload_n 0, 1) := by decide +kernel
theorem dX11_signs_61 : decode cX11_signs 61 = .ok (.bipush 14, 2) := by decide +kernel
theorem dX11_signs_63 : decode cX11_signs 63 = .ok (.invokevirtual 265, 3) := by decide +kernel
theorem dX11_signs_66 : decode cX11_signs 66 = .ok (.ifCond .eq 7, 3) := by decide +kernel
theorem dX11_signs_69 : decode cX11_signs 69 = .ok (.iconst 4, 1) := by decide +kernel
theorem dX11_signs_70 : decode cX11_signs 70 = .ok (.goto 77, 3) := by decide +kernel
theorem dX11_signs_73 : decode cX11_signs 73 = .ok (.aload_n 0, 1) := by decide +kernel
theorem dX11_signs_74 : decode cX11_signs 74 = .ok (.getfield 145, 3) := by decide +kernel
theorem dX11_signs_77 : decode cX11_signs 77 = .ok (.iconst 5, 1) := by decide +kernel
theorem dX11_signs_78 : decode cX11_signs 78 = .ok (.if_icmp .ne 12, 3) := by decide +kernel
theorem dX11_signs_81 : decode cX11_signs 81 = .ok (.iconst 5, 1) := by decide +kernel
theorem dX11_signs_82 : decode cX11_signs 82 = .ok (.aload_n 0, 1) := by decide +kernel
theorem dX11_signs_83 : decode cX11_signs 83 = .ok (.getfield 156, 3) := by decide +kernel
theorem dX11_signs_86 : decode cX11_signs 86 = .ok (.iadd, 1) := by decide +kernel
theorem dX11_signs_87 : decode cX11_signs 87 = .ok (.goto 60, 3) := by decide +kernel
theorem dX11_signs_90 : decode cX11_signs 90 = .ok (.aload_n 0, 1) := by decide +kernel
theorem dX11_signs_91 : decode cX11_signs 91 = .ok (.bipush 43, 2) := by decide +kernel
theorem dX11_signs_93 : decode cX11_signs 93 = .ok (.invokevirtual 291, 3) := by decide +kernel
theorem dX11_signs_96 : decode cX11_signs 96 = .ok (.ifCond .eq 8, 3) := by decide +kernel
theorem dX11_signs_99 : decode cX11_signs 99 = .ok (.bipush 11, 2) := by decide +kernel
theorem dX11_signs_101 : decode cX11_signs 101 = .ok (.goto 46, 3) := by decide +kernel
theorem dX11_signs_104 : decode cX11_signs 104 = .ok (.aload_n 0, 1) := by decide +kernel
theorem dX11_signs_105 : decode cX11_signs 105 = .ok (.bipush 45, 2) := by decide +kernel
theorem dX11_signs_107 : decode cX11_signs 107 = .ok (.invokevirtual 291, 3) := by decide +kernel
theorem dX11_signs_110 : decode cX11_signs 110 = .ok (.ifCond .eq 8, 3) := by decide +kernel
theorem dX11_signs_113 : decode cX11_signs 113 = .ok (.bipush 12, 2) := by decide +kernel
theorem dX11_signs_115 : decode cX11_signs 115 = .ok (.goto 32, 3) := by decide +kernel
theorem dX11_signs_118 : decode cX11_signs 118 = .ok (.aload_n 0, 1) := by decide +kernel
theorem dX11_signs_119 : decode cX11_signs 119 = .ok (.bipush 42, 2) := by decide +kernel
theorem dX11_signs_121 : decode cX11_signs 121 = .ok (.invokevirtual 291, 3) := by decide +kernel
theorem dX11_signs_124 : decode cX11_signs 124 = .ok (.ifCond .eq 8, 3) := by decide +kernel
theorem dX11_signs_127 : decode cX11_signs 127 = .ok (.bipush 13, 2) := by decide +kernel
theorem dX11_signs_129 : decode cX11_signs 129 = .ok (.goto 18, 3) := by decide +kernel
theorem dX11_signs_132 : decode cX11_signs 132 = .ok (.aload_n 0, 1) := by decide +kernel
theorem dX11_signs_133 : decode cX11_signs 133 = .ok (.bipush 47, 2) := by decide +kernel
theorem dX11_signs_135 : decode cX11_signs 135 = .ok (.invokevirtual 291, 3) := by decide +kernel
theorem dX11_signs_138 : decode cX11_signs 138 = .ok (.ifCond .eq 8, 3) := by decide +kernel
theorem dX11_signs_141 : decode cX11_signs 141 = .ok (.bipush 14, 2) := by decide +kernel
theorem dX11_signs_143 : decode cX11_signs 143 = .ok (.goto 4, 3) := by decide +kernel
theorem dX11_signs_146 : decode cX11_signs 146 = .ok (.iconst 0, 1) := by decide +kernel
theorem dX11_signs_147 : decode cX11_signs 147 = .ok (.istore_n 1, 1) := by decide +kernel
theorem dX11_signs_148 : decode cX11_signs 148 = .ok (.iload_n 1, 1) := by decide +kernel
theorem dX11_signs_149 : decode cX11_signs 149 = .ok (.ifCond .ne 9, 3) := by decide +kernel
theorem dX11_signs_152 : decode cX11_signs 152 = .ok (.aload_n 0, 1) := by decide +kernel
theorem dX11_signs_153 : decode cX11_signs 153 = .ok (.iconst 1, 1) := by decide +kernel
theorem dX11_signs_154 : decode cX11_signs 154 = .ok (.invokevirtual 168, 3) := by decide +kernel
theorem dX11_signs_157 : decode cX11_signs 157 = .ok (.ireturn, 1) := by decide +kernel
theorem dX11_signs_158 : decode cX11_signs 158 = .ok (.aload_n 0, 1) := by decide +kernel
theorem dX11_signs_159 : decode cX11_signs 159 = .ok (.iload_n 1, 1) := by decide +kernel
theorem dX11_signs_160 : decode cX11_signs 160 = .ok (.invokestatic 303, 3) := by decide +kernel
theorem dX11_signs_163 : decode cX11_signs 163 = .ok (.iconst 4, 1) := by decide +kernel
theorem dX11_signs_164 : decode cX11_signs 164 = .ok (.if_icmp .ne 7, 3) := by decide +kernel
theorem dX11_signs_167 : decode cX11_signs 167 = .ok (.iconst 5, 1) := by decide +kernel
theorem dX11_signs_168 : decode cX11_signs 168 = .ok (.goto 7, 3) := by decide +kernel
theorem dX11_signs_171 : decode cX11_signs 171 = .ok (.iload_n 1, 1) := by decide +kernel
theorem dX11_signs_172 : decode cX11_signs 172 = .ok (.invokestatic 303, 3) := by decide +kernel
theorem dX11_signs_175 : decode cX11_signs 175 = .ok (.invokevirtual 330, 3) := by decide +kernel
theorem dX11_signs_178 : decode cX11_signs 178 = .ok (.iload_n 1, 1) := by decide +kernel
theorem dX11_signs_179 : decode cX11_signs 179 = .ok (.invokestatic 303, 3) := by decide +kernel
theorem dX11_signs_182 : decode cX11_signs 182 = .ok (.iconst 4, 1) := by decide +kernel
theorem dX11_signs_183 : decode cX11_signs 183 = .ok (.if_icmp .ne 34, 3) := by decide +kernel
theorem dX11_signs_186 : decode cX11_signs 186 = .ok (.aload_n 0, 1) := by decide +kernel
theorem dX11_signs_187 : decode cX11_signs 187 = .ok (.getfield 300, 3) := by decide +kernel
theorem dX11_signs_190 : decode cX11_signs 190 = .ok (.ifCond .le 27, 3) := by decide +kernel
theorem dX11_signs_193 : decode cX11_signs 193 = .ok (.aload_n 0, 1) := by decide +kernel
theorem dX11_signs_194 : decode cX11_signs 194 = .ok (.getfield 63, 3) := by decide +kernel
theorem dX11_signs_197 : decode cX11_signs 197 = .ok (.aload_n 0, 1) := by decide +kernel
theorem dX11_signs_198 : decode cX11_signs 198 = .ok (.getfield 300, 3) := by decide +kernel
theorem dX11_signs_201 : decode cX11_signs 201 = .ok (.iconst 1, 1) := by decide +kernel
theorem dX11_signs_202 : decode cX11_signs 202 = .ok (.isub, 1) := by decide +kernel
theorem dX11_signs_203 : decode cX11_signs 203 = .ok (.iaload, 1) := by decide +kernel
theorem dX11_signs_204 : decode cX11_signs 204 = .ok (.invokestatic 303, 3) := by decide +kernel
theorem dX11_signs_207 : decode cX11_signs 207 = .ok (.iconst 4, 1) := by decide +kernel
theorem dX11_signs_208 : decode cX11_signs 208 = .ok (.if_icmp .ne 9, 3) := by decide +kernel
theorem dX11_signs_211 : decode cX11_signs 211 = .ok (.aload_n 0, 1) := by decide +kernel
theorem dX11_signs_212 : decode cX11_signs 212 = .ok (.iconst 1, 1) := by decide +kernel
theorem dX11_signs_213 : decode cX11_signs 213 = .ok (.invokevirtual 168, 3) := by decide +kernel
theorem dX11_signs_216 : decode cX11_signs 216 = .ok (.ireturn, 1) := by decide +kernel
theorem dX11_signs_217 : decode cX11_signs 217 = .ok (.aload_n 0, 1) := by decide +kernel
theorem dX11_signs_218 : decode cX11_signs 218 = .ok (.invokevirtual 324, 3) := by decide +kernel
theorem dX11_signs_221 : decode cX11_signs 221 = .ok (.ifCond .ne 5, 3) := by decide +kernel
theorem dX11_signs_224 : decode cX11_signs 224 = .ok (.iconst 0, 1) := by decide +kernel
theorem dX11_signs_225 : decode cX11_signs 225 = .ok (.ireturn, 1) := by decide +kernel
theorem dX11_signs_226 : decode cX11_signs 226 = .ok (.aload_n 0, 1) := by decide +kernel
theorem dX11_signs_227 : decode cX11_signs 227 = .ok (.iload_n 1, 1) := by decide +kernel
theorem dX11_signs_228 : decode cX11_signs 228 = .ok (.invokevirtual 317, 3) := by decide +kernel
theorem dX11_signs_231 : decode cX11_signs 231 = .ok (.aload_n 0, 1) := by decide +kernel
theorem dX11_signs_232 : decode cX11_signs 232 = .ok (.iconst 1, 1) := by decide +kernel
theorem dX11_signs_233 : decode cX11_signs 233 = .ok (.putfield 327, 3) := by decide +kernel
theorem dX11_signs_236 : decode cX11_signs 236 = .ok (.aload_n 0, 1) := by decide +kernel
theorem dX11_signs_237 : decode cX11_signs 237 = .ok (.iload_n 1, 1) := by decide +kernel
theorem dX11_signs_238 : decode cX11_signs 238 = .ok (.invokestatic 303, 3) := by decide +kernel
theorem dX11_signs_241 : decode cX11_signs 241 = .ok (.iconst 3, 1) := by decide +kernel
theorem dX11_signs_242 : decode cX11_signs 242 = .ok (.if_icmp .ge 7, 3) := by decide +kernel
theorem dX11_signs_245 : decode cX11_signs 245 = .ok (.iconst 1, 1) := by decide +kernel
theorem dX11_signs_246 : decode cX11_signs 246 = .ok (.goto 4, 3) := by decide +kernel
theorem dX11_signs_249 : decode cX11_signs 249 = .ok (.iconst 0, 1) := by decide +kernel
theorem dX11_signs_250 : decode cX11_signs 250 = .ok (.putfield 321, 3) := by decide +kernel
theorem dX11_signs_253 : decode cX11_signs 253 = .ok (.aload_n 0, 1) := by decide +kernel
theorem dX11_signs_254 : decode cX11_signs 254 = .ok (.invokevirtual 178, 3) := by decide +kernel
theorem dX11_signs_257 : decode cX11_signs 257 = .ok (.iconst 1, 1) := by decide +kernel
theorem dX11_signs_258 : decode cX11_signs 258 = .ok (.ireturn, 1) := by decide +kernel
set_option maxRecDepth 10000 in
theorem vX11_signs_0 {κ : eg_K} {d : Nat} (hd : 1 ≤ d) {post : Int32 → eg_H → Prop} (M : eg_H)  (h : (∀ x2 : Int32, x2 = (fX11_isSign M (41 : Int32)) → (x2 = 0 → eg_W κ gM mtX11_signs d (eQI κ gM post) 47 [(0, vR (60, 0))] [] M) ∧ ((¬ x2 = 0) → ((M.1 (60, 0) 45) ≤ 0 → eg_W κ gM mtX11_signs d (eQI κ gM post) 47 [(0, vR (60, 0))] [] M) ∧ ((¬ (M.1 (60, 0) 45) ≤ 0) → eCV κ gM mtX11_bind d [vR (60, 0), vI (1 : Int32)] M (fun M5 => (∀ M7 : eg_H, M7 = (sI M5 (60, 0) 43 ((M5.1 (60, 0) 43) - (1 : Int32))) → (∀ M8 : eg_H, M8 = (sI M7 (60, 0) 45 ((M7.1 (60, 0) 45) - (1 : Int32))) → eCV κ gM mtX11_token d [vR (60, 0)] M8 (fun M9 => post (1 : Int32) M9)))))))) : eg_W κ gM mtX11_signs d (eQI κ gM post) 0 [(0, vR (60, 0))] [] M := by
  refine eg_aload_n 0 dX11_signs_0 rfl rfl ?_
  refine eg_bipush dX11_signs_1 bp_41 ?_
  refine eg_callVI (av := [vI (41 : Int32)]) (st := []) dX11_signs_3 ml_11_291 rfl rfl (obM_60 z1) (by decide) rfl (Nat.le_of_ble_eq_true rfl) (eg_dd (by omega)) (sX11_isSign (by omega) M (41 : Int32)  ) (fun x2 M1 hp => ?_)
  obtain ⟨ex2, eM1⟩ := hp
  rw [eM1]
  have h := h x2 ex2
  refine eg_if_eq (tgt := 47) dX11_signs_6 rfl (fun c3 => ?_) (fun c3 => ?_)
  · have h := h.1 c3
    exact h
  · have h := h.2 c3
    refine eg_aload_n 0 dX11_signs_9 rfl rfl ?_
    refine eg_getI dX11_signs_10 fl_11_314 rfl trivial (obM_60 z1) ?_
    refine eg_if_le (tgt := 47) dX11_signs_13 rfl (fun c4 => ?_) (fun c4 => ?_)
    · have h := h.1 c4
      exact h
    · have h := h.2 c4
      refine eg_aload_n 0 dX11_signs_16 rfl rfl ?_
      refine eg_iconst dX11_signs_17 ic_1 ?_
      obtain ⟨q6, hq6, h⟩ := h
      refine eg_callVV (av := [vI (1 : Int32)]) (st := []) dX11_signs_18 ml_11_330 rfl rfl (obM_60 z1) (by decide) rfl (Nat.le_of_ble_eq_true rfl) (eg_dd (by omega)) hq6 (fun M5 hp => ?_)
      have h := h M5 hp
      refine eg_aload_n 0 dX11_signs_21 rfl rfl ?_
      refine eg_dup dX11_signs_22 rfl ?_
      refine eg_getI dX11_signs_23 fl_11_300 rfl trivial (obM_60 z1) ?_
      refine eg_iconst dX11_signs_26 ic_1 ?_
      refine eg_isub dX11_signs_27 ?_
      refine en_putI dX11_signs_28 fl_11_300 rfl rfl (obM_60 z1) (fun M7 eM7 => ?_)
      have h := h M7 eM7
      refine eg_aload_n 0 dX11_signs_31 rfl rfl ?_
      refine eg_dup dX11_signs_32 rfl ?_
      refine eg_getI dX11_signs_33 fl_11_314 rfl trivial (obM_60 z1) ?_
      refine eg_iconst dX11_signs_36 ic_1 ?_
      refine eg_isub dX11_signs_37 ?_
      refine en_putI dX11_signs_38 fl_11_314 rfl rfl (obM_60 z1) (fun M8 eM8 => ?_)
      have h := h M8 eM8
      refine eg_aload_n 0 dX11_signs_41 rfl rfl ?_
      obtain ⟨q10, hq10, h⟩ := h
      refine eg_callVV (av := []) (st := []) dX11_signs_42 ml_11_178 rfl rfl (obM_60 z1) (by decide) rfl (Nat.le_of_ble_eq_true rfl) (eg_dd (by omega)) hq10 (fun M9 hp => ?_)
      have h := h M9 hp
      refine eg_iconst dX11_signs_45 ic_1 ?_
      exact eg_zreturn dX11_signs_46 rfl (Or.inr rfl) h
set_option maxRecDepth 10000 in
theorem vX11_signs_47 {κ : eg_K} {d : Nat} (hd : 1 ≤ d) {post : Int32 → eg_H → Prop} (M : eg_H)  (h : (∀ x2 : Int32, x2 = (fX11_isKey M (13 : Int32)) → (x2 = 0 → (∀ x5 : Int32, x5 = (fX11_isKey M (14 : Int32)) → (x5 = 0 → ((¬ (M.1 (60, 0) 8) = (5 : Int32)) → (∀ x9 : Int32, x9 = (fX11_isSign M (43 : Int32)) → (x9 = 0 → (∀ x12 : Int32, x12 = (fX11_isSign M (45 : Int32)) → (x12 = 0 → (∀ x15 : Int32, x15 = (fX11_isSign M (42 : Int32)) → (x15 = 0 → (∀ x18 : Int32, x18 = (fX11_isSign M (47 : Int32)) → (∀ x19 : Int32, x19 = ((if x18 = 0 then (0 : Int32) else (14 : Int32))) → eg_W κ gM mtX11_signs d (eQI κ gM post) 147 [(0, vR (60, 0))] [vI x19] M))) ∧ ((¬ x15 = 0) → eg_W κ gM mtX11_signs d (eQI κ gM post) 147 [(0, vR (60, 0))] [vI (13 : Int32)] M))) ∧ ((¬ x12 = 0) → eg_W κ gM mtX11_signs d (eQI κ gM post) 147 [(0, vR (60, 0))] [vI (12 : Int32)] M))) ∧ ((¬ x9 = 0) → eg_W κ gM mtX11_signs d (eQI κ gM post) 147 [(0, vR (60, 0))] [vI (11 : Int32)] M))) ∧ ((M.1 (60, 0) 8) = (5 : Int32) → eg_W κ gM mtX11_signs d (eQI κ gM post) 147 [(0, vR (60, 0))] [vI ((5 : Int32) + (M.1 (60, 0) 9))] M)) ∧ ((¬ x5 = 0) → eg_W κ gM mtX11_signs d (eQI κ gM post) 147 [(0, vR (60, 0))] [vI (4 : Int32)] M))) ∧ ((¬ x2 = 0) → eg_W κ gM mtX11_signs d (eQI κ gM post) 147 [(0, vR (60, 0))] [vI (3 : Int32)] M))) : eg_W κ gM mtX11_signs d (eQI κ gM post) 47 [(0, vR (60, 0))] [] M := by
  refine eg_aload_n 0 dX11_signs_47 rfl rfl ?_
  refine eg_bipush dX11_signs_48 bp_13 ?_
  refine eg_callVI (av := [vI (13 : Int32)]) (st := []) dX11_signs_50 ml_11_265 rfl rfl (obM_60 z1) (by decide) rfl (Nat.le_of_ble_eq_true rfl) (eg_dd (by omega)) (sX11_isKey (by omega) M (13 : Int32)  ) (fun x2 M1 hp => ?_)
  obtain ⟨ex2, eM1⟩ := hp
  rw [eM1]
  have h := h x2 ex2
  refine eg_if_eq (tgt := 60) dX11_signs_53 rfl (fun c3 => ?_) (fun c3 => ?_)
  · have h := h.1 c3
    refine eg_aload_n 0 dX11_signs_60 rfl rfl ?_
    refine eg_bipush dX11_signs_61 bp_14 ?_
    refine eg_callVI (av := [vI (14 : Int32)]) (st := []) dX11_signs_63 ml_11_265 rfl rfl (obM_60 z1) (by decide) rfl (Nat.le_of_ble_eq_true rfl) (eg_dd (by omega)) (sX11_isKey (by omega) M (14 : Int32)  ) (fun x5 M4 hp => ?_)
    obtain ⟨ex5, eM4⟩ := hp
    rw [eM4]
    have h := h x5 ex5
    refine eg_if_eq (tgt := 73) dX11_signs_66 rfl (fun c6 => ?_) (fun c6 => ?_)
    · have h := h.1 c6
      refine eg_aload_n 0 dX11_signs_73 rfl rfl ?_
      refine eg_getI dX11_signs_74 fl_11_145 rfl trivial (obM_60 z1) ?_
      refine eg_iconst dX11_signs_77 ic_5 ?_
      refine eg_icmp_ne (tgt := 90) dX11_signs_78 rfl (fun c7 => ?_) (fun c7 => ?_)
      · have h := h.1 c7
        refine eg_aload_n 0 dX11_signs_90 rfl rfl ?_
        refine eg_bipush dX11_signs_91 bp_43 ?_
        refine eg_callVI (av := [vI (43 : Int32)]) (st := []) dX11_signs_93 ml_11_291 rfl rfl (obM_60 z1) (by decide) rfl (Nat.le_of_ble_eq_true rfl) (eg_dd (by omega)) (sX11_isSign (by omega) M (43 : Int32)  ) (fun x9 M8 hp => ?_)
        obtain ⟨ex9, eM8⟩ := hp
        rw [eM8]
        have h := h x9 ex9
        refine eg_if_eq (tgt := 104) dX11_signs_96 rfl (fun c10 => ?_) (fun c10 => ?_)
        · have h := h.1 c10
          refine eg_aload_n 0 dX11_signs_104 rfl rfl ?_
          refine eg_bipush dX11_signs_105 bp_45 ?_
          refine eg_callVI (av := [vI (45 : Int32)]) (st := []) dX11_signs_107 ml_11_291 rfl rfl (obM_60 z1) (by decide) rfl (Nat.le_of_ble_eq_true rfl) (eg_dd (by omega)) (sX11_isSign (by omega) M (45 : Int32)  ) (fun x12 M11 hp => ?_)
          obtain ⟨ex12, eM11⟩ := hp
          rw [eM11]
          have h := h x12 ex12
          refine eg_if_eq (tgt := 118) dX11_signs_110 rfl (fun c13 => ?_) (fun c13 => ?_)
          · have h := h.1 c13
            refine eg_aload_n 0 dX11_signs_118 rfl rfl ?_
            refine eg_bipush dX11_signs_119 bp_42 ?_
            refine eg_callVI (av := [vI (42 : Int32)]) (st := []) dX11_signs_121 ml_11_291 rfl rfl (obM_60 z1) (by decide) rfl (Nat.le_of_ble_eq_true rfl) (eg_dd (by omega)) (sX11_isSign (by omega) M (42 : Int32)  ) (fun x15 M14 hp => ?_)
            obtain ⟨ex15, eM14⟩ := hp
            rw [eM14]
            have h := h x15 ex15
            refine eg_if_eq (tgt := 132) dX11_signs_124 rfl (fun c16 => ?_) (fun c16 => ?_)
            · have h := h.1 c16
              refine eg_aload_n 0 dX11_signs_132 rfl rfl ?_
              refine eg_bipush dX11_signs_133 bp_47 ?_
              refine eg_callVI (av := [vI (47 : Int32)]) (st := []) dX11_signs_135 ml_11_291 rfl rfl (obM_60 z1) (by decide) rfl (Nat.le_of_ble_eq_true rfl) (eg_dd (by omega)) (sX11_isSign (by omega) M (47 : Int32)  ) (fun x18 M17 hp => ?_)
              obtain ⟨ex18, eM17⟩ := hp
              rw [eM17]
              have h := h x18 ex18
              have J : ∀ x19 : Int32, x19 = (if x18 = 0 then (0 : Int32) else (14 : Int32)) → eg_W κ gM mtX11_signs d (eQI κ gM post) 147 [(0, vR (60, 0))] [vI x19] M := by
                intro x19 ex19
                have h := h x19 ex19
                exact h
              clear h
              refine eg_if_eq (tgt := 146) dX11_signs_138 rfl (fun c20 => ?_) (fun c20 => ?_)
              · refine eg_iconst dX11_signs_146 ic_0 ?_
                exact J _ (by rw [if_pos c20])
              · refine eg_bipush dX11_signs_141 bp_14 ?_
                refine eg_goto (tgt := 147) dX11_signs_143 rfl ?_
                exact J _ (by rw [if_neg c20])
            · have h := h.2 c16
              refine eg_bipush dX11_signs_127 bp_13 ?_
              refine eg_goto (tgt := 147) dX11_signs_129 rfl ?_
              exact h
          · have h := h.2 c13
            refine eg_bipush dX11_signs_113 bp_12 ?_
            refine eg_goto (tgt := 147) dX11_signs_115 rfl ?_
            exact h
        · have h := h.2 c10
          refine eg_bipush dX11_signs_99 bp_11 ?_
          refine eg_goto (tgt := 147) dX11_signs_101 rfl ?_
          exact h
      · have h := h.2 c7
        refine eg_iconst dX11_signs_81 ic_5 ?_
        refine eg_aload_n 0 dX11_signs_82 rfl rfl ?_
        refine eg_getI dX11_signs_83 fl_11_156 rfl trivial (obM_60 z1) ?_
        refine eg_iadd dX11_signs_86 ?_
        refine eg_goto (tgt := 147) dX11_signs_87 rfl ?_
        exact h
    · have h := h.2 c6
      refine eg_iconst dX11_signs_69 ic_4 ?_
      refine eg_goto (tgt := 147) dX11_signs_70 rfl ?_
      exact h
  · have h := h.2 c3
    refine eg_iconst dX11_signs_56 ic_3 ?_
    refine eg_goto (tgt := 147) dX11_signs_57 rfl ?_
    exact h
set_option maxRecDepth 10000 in
theorem vX11_signs_147 {κ : eg_K} {d : Nat} (hd : 1 ≤ d) {post : Int32 → eg_H → Prop} (M : eg_H) (s0 : Int32) (h : ((¬ s0 = 0) → (∀ x3 : Int32, x3 = (fX11_rank M s0) → ((¬ x3 = (4 : Int32)) → (∀ x6 : Int32, x6 = (fX11_rank M s0) → eg_W κ gM mtX11_signs d (eQI κ gM post) 175 [(0, vR (60, 0)), (1, vI s0)] [vI x6, vR (60, 0)] M)) ∧ (x3 = (4 : Int32) → eg_W κ gM mtX11_signs d (eQI κ gM post) 175 [(0, vR (60, 0)), (1, vI s0)] [vI (5 : Int32), vR (60, 0)] M))) ∧ (s0 = 0 → (∀ (x8 : Int32) (M7 : eg_H), (x8, M7) = fX11_wrong M (1 : Int32) → post x8 M7))) : eg_W κ gM mtX11_signs d (eQI κ gM post) 147 [(0, vR (60, 0))] [vI s0] M := by
  refine eg_istore_n dX11_signs_147 rfl (by decide) (ls1 := [(1, vI s0), (0, vR (60, 0))]) rfl ?_
  refine eg_iload_n 0 dX11_signs_148 rfl rfl ?_
  refine eg_if_ne (tgt := 158) dX11_signs_149 rfl (fun c1 => ?_) (fun c1 => ?_)
  · have h := h.1 c1
    refine eg_aload_n 1 dX11_signs_158 rfl rfl ?_
    refine eg_iload_n 0 dX11_signs_159 rfl rfl ?_
    refine eg_callSI (av := [vI s0]) (st := [vR (60, 0)]) dX11_signs_160 ml_11_303 rfl rfl (Nat.le_of_ble_eq_true rfl) (eg_dd (by omega)) (sX11_rank (by omega) M s0  ) (fun x3 M2 hp => ?_)
    obtain ⟨ex3, eM2⟩ := hp
    rw [eM2]
    have h := h x3 ex3
    refine eg_iconst dX11_signs_163 ic_4 ?_
    refine eg_icmp_ne (tgt := 171) dX11_signs_164 rfl (fun c4 => ?_) (fun c4 => ?_)
    · have h := h.1 c4
      refine eg_iload_n 0 dX11_signs_171 rfl rfl ?_
      refine eg_callSI (av := [vI s0]) (st := [vR (60, 0)]) dX11_signs_172 ml_11_303 rfl rfl (Nat.le_of_ble_eq_true rfl) (eg_dd (by omega)) (sX11_rank (by omega) M s0  ) (fun x6 M5 hp => ?_)
      obtain ⟨ex6, eM5⟩ := hp
      rw [eM5]
      have h := h x6 ex6
      refine eg_sub [1, 0] rfl ?_
      exact h
    · have h := h.2 c4
      refine eg_iconst dX11_signs_167 ic_5 ?_
      refine eg_goto (tgt := 175) dX11_signs_168 rfl ?_
      refine eg_sub [1, 0] rfl ?_
      exact h
  · have h := h.2 c1
    refine eg_aload_n 1 dX11_signs_152 rfl rfl ?_
    refine eg_iconst dX11_signs_153 ic_1 ?_
    refine eg_callVI (av := [vI (1 : Int32)]) (st := []) dX11_signs_154 ml_11_168 rfl rfl (obM_60 z1) (by decide) rfl (Nat.le_of_ble_eq_true rfl) (eg_dd (by omega)) (sX11_wrong (by omega) M (1 : Int32)  ) (fun x8 M7 eM7 => ?_)
    have h := h x8 M7 eM7
    exact eg_zreturn dX11_signs_157 rfl (show x8 = 0 ∨ x8 = 1 from by rw [show x8 = _ from congrArg Prod.fst eM7]; exact zX11_wrong M (1 : Int32)) h
set_option maxRecDepth 10000 in
theorem vX11_signs_175 {κ : eg_K} {d : Nat} (hd : 1 ≤ d) {post : Int32 → eg_H → Prop} (M : eg_H) (l1 : Int32) (s0 : Int32) (h : eCV κ gM mtX11_bind d [vR (60, 0), vI s0] M (fun M1 => (∀ x4 : Int32, x4 = (fX11_rank M1 l1) → ((¬ x4 = (4 : Int32)) → eg_W κ gM mtX11_signs d (eQI κ gM post) 217 [(0, vR (60, 0)), (1, vI l1)] [] M1) ∧ (x4 = (4 : Int32) → ((M1.1 (60, 0) 43) ≤ 0 → eg_W κ gM mtX11_signs d (eQI κ gM post) 217 [(0, vR (60, 0)), (1, vI l1)] [] M1) ∧ ((¬ (M1.1 (60, 0) 43) ≤ 0) → (vp_in ((M1.1 (60, 0) 43) - (1 : Int32)) 96 ∧ (∀ x9 : Int32, x9 = (fX11_rank M1 (M1.1 (102, 0) ((M1.1 (60, 0) 43) - (1 : Int32)).toNatClampNeg)) → ((¬ x9 = (4 : Int32)) → eg_W κ gM mtX11_signs d (eQI κ gM post) 217 [(0, vR (60, 0)), (1, vI l1)] [] M1) ∧ (x9 = (4 : Int32) → (∀ (x12 : Int32) (M11 : eg_H), (x12, M11) = fX11_wrong M1 (1 : Int32) → post x12 M11))))))))) : eg_W κ gM mtX11_signs d (eQI κ gM post) 175 [(0, vR (60, 0)), (1, vI l1)] [vI s0, vR (60, 0)] M := by
  obtain ⟨q2, hq2, h⟩ := h
  refine eg_callVV (av := [vI s0]) (st := []) dX11_signs_175 ml_11_330 rfl rfl (obM_60 z1) (by decide) rfl (Nat.le_of_ble_eq_true rfl) (eg_dd (by omega)) hq2 (fun M1 hp => ?_)
  have h := h M1 hp
  refine eg_iload_n 1 dX11_signs_178 rfl rfl ?_
  refine eg_callSI (av := [vI l1]) (st := []) dX11_signs_179 ml_11_303 rfl rfl (Nat.le_of_ble_eq_true rfl) (eg_dd (by omega)) (sX11_rank (by omega) M1 l1  ) (fun x4 M3 hp => ?_)
  obtain ⟨ex4, eM3⟩ := hp
  rw [eM3]
  have h := h x4 ex4
  refine eg_iconst dX11_signs_182 ic_4 ?_
  refine eg_icmp_ne (tgt := 217) dX11_signs_183 rfl (fun c5 => ?_) (fun c5 => ?_)
  · have h := h.1 c5
    exact h
  · have h := h.2 c5
    refine eg_aload_n 0 dX11_signs_186 rfl rfl ?_
    refine eg_getI dX11_signs_187 fl_11_300 rfl trivial (obM_60 z1) ?_
    refine eg_if_le (tgt := 217) dX11_signs_190 rfl (fun c6 => ?_) (fun c6 => ?_)
    · have h := h.1 c6
      exact h
    · have h := h.2 c6
      refine eg_aload_n 0 dX11_signs_193 rfl rfl ?_
      refine eg_getR dX11_signs_194 fl_11_63 rfl rfl (obM_60 z1) ?_
      show eg_W κ gM mtX11_signs d (eQI κ gM post) 197 [(0, vR (60, 0)), (1, vI l1)] [vR (102, 0)] M1
      refine eg_aload_n 0 dX11_signs_197 rfl rfl ?_
      refine eg_getI dX11_signs_198 fl_11_300 rfl trivial (obM_60 z1) ?_
      refine eg_iconst dX11_signs_201 ic_1 ?_
      refine eg_isub dX11_signs_202 ?_
      obtain ⟨g7, h⟩ := h
      refine eg_iaload dX11_signs_203 (arM_102 z1 g7) ?_
      refine eg_callSI (av := [vI (M1.1 (102, 0) ((M1.1 (60, 0) 43) - (1 : Int32)).toNatClampNeg)]) (st := []) dX11_signs_204 ml_11_303 rfl rfl (Nat.le_of_ble_eq_true rfl) (eg_dd (by omega)) (sX11_rank (by omega) M1 (M1.1 (102, 0) ((M1.1 (60, 0) 43) - (1 : Int32)).toNatClampNeg)  ) (fun x9 M8 hp => ?_)
      obtain ⟨ex9, eM8⟩ := hp
      rw [eM8]
      have h := h x9 ex9
      refine eg_iconst dX11_signs_207 ic_4 ?_
      refine eg_icmp_ne (tgt := 217) dX11_signs_208 rfl (fun c10 => ?_) (fun c10 => ?_)
      · have h := h.1 c10
        exact h
      · have h := h.2 c10
        refine eg_aload_n 0 dX11_signs_211 rfl rfl ?_
        refine eg_iconst dX11_signs_212 ic_1 ?_
        refine eg_callVI (av := [vI (1 : Int32)]) (st := []) dX11_signs_213 ml_11_168 rfl rfl (obM_60 z1) (by decide) rfl (Nat.le_of_ble_eq_true rfl) (eg_dd (by omega)) (sX11_wrong (by omega) M1 (1 : Int32)  ) (fun x12 M11 eM11 => ?_)
        have h := h x12 M11 eM11
        exact eg_zreturn dX11_signs_216 rfl (show x12 = 0 ∨ x12 = 1 from by rw [show x12 = _ from congrArg Prod.fst eM11]; exact zX11_wrong M1 (1 : Int32)) h
set_option maxRecDepth 10000 in
theorem vX11_signs_217 {κ : eg_K} {d : Nat} (hd : 2 ≤ d) {post : Int32 → eg_H → Prop} (M : eg_H) (l1 : Int32) (h : (∀ (x2 : Int32) (M1 : eg_H), (x2, M1) = fX11_isCounted M → ((¬ x2 = 0) → (gX11_waitsFor M1 l1 ∧ (∀ M5 : eg_H, M5 = (fX11_waitsFor M1 l1) → (∀ M7 : eg_H, M7 = (sI M5 (60, 0) 47 (1 : Int32)) → (∀ x9 : Int32, x9 = (fX11_rank M7 l1) → (∀ x10 : Int32, x10 = ((if (3 : Int32) ≤ x9 then (0 : Int32) else (1 : Int32))) → (∀ M11 : eg_H, M11 = (sI M7 (60, 0) 48 x10) → eCV κ gM mtX11_token d [vR (60, 0)] M11 (fun M12 => post (1 : Int32) M12)))))))) ∧ (x2 = 0 → post (0 : Int32) M1))) : eg_W κ gM mtX11_signs d (eQI κ gM post) 217 [(0, vR (60, 0)), (1, vI l1)] [] M := by
  refine eg_aload_n 0 dX11_signs_217 rfl rfl ?_
  refine eg_callVI (av := []) (st := []) dX11_signs_218 ml_11_324 rfl rfl (obM_60 z1) (by decide) rfl (Nat.le_of_ble_eq_true rfl) (eg_dd (by omega)) (sX11_isCounted (by omega) M   ) (fun x2 M1 eM1 => ?_)
  have h := h x2 M1 eM1
  refine eg_if_ne (tgt := 226) dX11_signs_221 rfl (fun c3 => ?_) (fun c3 => ?_)
  · have h := h.1 c3
    refine eg_aload_n 0 dX11_signs_226 rfl rfl ?_
    refine eg_iload_n 1 dX11_signs_227 rfl rfl ?_
    obtain ⟨g4, h⟩ := h
    refine eg_callVV (av := [vI l1]) (st := []) dX11_signs_228 ml_11_317 rfl rfl (obM_60 z1) (by decide) rfl (Nat.le_of_ble_eq_true rfl) (eg_dd (by omega)) (sX11_waitsFor (by omega) M1 l1  g4) (fun M5 eM5 => ?_)
    have h := h M5 eM5
    refine eg_aload_n 0 dX11_signs_231 rfl rfl ?_
    refine eg_iconst dX11_signs_232 ic_1 ?_
    refine en_putZ dX11_signs_233 fl_11_327 rfl rfl (Or.inr rfl) (obM_60 z1) (fun M7 eM7 => ?_)
    have h := h M7 eM7
    refine eg_aload_n 0 dX11_signs_236 rfl rfl ?_
    refine eg_iload_n 1 dX11_signs_237 rfl rfl ?_
    refine eg_callSI (av := [vI l1]) (st := [vR (60, 0)]) dX11_signs_238 ml_11_303 rfl rfl (Nat.le_of_ble_eq_true rfl) (eg_dd (by omega)) (sX11_rank (by omega) M7 l1  ) (fun x9 M8 hp => ?_)
    obtain ⟨ex9, eM8⟩ := hp
    rw [eM8]
    have h := h x9 ex9
    refine eg_iconst dX11_signs_241 ic_3 ?_
    have J : ∀ x10 : Int32, x10 = (if (3 : Int32) ≤ x9 then (0 : Int32) else (1 : Int32)) → eg_W κ gM mtX11_signs d (eQI κ gM post) 250 [(0, vR (60, 0)), (1, vI l1)] [vI x10, vR (60, 0)] M7 := by
      intro x10 ex10
      have h := h x10 ex10
      refine en_putZ dX11_signs_250 fl_11_321 rfl rfl (show x10 = 0 ∨ x10 = 1 from by rw [ex10]; exact (eg_zi (Or.inl rfl) (Or.inr rfl))) (obM_60 z1) (fun M11 eM11 => ?_)
      have h := h M11 eM11
      refine eg_aload_n 0 dX11_signs_253 rfl rfl ?_
      obtain ⟨q13, hq13, h⟩ := h
      refine eg_callVV (av := []) (st := []) dX11_signs_254 ml_11_178 rfl rfl (obM_60 z1) (by decide) rfl (Nat.le_of_ble_eq_true rfl) (eg_dd (by omega)) hq13 (fun M12 hp => ?_)
      have h := h M12 hp
      refine eg_iconst dX11_signs_257 ic_1 ?_
      exact eg_zreturn dX11_signs_258 rfl (Or.inr rfl) h
    clear h
    refine eg_icmp_ge (tgt := 249) dX11_signs_242 rfl (fun c14 => ?_) (fun c14 => ?_)
    · refine eg_iconst dX11_signs_249 ic_0 ?_
      exact J _ (by rw [if_pos c14])
    · refine eg_iconst dX11_signs_245 ic_1 ?_
      refine eg_goto (tgt := 250) dX11_signs_246 rfl ?_
      exact J _ (by rw [if_neg c14])
  · have h := h.2 c3
    refine eg_iconst dX11_signs_224 ic_0 ?_
    exact eg_zreturn dX11_signs_225 rfl (Or.inl rfl) h
theorem dX11_sumRead_0 : decode cX11_sumRead 0 = .ok (.aload_n 0, 1) := by decide +kernel
theorem dX11_sumRead_1 : decode cX11_sumRead 1 = .ok (.iconst 0, 1) := by decide +kernel
theorem dX11_sumRead_2 : decode cX11_sumRead 2 = .ok (.putfield 300, 3) := by decide +kernel
theorem dX11_sumRead_5 : decode cX11_sumRead 5 = .ok (.aload_n 0, 1) := by decide +kernel
theorem dX11_sumRead_6 : decode cX11_sumRead 6 = .ok (.iconst 0, 1) := by decide +kernel
theorem dX11_sumRead_7 : decode cX11_sumRead 7 = .ok (.putfield 297, 3) := by decide +kernel
theorem dX11_sumRead_10 : decode cX11_sumRead 10 = .ok (.aload_n 0, 1) := by decide +kernel
theorem dX11_sumRead_11 : decode cX11_sumRead 11 = .ok (.iconst 0, 1) := by decide +kernel
theorem dX11_sumRead_12 : decode cX11_sumRead 12 = .ok (.putfield 314, 3) := by decide +kernel
theorem dX11_sumRead_15 : decode cX11_sumRead 15 = .ok (.aload_n 0, 1) := by decide +kernel
theorem dX11_sumRead_16 : decode cX11_sumRead 16 = .ok (.iconst 1, 1) := by decide +kernel
theorem dX11_sumRead_17 : decode cX11_sumRead 17 = .ok (.putfield 327, 3) := by decide +kernel
theorem dX11_sumRead_20 : decode cX11_sumRead 20 = .ok (.aload_n 0, 1) := by decide +kernel
theorem dX11_sumRead_21 : decode cX11_sumRead 21 = .ok (.iconst 1, 1) := by decide +kernel
theorem dX11_sumRead_22 : decode cX11_sumRead 22 = .ok (.putfield 321, 3) := by decide +kernel
theorem dX11_sumRead_25 : decode cX11_sumRead 25 = .ok (.aload_n 0, 1) := by decide +kernel
theorem dX11_sumRead_26 : decode cX11_sumRead 26 = .ok (.bipush 59, 2) := by decide +kernel
theorem dX11_sumRead_28 : decode cX11_sumRead 28 = .ok (.invokevirtual 291, 3) := by decide +kernel
theorem dX11_sumRead_31 : decode cX11_sumRead 31 = .ok (.ifCond .eq 17, 3) := by decide +kernel
theorem dX11_sumRead_34 : decode cX11_sumRead 34 = .ok (.aload_n 0, 1) := by decide +kernel
theorem dX11_sumRead_35 : decode cX11_sumRead 35 = .ok (.getfield 327, 3) := by decide +kernel
theorem dX11_sumRead_38 : decode cX11_sumRead 38 = .ok (.ifCond .ne 10, 3) := by decide +kernel
theorem dX11_sumRead_41 : decode cX11_sumRead 41 = .ok (.aload_n 0, 1) := by decide +kernel
theorem dX11_sumRead_42 : decode cX11_sumRead 42 = .ok (.getfield 314, 3) := by decide +kernel
theorem dX11_sumRead_45 : decode cX11_sumRead 45 = .ok (.ifCond .le 29, 3) := by decide +kernel
theorem dX11_sumRead_48 : decode cX11_sumRead 48 = .ok (.aload_n 0, 1) := by decide +kernel
theorem dX11_sumRead_49 : decode cX11_sumRead 49 = .ok (.getfield 327, 3) := by decide +kernel
theorem dX11_sumRead_52 : decode cX11_sumRead 52 = .ok (.ifCond .eq 13, 3) := by decide +kernel
theorem dX11_sumRead_55 : decode cX11_sumRead 55 = .ok (.aload_n 0, 1) := by decide +kernel
theorem dX11_sumRead_56 : decode cX11_sumRead 56 = .ok (.invokevirtual 333, 3) := by decide +kernel
theorem dX11_sumRead_59 : decode cX11_sumRead 59 = .ok (.ifCond .eq 13, 3) := by decide +kernel
theorem dX11_sumRead_62 : decode cX11_sumRead 62 = .ok (.goto (-37), 3) := by decide +kernel
theorem dX11_sumRead_65 : decode cX11_sumRead 65 = .ok (.aload_n 0, 1) := by decide +kernel
theorem dX11_sumRead_66 : decode cX11_sumRead 66 = .ok (.invokevirtual 336, 3) := by decide +kernel
theorem dX11_sumRead_69 : decode cX11_sumRead 69 = .ok (.ifCond .ne (-44), 3) := by decide +kernel
theorem dX11_sumRead_72 : decode cX11_sumRead 72 = .ok (.iconst 0, 1) := by decide +kernel
theorem dX11_sumRead_73 : decode cX11_sumRead 73 = .ok (.ireturn, 1) := by decide +kernel
theorem dX11_sumRead_74 : decode cX11_sumRead 74 = .ok (.aload_n 0, 1) := by decide +kernel
theorem dX11_sumRead_75 : decode cX11_sumRead 75 = .ok (.iconst 1, 1) := by decide +kernel
theorem dX11_sumRead_76 : decode cX11_sumRead 76 = .ok (.invokevirtual 330, 3) := by decide +kernel
theorem dX11_sumRead_79 : decode cX11_sumRead 79 = .ok (.iconst 1, 1) := by decide +kernel
theorem dX11_sumRead_80 : decode cX11_sumRead 80 = .ok (.ireturn, 1) := by decide +kernel
set_option maxRecDepth 10000 in
theorem vX11_sumRead_0 {κ : eg_K} {d : Nat} {post : Int32 → eg_H → Prop} (M : eg_H)  (h : (∀ M1 : eg_H, M1 = (sI M (60, 0) 43 (0 : Int32)) → (∀ M2 : eg_H, M2 = (sI M1 (60, 0) 44 (0 : Int32)) → (∀ M3 : eg_H, M3 = (sI M2 (60, 0) 45 (0 : Int32)) → (∀ M4 : eg_H, M4 = (sI M3 (60, 0) 47 (1 : Int32)) → (∀ M5 : eg_H, M5 = (sI M4 (60, 0) 48 (1 : Int32)) → eg_W κ gM mtX11_sumRead d (eQI κ gM post) 25 [(0, vR (60, 0))] [] M5)))))) : eg_W κ gM mtX11_sumRead d (eQI κ gM post) 0 [(0, vR (60, 0))] [] M := by
  refine eg_aload_n 0 dX11_sumRead_0 rfl rfl ?_
  refine eg_iconst dX11_sumRead_1 ic_0 ?_
  refine en_putI dX11_sumRead_2 fl_11_300 rfl rfl (obM_60 z1) (fun M1 eM1 => ?_)
  have h := h M1 eM1
  refine eg_aload_n 0 dX11_sumRead_5 rfl rfl ?_
  refine eg_iconst dX11_sumRead_6 ic_0 ?_
  refine en_putI dX11_sumRead_7 fl_11_297 rfl rfl (obM_60 z1) (fun M2 eM2 => ?_)
  have h := h M2 eM2
  refine eg_aload_n 0 dX11_sumRead_10 rfl rfl ?_
  refine eg_iconst dX11_sumRead_11 ic_0 ?_
  refine en_putI dX11_sumRead_12 fl_11_314 rfl rfl (obM_60 z1) (fun M3 eM3 => ?_)
  have h := h M3 eM3
  refine eg_aload_n 0 dX11_sumRead_15 rfl rfl ?_
  refine eg_iconst dX11_sumRead_16 ic_1 ?_
  refine en_putZ dX11_sumRead_17 fl_11_327 rfl rfl (Or.inr rfl) (obM_60 z1) (fun M4 eM4 => ?_)
  have h := h M4 eM4
  refine eg_aload_n 0 dX11_sumRead_20 rfl rfl ?_
  refine eg_iconst dX11_sumRead_21 ic_1 ?_
  refine en_putZ dX11_sumRead_22 fl_11_321 rfl rfl (Or.inr rfl) (obM_60 z1) (fun M5 eM5 => ?_)
  have h := h M5 eM5
  exact h
set_option maxRecDepth 10000 in
theorem vX11_sumRead_25 {κ : eg_K} {d : Nat} (hd : 1 ≤ d) {post : Int32 → eg_H → Prop} (M : eg_H)  (h : (∀ x2 : Int32, x2 = (fX11_isSign M (59 : Int32)) → (x2 = 0 → eg_W κ gM mtX11_sumRead d (eQI κ gM post) 48 [(0, vR (60, 0))] [] M) ∧ ((¬ x2 = 0) → ((¬ (M.1 (60, 0) 47) = 0) → eg_W κ gM mtX11_sumRead d (eQI κ gM post) 48 [(0, vR (60, 0))] [] M) ∧ ((M.1 (60, 0) 47) = 0 → ((M.1 (60, 0) 45) ≤ 0 → eCV κ gM mtX11_bind d [vR (60, 0), vI (1 : Int32)] M (fun M6 => post (1 : Int32) M6)) ∧ ((¬ (M.1 (60, 0) 45) ≤ 0) → eg_W κ gM mtX11_sumRead d (eQI κ gM post) 48 [(0, vR (60, 0))] [] M))))) : eg_W κ gM mtX11_sumRead d (eQI κ gM post) 25 [(0, vR (60, 0))] [] M := by
  refine eg_aload_n 0 dX11_sumRead_25 rfl rfl ?_
  refine eg_bipush dX11_sumRead_26 bp_59 ?_
  refine eg_callVI (av := [vI (59 : Int32)]) (st := []) dX11_sumRead_28 ml_11_291 rfl rfl (obM_60 z1) (by decide) rfl (Nat.le_of_ble_eq_true rfl) (eg_dd (by omega)) (sX11_isSign (by omega) M (59 : Int32)  ) (fun x2 M1 hp => ?_)
  obtain ⟨ex2, eM1⟩ := hp
  rw [eM1]
  have h := h x2 ex2
  refine eg_if_eq (tgt := 48) dX11_sumRead_31 rfl (fun c3 => ?_) (fun c3 => ?_)
  · have h := h.1 c3
    exact h
  · have h := h.2 c3
    refine eg_aload_n 0 dX11_sumRead_34 rfl rfl ?_
    refine eg_getI dX11_sumRead_35 fl_11_327 rfl trivial (obM_60 z1) ?_
    refine eg_if_ne (tgt := 48) dX11_sumRead_38 rfl (fun c4 => ?_) (fun c4 => ?_)
    · have h := h.1 c4
      exact h
    · have h := h.2 c4
      refine eg_aload_n 0 dX11_sumRead_41 rfl rfl ?_
      refine eg_getI dX11_sumRead_42 fl_11_314 rfl trivial (obM_60 z1) ?_
      refine eg_if_le (tgt := 74) dX11_sumRead_45 rfl (fun c5 => ?_) (fun c5 => ?_)
      · have h := h.1 c5
        refine eg_aload_n 0 dX11_sumRead_74 rfl rfl ?_
        refine eg_iconst dX11_sumRead_75 ic_1 ?_
        obtain ⟨q7, hq7, h⟩ := h
        refine eg_callVV (av := [vI (1 : Int32)]) (st := []) dX11_sumRead_76 ml_11_330 rfl rfl (obM_60 z1) (by decide) rfl (Nat.le_of_ble_eq_true rfl) (eg_dd (by omega)) hq7 (fun M6 hp => ?_)
        have h := h M6 hp
        refine eg_iconst dX11_sumRead_79 ic_1 ?_
        exact eg_zreturn dX11_sumRead_80 rfl (Or.inr rfl) h
      · have h := h.2 c5
        exact h
set_option maxRecDepth 10000 in
theorem vX11_sumRead_48 {κ : eg_K} {d : Nat} (hd : 1 ≤ d) {post : Int32 → eg_H → Prop} (M : eg_H)  (h : ((M.1 (60, 0) 47) = 0 → eCI κ gM mtX11_signs d [vR (60, 0)] M (fun x2 M3 => ((¬ x2 = 0) → eg_W κ gM mtX11_sumRead d (eQI κ gM post) 25 [(0, vR (60, 0))] [] M3) ∧ (x2 = 0 → post (0 : Int32) M3))) ∧ ((¬ (M.1 (60, 0) 47) = 0) → eCI κ gM mtX11_leafRead d [vR (60, 0)] M (fun x6 M7 => (x6 = 0 → post (0 : Int32) M7) ∧ ((¬ x6 = 0) → eg_W κ gM mtX11_sumRead d (eQI κ gM post) 25 [(0, vR (60, 0))] [] M7)))) : eg_W κ gM mtX11_sumRead d (eQI κ gM post) 48 [(0, vR (60, 0))] [] M := by
  refine eg_aload_n 0 dX11_sumRead_48 rfl rfl ?_
  refine eg_getI dX11_sumRead_49 fl_11_327 rfl trivial (obM_60 z1) ?_
  refine eg_if_eq (tgt := 65) dX11_sumRead_52 rfl (fun c1 => ?_) (fun c1 => ?_)
  · have h := h.1 c1
    refine eg_aload_n 0 dX11_sumRead_65 rfl rfl ?_
    obtain ⟨q4, hq4, h⟩ := h
    refine eg_callVI (av := []) (st := []) dX11_sumRead_66 ml_11_336 rfl rfl (obM_60 z1) (by decide) rfl (Nat.le_of_ble_eq_true rfl) (eg_dd (by omega)) hq4 (fun x2 M3 hp => ?_)
    have h := h x2 M3 hp
    refine eg_if_ne (tgt := 25) dX11_sumRead_69 rfl (fun c5 => ?_) (fun c5 => ?_)
    · have h := h.1 c5
      exact h
    · have h := h.2 c5
      refine eg_iconst dX11_sumRead_72 ic_0 ?_
      exact eg_zreturn dX11_sumRead_73 rfl (Or.inl rfl) h
  · have h := h.2 c1
    refine eg_aload_n 0 dX11_sumRead_55 rfl rfl ?_
    obtain ⟨q8, hq8, h⟩ := h
    refine eg_callVI (av := []) (st := []) dX11_sumRead_56 ml_11_333 rfl rfl (obM_60 z1) (by decide) rfl (Nat.le_of_ble_eq_true rfl) (eg_dd (by omega)) hq8 (fun x6 M7 hp => ?_)
    have h := h x6 M7 hp
    refine eg_if_eq (tgt := 72) dX11_sumRead_59 rfl (fun c9 => ?_) (fun c9 => ?_)
    · have h := h.1 c9
      refine eg_iconst dX11_sumRead_72 ic_0 ?_
      exact eg_zreturn dX11_sumRead_73 rfl (Or.inl rfl) h
    · have h := h.2 c9
      refine eg_goto (tgt := 25) dX11_sumRead_62 rfl ?_
      exact h
theorem dX11_keepText_0 : decode cX11_keepText 0 = .ok (.aload_n 0, 1) := by decide +kernel
theorem dX11_keepText_1 : decode cX11_keepText 1 = .ok (.aload_n 0, 1) := by decide +kernel
theorem dX11_keepText_2 : decode cX11_keepText 2 = .ok (.getfield 181, 3) := by decide +kernel
theorem dX11_keepText_5 : decode cX11_keepText 5 = .ok (.putfield 209, 3) := by decide +kernel
theorem dX11_keepText_8 : decode cX11_keepText 8 = .ok (.aload_n 0, 1) := by decide +kernel
theorem dX11_keepText_9 : decode cX11_keepText 9 = .ok (.aload_n 0, 1) := by decide +kernel
theorem dX11_keepText_10 : decode cX11_keepText 10 = .ok (.getfield 184, 3) := by decide +kernel
theorem dX11_keepText_13 : decode cX11_keepText 13 = .ok (.putfield 212, 3) := by decide +kernel
theorem dX11_keepText_16 : decode cX11_keepText 16 = .ok (.aload_n 0, 1) := by decide +kernel
theorem dX11_keepText_17 : decode cX11_keepText 17 = .ok (.aload_n 0, 1) := by decide +kernel
theorem dX11_keepText_18 : decode cX11_keepText 18 = .ok (.getfield 187, 3) := by decide +kernel
theorem dX11_keepText_21 : decode cX11_keepText 21 = .ok (.putfield 215, 3) := by decide +kernel
theorem dX11_keepText_24 : decode cX11_keepText 24 = .ok (.aload_n 0, 1) := by decide +kernel
theorem dX11_keepText_25 : decode cX11_keepText 25 = .ok (.aload_n 0, 1) := by decide +kernel
theorem dX11_keepText_26 : decode cX11_keepText 26 = .ok (.getfield 190, 3) := by decide +kernel
theorem dX11_keepText_29 : decode cX11_keepText 29 = .ok (.putfield 218, 3) := by decide +kernel
theorem dX11_keepText_32 : decode cX11_keepText 32 = .ok (.aload_n 0, 1) := by decide +kernel
theorem dX11_keepText_33 : decode cX11_keepText 33 = .ok (.aload_n 0, 1) := by decide +kernel
theorem dX11_keepText_34 : decode cX11_keepText 34 = .ok (.getfield 196, 3) := by decide +kernel
theorem dX11_keepText_37 : decode cX11_keepText 37 = .ok (.putfield 221, 3) := by decide +kernel
theorem dX11_keepText_40 : decode cX11_keepText 40 = .ok (.aload_n 0, 1) := by decide +kernel
theorem dX11_keepText_41 : decode cX11_keepText 41 = .ok (.aload_n 0, 1) := by decide +kernel
theorem dX11_keepText_42 : decode cX11_keepText 42 = .ok (.getfield 200, 3) := by decide +kernel
theorem dX11_keepText_45 : decode cX11_keepText 45 = .ok (.putfield 224, 3) := by decide +kernel
theorem dX11_keepText_48 : decode cX11_keepText 48 = .ok (.aload_n 0, 1) := by decide +kernel
theorem dX11_keepText_49 : decode cX11_keepText 49 = .ok (.aload_n 0, 1) := by decide +kernel
theorem dX11_keepText_50 : decode cX11_keepText 50 = .ok (.getfield 203, 3) := by decide +kernel
theorem dX11_keepText_53 : decode cX11_keepText 53 = .ok (.putfield 227, 3) := by decide +kernel
theorem dX11_keepText_56 : decode cX11_keepText 56 = .ok (.aload_n 0, 1) := by decide +kernel
theorem dX11_keepText_57 : decode cX11_keepText 57 = .ok (.getfield 20, 3) := by decide +kernel
theorem dX11_keepText_60 : decode cX11_keepText 60 = .ok (.iconst 5, 1) := by decide +kernel
theorem dX11_keepText_61 : decode cX11_keepText 61 = .ok (.invokestatic 230, 3) := by decide +kernel
theorem dX11_keepText_64 : decode cX11_keepText 64 = .ok (.aload_n 0, 1) := by decide +kernel
theorem dX11_keepText_65 : decode cX11_keepText 65 = .ok (.getfield 23, 3) := by decide +kernel
theorem dX11_keepText_68 : decode cX11_keepText 68 = .ok (.bipush 30, 2) := by decide +kernel
theorem dX11_keepText_70 : decode cX11_keepText 70 = .ok (.invokestatic 230, 3) := by decide +kernel
theorem dX11_keepText_73 : decode cX11_keepText 73 = .ok (.aload_n 0, 1) := by decide +kernel
theorem dX11_keepText_74 : decode cX11_keepText 74 = .ok (.getfield 26, 3) := by decide +kernel
theorem dX11_keepText_77 : decode cX11_keepText 77 = .ok (.bipush 9, 2) := by decide +kernel
theorem dX11_keepText_79 : decode cX11_keepText 79 = .ok (.invokestatic 230, 3) := by decide +kernel
theorem dX11_keepText_82 : decode cX11_keepText 82 = .ok (.iconst 0, 1) := by decide +kernel
theorem dX11_keepText_83 : decode cX11_keepText 83 = .ok (.istore_n 1, 1) := by decide +kernel
theorem dX11_keepText_84 : decode cX11_keepText 84 = .ok (.iload_n 1, 1) := by decide +kernel
theorem dX11_keepText_85 : decode cX11_keepText 85 = .ok (.bipush 9, 2) := by decide +kernel
theorem dX11_keepText_87 : decode cX11_keepText 87 = .ok (.if_icmp .ge 75, 3) := by decide +kernel
theorem dX11_keepText_90 : decode cX11_keepText 90 = .ok (.aload_n 0, 1) := by decide +kernel
theorem dX11_keepText_91 : decode cX11_keepText 91 = .ok (.getfield 29, 3) := by decide +kernel
theorem dX11_keepText_94 : decode cX11_keepText 94 = .ok (.iload_n 1, 1) := by decide +kernel
theorem dX11_keepText_95 : decode cX11_keepText 95 = .ok (.aload_n 0, 1) := by decide +kernel
theorem dX11_keepText_96 : decode cX11_keepText 96 = .ok (.getfield 29, 3) := by decide +kernel
theorem dX11_keepText_99 : decode cX11_keepText 99 = .ok (.bipush 15, 2) := by decide +kernel
theorem dX11_keepText_101 : decode cX11_keepText 101 = .ok (.iload_n 1, 1) := by decide +kernel
theorem dX11_keepText_102 : decode cX11_keepText 102 = .ok (.iadd, 1) := by decide +kernel
theorem dX11_keepText_103 : decode cX11_keepText 103 = .ok (.iaload, 1) := by decide +kernel
theorem dX11_keepText_104 : decode cX11_keepText 104 = .ok (.iastore, 1) := by decide +kernel
theorem dX11_keepText_105 : decode cX11_keepText 105 = .ok (.aload_n 0, 1) := by decide +kernel
theorem dX11_keepText_106 : decode cX11_keepText 106 = .ok (.getfield 32, 3) := by decide +kernel
theorem dX11_keepText_109 : decode cX11_keepText 109 = .ok (.iload_n 1, 1) := by decide +kernel
theorem dX11_keepText_110 : decode cX11_keepText 110 = .ok (.aload_n 0, 1) := by decide +kernel
theorem dX11_keepText_111 : decode cX11_keepText 111 = .ok (.getfield 32, 3) := by decide +kernel
theorem dX11_keepText_114 : decode cX11_keepText 114 = .ok (.bipush 15, 2) := by decide +kernel
theorem dX11_keepText_116 : decode cX11_keepText 116 = .ok (.iload_n 1, 1) := by decide +kernel
theorem dX11_keepText_117 : decode cX11_keepText 117 = .ok (.iadd, 1) := by decide +kernel
theorem dX11_keepText_118 : decode cX11_keepText 118 = .ok (.iaload, 1) := by decide +kernel
theorem dX11_keepText_119 : decode cX11_keepText 119 = .ok (.iastore, 1) := by decide +kernel
theorem dX11_keepText_120 : decode cX11_keepText 120 = .ok (.iconst 0, 1) := by decide +kernel
theorem dX11_keepText_121 : decode cX11_keepText 121 = .ok (.istore_n 2, 1) := by decide +kernel
theorem dX11_keepText_122 : decode cX11_keepText 122 = .ok (.iload_n 2, 1) := by decide +kernel
theorem dX11_keepText_123 : decode cX11_keepText 123 = .ok (.iconst 5, 1) := by decide +kernel
theorem dX11_keepText_124 : decode cX11_keepText 124 = .ok (.if_icmp .ge 32, 3) := by decide +kernel
theorem dX11_keepText_127 : decode cX11_keepText 127 = .ok (.aload_n 0, 1) := by decide +kernel
theorem dX11_keepText_128 : decode cX11_keepText 128 = .ok (.getfield 35, 3) := by decide +kernel
theorem dX11_keepText_131 : decode cX11_keepText 131 = .ok (.iconst 5, 1) := by decide +kernel
theorem dX11_keepText_132 : decode cX11_keepText 132 = .ok (.iload_n 1, 1) := by decide +kernel
theorem dX11_keepText_133 : decode cX11_keepText 133 = .ok (.imul, 1) := by decide +kernel
theorem dX11_keepText_134 : decode cX11_keepText 134 = .ok (.iload_n 2, 1) := by decide +kernel
theorem dX11_keepText_135 : decode cX11_keepText 135 = .ok (.iadd, 1) := by decide +kernel
theorem dX11_keepText_136 : decode cX11_keepText 136 = .ok (.aload_n 0, 1) := by decide +kernel
theorem dX11_keepText_137 : decode cX11_keepText 137 = .ok (.getfield 35, 3) := by decide +kernel
theorem dX11_keepText_140 : decode cX11_keepText 140 = .ok (.bipush 75, 2) := by decide +kernel
theorem dX11_keepText_142 : decode cX11_keepText 142 = .ok (.iconst 5, 1) := by decide +kernel
theorem dX11_keepText_143 : decode cX11_keepText 143 = .ok (.iload_n 1, 1) := by decide +kernel
theorem dX11_keepText_144 : decode cX11_keepText 144 = .ok (.imul, 1) := by decide +kernel
theorem dX11_keepText_145 : decode cX11_keepText 145 = .ok (.iadd, 1) := by decide +kernel
theorem dX11_keepText_146 : decode cX11_keepText 146 = .ok (.iload_n 2, 1) := by decide +kernel
theorem dX11_keepText_147 : decode cX11_keepText 147 = .ok (.iadd, 1) := by decide +kernel
theorem dX11_keepText_148 : decode cX11_keepText 148 = .ok (.iaload, 1) := by decide +kernel
theorem dX11_keepText_149 : decode cX11_keepText 149 = .ok (.iastore, 1) := by decide +kernel
theorem dX11_keepText_150 : decode cX11_keepText 150 = .ok (.iinc 2 1, 3) := by decide +kernel
theorem dX11_keepText_153 : decode cX11_keepText 153 = .ok (.goto (-31), 3) := by decide +kernel
theorem dX11_keepText_156 : decode cX11_keepText 156 = .ok (.iinc 1 1, 3) := by decide +kernel
theorem dX11_keepText_159 : decode cX11_keepText 159 = .ok (.goto (-75), 3) := by decide +kernel
theorem dX11_keepText_162 : decode cX11_keepText 162 = .ok (.aload_n 0, 1) := by decide +kernel
theorem dX11_keepText_163 : decode cX11_keepText 163 = .ok (.getfield 38, 3) := by decide +kernel
theorem dX11_keepText_166 : decode cX11_keepText 166 = .ok (.iconst 4, 1) := by decide +kernel
theorem dX11_keepText_167 : decode cX11_keepText 167 = .ok (.invokestatic 230, 3) := by decide +kernel
theorem dX11_keepText_170 : decode cX11_keepText 170 = .ok (.aload_n 0, 1) := by decide +kernel
theorem dX11_keepText_171 : decode cX11_keepText 171 = .ok (.getfield 41, 3) := by decide +kernel
theorem dX11_keepText_174 : decode cX11_keepText 174 = .ok (.iconst 4, 1) := by decide +kernel
theorem dX11_keepText_175 : decode cX11_keepText 175 = .ok (.invokestatic 230, 3) := by decide +kernel
theorem dX11_keepText_178 : decode cX11_keepText 178 = .ok (.aload_n 0, 1) := by decide +kernel
theorem dX11_keepText_179 : decode cX11_keepText 179 = .ok (.getfield 44, 3) := by decide +kernel
theorem dX11_keepText_182 : decode cX11_keepText 182 = .ok (.bipush 7, 2) := by decide +kernel
theorem dX11_keepText_184 : decode cX11_keepText 184 = .ok (.invokestatic 230, 3) := by decide +kernel
theorem dX11_keepText_187 : decode cX11_keepText 187 = .ok (.aload_n 0, 1) := by decide +kernel
theorem dX11_keepText_188 : decode cX11_keepText 188 = .ok (.getfield 47, 3) := by decide +kernel
theorem dX11_keepText_191 : decode cX11_keepText 191 = .ok (.bipush 7, 2) := by decide +kernel
theorem dX11_keepText_193 : decode cX11_keepText 193 = .ok (.invokestatic 230, 3) := by decide +kernel
theorem dX11_keepText_196 : decode cX11_keepText 196 = .ok (.iconst 0, 1) := by decide +kernel
theorem dX11_keepText_197 : decode cX11_keepText 197 = .ok (.istore_n 1, 1) := by decide +kernel
theorem dX11_keepText_198 : decode cX11_keepText 198 = .ok (.iload_n 1, 1) := by decide +kernel
theorem dX11_keepText_199 : decode cX11_keepText 199 = .ok (.iconst 3, 1) := by decide +kernel
theorem dX11_keepText_200 : decode cX11_keepText 200 = .ok (.if_icmp .ge 23, 3) := by decide +kernel
theorem dX11_keepText_203 : decode cX11_keepText 203 = .ok (.aload_n 0, 1) := by decide +kernel
theorem dX11_keepText_204 : decode cX11_keepText 204 = .ok (.getfield 50, 3) := by decide +kernel
theorem dX11_keepText_207 : decode cX11_keepText 207 = .ok (.iload_n 1, 1) := by decide +kernel
theorem dX11_keepText_208 : decode cX11_keepText 208 = .ok (.aload_n 0, 1) := by decide +kernel
theorem dX11_keepText_209 : decode cX11_keepText 209 = .ok (.getfield 50, 3) := by decide +kernel
theorem dX11_keepText_212 : decode cX11_keepText 212 = .ok (.iconst 3, 1) := by decide +kernel
theorem dX11_keepText_213 : decode cX11_keepText 213 = .ok (.iload_n 1, 1) := by decide +kernel
theorem dX11_keepText_214 : decode cX11_keepText 214 = .ok (.iadd, 1) := by decide +kernel
theorem dX11_keepText_215 : decode cX11_keepText 215 = .ok (.baload, 1) := by decide +kernel
theorem dX11_keepText_216 : decode cX11_keepText 216 = .ok (.bastore, 1) := by decide +kernel
theorem dX11_keepText_217 : decode cX11_keepText 217 = .ok (.iinc 1 1, 3) := by decide +kernel
theorem dX11_keepText_220 : decode cX11_keepText 220 = .ok (.goto (-22), 3) := by decide +kernel
theorem dX11_keepText_223 : decode cX11_keepText 223 = .ok (.aload_n 0, 1) := by decide +kernel
theorem dX11_keepText_224 : decode cX11_keepText 224 = .ok (.getfield 54, 3) := by decide +kernel
theorem dX11_keepText_227 : decode cX11_keepText 227 = .ok (.bipush 64, 2) := by decide +kernel
theorem dX11_keepText_229 : decode cX11_keepText 229 = .ok (.invokestatic 230, 3) := by decide +kernel
theorem dX11_keepText_232 : decode cX11_keepText 232 = .ok (.aload_n 0, 1) := by decide +kernel
theorem dX11_keepText_233 : decode cX11_keepText 233 = .ok (.getfield 57, 3) := by decide +kernel
theorem dX11_keepText_236 : decode cX11_keepText 236 = .ok (.bipush 64, 2) := by decide +kernel
theorem dX11_keepText_238 : decode cX11_keepText 238 = .ok (.invokestatic 230, 3) := by decide +kernel
theorem dX11_keepText_241 : decode cX11_keepText 241 = .ok (.aload_n 0, 1) := by decide +kernel
theorem dX11_keepText_242 : decode cX11_keepText 242 = .ok (.getfield 60, 3) := by decide +kernel
theorem dX11_keepText_245 : decode cX11_keepText 245 = .ok (.bipush 64, 2) := by decide +kernel
theorem dX11_keepText_247 : decode cX11_keepText 247 = .ok (.invokestatic 230, 3) := by decide +kernel
theorem dX11_keepText_250 : decode cX11_keepText 250 = .ok (.iconst 0, 1) := by decide +kernel
theorem dX11_keepText_251 : decode cX11_keepText 251 = .ok (.istore_n 1, 1) := by decide +kernel
theorem dX11_keepText_252 : decode cX11_keepText 252 = .ok (.iload_n 1, 1) := by decide +kernel
theorem dX11_keepText_253 : decode cX11_keepText 253 = .ok (.iconst 5, 1) := by decide +kernel
theorem dX11_keepText_254 : decode cX11_keepText 254 = .ok (.if_icmp .ge 16, 3) := by decide +kernel
theorem dX11_keepText_257 : decode cX11_keepText 257 = .ok (.aload_n 0, 1) := by decide +kernel
theorem dX11_keepText_258 : decode cX11_keepText 258 = .ok (.getfield 75, 3) := by decide +kernel
theorem dX11_keepText_261 : decode cX11_keepText 261 = .ok (.iload_n 1, 1) := by decide +kernel
theorem dX11_keepText_262 : decode cX11_keepText 262 = .ok (.iload_n 1, 1) := by decide +kernel
theorem dX11_keepText_263 : decode cX11_keepText 263 = .ok (.iastore, 1) := by decide +kernel
theorem dX11_keepText_264 : decode cX11_keepText 264 = .ok (.iinc 1 1, 3) := by decide +kernel
theorem dX11_keepText_267 : decode cX11_keepText 267 = .ok (.goto (-15), 3) := by decide +kernel
theorem dX11_keepText_270 : decode cX11_keepText 270 = .ok (.aload_n 0, 1) := by decide +kernel
theorem dX11_keepText_271 : decode cX11_keepText 271 = .ok (.iconst 0, 1) := by decide +kernel
theorem dX11_keepText_272 : decode cX11_keepText 272 = .ok (.putfield 234, 3) := by decide +kernel
theorem dX11_keepText_275 : decode cX11_keepText 275 = .ok (.aload_n 0, 1) := by decide +kernel
theorem dX11_keepText_276 : decode cX11_keepText 276 = .ok (.iconst (-1), 1) := by decide +kernel
theorem dX11_keepText_277 : decode cX11_keepText 277 = .ok (.putfield 100, 3) := by decide +kernel
theorem dX11_keepText_280 : decode cX11_keepText 280 = .ok (.aload_n 0, 1) := by decide +kernel
theorem dX11_keepText_281 : decode cX11_keepText 281 = .ok (.iconst 0, 1) := by decide +kernel
theorem dX11_keepText_282 : decode cX11_keepText 282 = .ok (.putfield 237, 3) := by decide +kernel
theorem dX11_keepText_285 : decode cX11_keepText 285 = .ok (.aload_n 0, 1) := by decide +kernel
theorem dX11_keepText_286 : decode cX11_keepText 286 = .ok (.iconst 0, 1) := by decide +kernel
theorem dX11_keepText_287 : decode cX11_keepText 287 = .ok (.putfield 240, 3) := by decide +kernel
theorem dX11_keepText_290 : decode cX11_keepText 290 = .ok (.aload_n 0, 1) := by decide +kernel
theorem dX11_keepText_291 : decode cX11_keepText 291 = .ok (.invokevirtual 243, 3) := by decide +kernel
theorem dX11_keepText_294 : decode cX11_keepText 294 = .ok (.aload_n 0, 1) := by decide +kernel
theorem dX11_keepText_295 : decode cX11_keepText 295 = .ok (.invokevirtual 246, 3) := by decide +kernel
theorem dX11_keepText_298 : decode cX11_keepText 298 = .ok (.aload_n 0, 1) := by decide +kernel
theorem dX11_keepText_299 : decode cX11_keepText 299 = .ok (.getfield 72, 3) := by decide +kernel
theorem dX11_keepText_302 : decode cX11_keepText 302 = .ok (.aload_n 0, 1) := by decide +kernel
theorem dX11_keepText_303 : decode cX11_keepText 303 = .ok (.getfield 69, 3) := by decide +kernel
theorem dX11_keepText_306 : decode cX11_keepText 306 = .ok (.invokestatic 249, 3) := by decide +kernel
theorem dX11_keepText_309 : decode cX11_keepText 309 = .ok (.return_, 1) := by decide +kernel
set_option maxRecDepth 10000 in
theorem vX11_keepText_0 {κ : eg_K} {d : Nat} (hd : 1 ≤ d) {post : eg_H → Prop} (M : eg_H)  (h : (∀ M1 : eg_H, M1 = (sI M (60, 0) 12 (M.1 (60, 0) 19)) → (∀ M2 : eg_H, M2 = (sI M1 (60, 0) 13 (M1.1 (60, 0) 20)) → (∀ M3 : eg_H, M3 = (sI M2 (60, 0) 14 (M2.1 (60, 0) 21)) → (∀ M4 : eg_H, M4 = (sI M3 (60, 0) 15 (M3.1 (60, 0) 22)) → (((M4.1 (60, 0) 23) = 0 ∨ (M4.1 (60, 0) 23) = 1) ∧ (∀ M5 : eg_H, M5 = (sI M4 (60, 0) 16 (M4.1 (60, 0) 23)) → (∀ M7 : eg_H, M7 = (sI M5 (60, 0) 17 (M5.1 (60, 0) 24)) → (∀ M8 : eg_H, M8 = (sI M7 (60, 0) 18 (M7.1 (60, 0) 25)) → (gX11_copies M8 ((88, 0) : eg_R) (5 : Int32) ∧ (∀ M10 : eg_H, M10 = (fX11_copies M8 ((88, 0) : eg_R) (5 : Int32)) → (gX11_copies M10 ((89, 0) : eg_R) (30 : Int32) ∧ (∀ M13 : eg_H, M13 = (fX11_copies M10 ((89, 0) : eg_R) (30 : Int32)) → (gX11_copies M13 ((90, 0) : eg_R) (9 : Int32) ∧ (∀ M16 : eg_H, M16 = (fX11_copies M13 ((90, 0) : eg_R) (9 : Int32)) → eg_W κ gM mtX11_keepText d (eQV κ gM post) 84 [(0, vR (60, 0)), (1, vI (0 : Int32))] [] M16))))))))))))))) : eg_W κ gM mtX11_keepText d (eQV κ gM post) 0 [(0, vR (60, 0))] [] M := by
  refine eg_aload_n 0 dX11_keepText_0 rfl rfl ?_
  refine eg_aload_n 0 dX11_keepText_1 rfl rfl ?_
  refine eg_getI dX11_keepText_2 fl_11_181 rfl trivial (obM_60 z1) ?_
  refine en_putI dX11_keepText_5 fl_11_209 rfl rfl (obM_60 z1) (fun M1 eM1 => ?_)
  have h := h M1 eM1
  refine eg_aload_n 0 dX11_keepText_8 rfl rfl ?_
  refine eg_aload_n 0 dX11_keepText_9 rfl rfl ?_
  refine eg_getI dX11_keepText_10 fl_11_184 rfl trivial (obM_60 z1) ?_
  refine en_putI dX11_keepText_13 fl_11_212 rfl rfl (obM_60 z1) (fun M2 eM2 => ?_)
  have h := h M2 eM2
  refine eg_aload_n 0 dX11_keepText_16 rfl rfl ?_
  refine eg_aload_n 0 dX11_keepText_17 rfl rfl ?_
  refine eg_getI dX11_keepText_18 fl_11_187 rfl trivial (obM_60 z1) ?_
  refine en_putI dX11_keepText_21 fl_11_215 rfl rfl (obM_60 z1) (fun M3 eM3 => ?_)
  have h := h M3 eM3
  refine eg_aload_n 0 dX11_keepText_24 rfl rfl ?_
  refine eg_aload_n 0 dX11_keepText_25 rfl rfl ?_
  refine eg_getI dX11_keepText_26 fl_11_190 rfl trivial (obM_60 z1) ?_
  refine en_putI dX11_keepText_29 fl_11_218 rfl rfl (obM_60 z1) (fun M4 eM4 => ?_)
  have h := h M4 eM4
  refine eg_aload_n 0 dX11_keepText_32 rfl rfl ?_
  refine eg_aload_n 0 dX11_keepText_33 rfl rfl ?_
  refine eg_getI dX11_keepText_34 fl_11_196 rfl trivial (obM_60 z1) ?_
  obtain ⟨g6, h⟩ := h
  refine en_putZ dX11_keepText_37 fl_11_221 rfl rfl g6 (obM_60 z1) (fun M5 eM5 => ?_)
  have h := h M5 eM5
  refine eg_aload_n 0 dX11_keepText_40 rfl rfl ?_
  refine eg_aload_n 0 dX11_keepText_41 rfl rfl ?_
  refine eg_getI dX11_keepText_42 fl_11_200 rfl trivial (obM_60 z1) ?_
  refine en_putI dX11_keepText_45 fl_11_224 rfl rfl (obM_60 z1) (fun M7 eM7 => ?_)
  have h := h M7 eM7
  refine eg_aload_n 0 dX11_keepText_48 rfl rfl ?_
  refine eg_aload_n 0 dX11_keepText_49 rfl rfl ?_
  refine eg_getI dX11_keepText_50 fl_11_203 rfl trivial (obM_60 z1) ?_
  refine en_putI dX11_keepText_53 fl_11_227 rfl rfl (obM_60 z1) (fun M8 eM8 => ?_)
  have h := h M8 eM8
  refine eg_aload_n 0 dX11_keepText_56 rfl rfl ?_
  refine eg_getR dX11_keepText_57 fl_11_20 rfl rfl (obM_60 z1) ?_
  show eg_W κ gM mtX11_keepText d (eQV κ gM post) 60 [(0, vR (60, 0))] [vR (88, 0)] M8
  refine eg_iconst dX11_keepText_60 ic_5 ?_
  obtain ⟨g9, h⟩ := h
  refine eg_callSV (av := [vR (88, 0), vI (5 : Int32)]) (st := []) dX11_keepText_61 ml_11_230 rfl rfl (Nat.le_of_ble_eq_true rfl) (eg_dd (by omega)) (sX11_copies (by omega) M8 ((88, 0) : eg_R) (5 : Int32) (anM_88 z1) g9) (fun M10 eM10 => ?_)
  have h := h M10 eM10
  refine eg_aload_n 0 dX11_keepText_64 rfl rfl ?_
  refine eg_getR dX11_keepText_65 fl_11_23 rfl rfl (obM_60 z1) ?_
  show eg_W κ gM mtX11_keepText d (eQV κ gM post) 68 [(0, vR (60, 0))] [vR (89, 0)] M10
  refine eg_bipush dX11_keepText_68 bp_30 ?_
  obtain ⟨g12, h⟩ := h
  refine eg_callSV (av := [vR (89, 0), vI (30 : Int32)]) (st := []) dX11_keepText_70 ml_11_230 rfl rfl (Nat.le_of_ble_eq_true rfl) (eg_dd (by omega)) (sX11_copies (by omega) M10 ((89, 0) : eg_R) (30 : Int32) (anM_89 z1) g12) (fun M13 eM13 => ?_)
  have h := h M13 eM13
  refine eg_aload_n 0 dX11_keepText_73 rfl rfl ?_
  refine eg_getR dX11_keepText_74 fl_11_26 rfl rfl (obM_60 z1) ?_
  show eg_W κ gM mtX11_keepText d (eQV κ gM post) 77 [(0, vR (60, 0))] [vR (90, 0)] M13
  refine eg_bipush dX11_keepText_77 bp_9 ?_
  obtain ⟨g15, h⟩ := h
  refine eg_callSV (av := [vR (90, 0), vI (9 : Int32)]) (st := []) dX11_keepText_79 ml_11_230 rfl rfl (Nat.le_of_ble_eq_true rfl) (eg_dd (by omega)) (sX11_copies (by omega) M13 ((90, 0) : eg_R) (9 : Int32) (anM_90 z1) g15) (fun M16 eM16 => ?_)
  have h := h M16 eM16
  refine eg_iconst dX11_keepText_82 ic_0 ?_
  refine eg_istore_n dX11_keepText_83 rfl (by decide) (ls1 := [(1, vI (0 : Int32)), (0, vR (60, 0))]) rfl ?_
  refine eg_sub [1, 0] rfl ?_
  exact h
set_option maxRecDepth 10000 in
theorem vX11_keepText_84 {κ : eg_K} {d : Nat} (hd : 1 ≤ d) {post : eg_H → Prop} (M : eg_H) (l1 : Int32) (h : ((9 : Int32) ≤ l1 → (gX11_copies M ((94, 0) : eg_R) (4 : Int32) ∧ (∀ M3 : eg_H, M3 = (fX11_copies M ((94, 0) : eg_R) (4 : Int32)) → (gX11_copies M3 ((95, 0) : eg_R) (4 : Int32) ∧ (∀ M6 : eg_H, M6 = (fX11_copies M3 ((95, 0) : eg_R) (4 : Int32)) → (gX11_copies M6 ((96, 0) : eg_R) (7 : Int32) ∧ (∀ M9 : eg_H, M9 = (fX11_copies M6 ((96, 0) : eg_R) (7 : Int32)) → (gX11_copies M9 ((97, 0) : eg_R) (7 : Int32) ∧ (∀ M12 : eg_H, M12 = (fX11_copies M9 ((97, 0) : eg_R) (7 : Int32)) → eg_W κ gM mtX11_keepText d (eQV κ gM post) 198 [(0, vR (60, 0)), (1, vI (0 : Int32))] [] M12))))))))) ∧ ((¬ (9 : Int32) ≤ l1) → (vp_in ((15 : Int32) + l1) 24 ∧ (vp_in l1 24 ∧ (∀ M16 : eg_H, M16 = (sI M (91, 0) l1.toNatClampNeg (M.1 (91, 0) ((15 : Int32) + l1).toNatClampNeg)) → (∀ M17 : eg_H, M17 = (sI M16 (92, 0) l1.toNatClampNeg (M16.1 (92, 0) ((15 : Int32) + l1).toNatClampNeg)) → eg_W κ gM mtX11_keepText d (eQV κ gM post) 122 [(0, vR (60, 0)), (1, vI l1), (2, vI (0 : Int32))] [] M17)))))) : eg_W κ gM mtX11_keepText d (eQV κ gM post) 84 [(0, vR (60, 0)), (1, vI l1)] [] M := by
  refine eg_iload_n 1 dX11_keepText_84 rfl rfl ?_
  refine eg_bipush dX11_keepText_85 bp_9 ?_
  refine eg_icmp_ge (tgt := 162) dX11_keepText_87 rfl (fun c1 => ?_) (fun c1 => ?_)
  · have h := h.1 c1
    refine eg_aload_n 0 dX11_keepText_162 rfl rfl ?_
    refine eg_getR dX11_keepText_163 fl_11_38 rfl rfl (obM_60 z1) ?_
    show eg_W κ gM mtX11_keepText d (eQV κ gM post) 166 [(0, vR (60, 0)), (1, vI l1)] [vR (94, 0)] M
    refine eg_iconst dX11_keepText_166 ic_4 ?_
    obtain ⟨g2, h⟩ := h
    refine eg_callSV (av := [vR (94, 0), vI (4 : Int32)]) (st := []) dX11_keepText_167 ml_11_230 rfl rfl (Nat.le_of_ble_eq_true rfl) (eg_dd (by omega)) (sX11_copies (by omega) M ((94, 0) : eg_R) (4 : Int32) (anM_94 z1) g2) (fun M3 eM3 => ?_)
    have h := h M3 eM3
    refine eg_aload_n 0 dX11_keepText_170 rfl rfl ?_
    refine eg_getR dX11_keepText_171 fl_11_41 rfl rfl (obM_60 z1) ?_
    show eg_W κ gM mtX11_keepText d (eQV κ gM post) 174 [(0, vR (60, 0)), (1, vI l1)] [vR (95, 0)] M3
    refine eg_iconst dX11_keepText_174 ic_4 ?_
    obtain ⟨g5, h⟩ := h
    refine eg_callSV (av := [vR (95, 0), vI (4 : Int32)]) (st := []) dX11_keepText_175 ml_11_230 rfl rfl (Nat.le_of_ble_eq_true rfl) (eg_dd (by omega)) (sX11_copies (by omega) M3 ((95, 0) : eg_R) (4 : Int32) (anM_95 z1) g5) (fun M6 eM6 => ?_)
    have h := h M6 eM6
    refine eg_aload_n 0 dX11_keepText_178 rfl rfl ?_
    refine eg_getR dX11_keepText_179 fl_11_44 rfl rfl (obM_60 z1) ?_
    show eg_W κ gM mtX11_keepText d (eQV κ gM post) 182 [(0, vR (60, 0)), (1, vI l1)] [vR (96, 0)] M6
    refine eg_bipush dX11_keepText_182 bp_7 ?_
    obtain ⟨g8, h⟩ := h
    refine eg_callSV (av := [vR (96, 0), vI (7 : Int32)]) (st := []) dX11_keepText_184 ml_11_230 rfl rfl (Nat.le_of_ble_eq_true rfl) (eg_dd (by omega)) (sX11_copies (by omega) M6 ((96, 0) : eg_R) (7 : Int32) (anM_96 z1) g8) (fun M9 eM9 => ?_)
    have h := h M9 eM9
    refine eg_aload_n 0 dX11_keepText_187 rfl rfl ?_
    refine eg_getR dX11_keepText_188 fl_11_47 rfl rfl (obM_60 z1) ?_
    show eg_W κ gM mtX11_keepText d (eQV κ gM post) 191 [(0, vR (60, 0)), (1, vI l1)] [vR (97, 0)] M9
    refine eg_bipush dX11_keepText_191 bp_7 ?_
    obtain ⟨g11, h⟩ := h
    refine eg_callSV (av := [vR (97, 0), vI (7 : Int32)]) (st := []) dX11_keepText_193 ml_11_230 rfl rfl (Nat.le_of_ble_eq_true rfl) (eg_dd (by omega)) (sX11_copies (by omega) M9 ((97, 0) : eg_R) (7 : Int32) (anM_97 z1) g11) (fun M12 eM12 => ?_)
    have h := h M12 eM12
    refine eg_iconst dX11_keepText_196 ic_0 ?_
    refine eg_istore_n dX11_keepText_197 rfl (by decide) (ls1 := [(1, vI (0 : Int32)), (0, vR (60, 0))]) rfl ?_
    refine eg_sub [1, 0] rfl ?_
    exact h
  · have h := h.2 c1
    refine eg_aload_n 0 dX11_keepText_90 rfl rfl ?_
    refine eg_getR dX11_keepText_91 fl_11_29 rfl rfl (obM_60 z1) ?_
    show eg_W κ gM mtX11_keepText d (eQV κ gM post) 94 [(0, vR (60, 0)), (1, vI l1)] [vR (91, 0)] M
    refine eg_iload_n 1 dX11_keepText_94 rfl rfl ?_
    refine eg_aload_n 0 dX11_keepText_95 rfl rfl ?_
    refine eg_getR dX11_keepText_96 fl_11_29 rfl rfl (obM_60 z1) ?_
    show eg_W κ gM mtX11_keepText d (eQV κ gM post) 99 [(0, vR (60, 0)), (1, vI l1)] [vR (91, 0), vI l1, vR (91, 0)] M
    refine eg_bipush dX11_keepText_99 bp_15 ?_
    refine eg_iload_n 1 dX11_keepText_101 rfl rfl ?_
    refine eg_iadd dX11_keepText_102 ?_
    obtain ⟨g14, h⟩ := h
    refine eg_iaload dX11_keepText_103 (arM_91 z1 g14) ?_
    obtain ⟨g15, h⟩ := h
    refine en_iastore dX11_keepText_104 (arM_91 z1 g15) (fun M16 eM16 => ?_)
    have h := h M16 eM16
    refine eg_aload_n 0 dX11_keepText_105 rfl rfl ?_
    refine eg_getR dX11_keepText_106 fl_11_32 rfl rfl (obM_60 z1) ?_
    show eg_W κ gM mtX11_keepText d (eQV κ gM post) 109 [(0, vR (60, 0)), (1, vI l1)] [vR (92, 0)] M16
    refine eg_iload_n 1 dX11_keepText_109 rfl rfl ?_
    refine eg_aload_n 0 dX11_keepText_110 rfl rfl ?_
    refine eg_getR dX11_keepText_111 fl_11_32 rfl rfl (obM_60 z1) ?_
    show eg_W κ gM mtX11_keepText d (eQV κ gM post) 114 [(0, vR (60, 0)), (1, vI l1)] [vR (92, 0), vI l1, vR (92, 0)] M16
    refine eg_bipush dX11_keepText_114 bp_15 ?_
    refine eg_iload_n 1 dX11_keepText_116 rfl rfl ?_
    refine eg_iadd dX11_keepText_117 ?_
    refine eg_iaload dX11_keepText_118 (arM_92 z1 g14) ?_
    refine en_iastore dX11_keepText_119 (arM_92 z1 g15) (fun M17 eM17 => ?_)
    have h := h M17 eM17
    refine eg_iconst dX11_keepText_120 ic_0 ?_
    refine eg_istore_n dX11_keepText_121 rfl (by decide) (ls1 := [(2, vI (0 : Int32)), (0, vR (60, 0)), (1, vI l1)]) rfl ?_
    refine eg_sub [1, 2, 0] rfl ?_
    exact h
set_option maxRecDepth 10000 in
theorem vX11_keepText_122 {κ : eg_K} {d : Nat} {post : eg_H → Prop} (M : eg_H) (l1 : Int32) (l2 : Int32) (h : ((5 : Int32) ≤ l2 → (∀ x2 : Int32, x2 = (l1 + (1 : Int32)) → eg_W κ gM mtX11_keepText d (eQV κ gM post) 84 [(0, vR (60, 0)), (1, vI x2)] [] M)) ∧ ((¬ (5 : Int32) ≤ l2) → (vp_in (((75 : Int32) + ((5 : Int32) * l1)) + l2) 120 ∧ (vp_in (((5 : Int32) * l1) + l2) 120 ∧ (∀ M5 : eg_H, M5 = (sI M (93, 0) (((5 : Int32) * l1) + l2).toNatClampNeg (M.1 (93, 0) (((75 : Int32) + ((5 : Int32) * l1)) + l2).toNatClampNeg)) → (∀ x6 : Int32, x6 = (l2 + (1 : Int32)) → eg_W κ gM mtX11_keepText d (eQV κ gM post) 122 [(0, vR (60, 0)), (1, vI l1), (2, vI x6)] [] M5)))))) : eg_W κ gM mtX11_keepText d (eQV κ gM post) 122 [(0, vR (60, 0)), (1, vI l1), (2, vI l2)] [] M := by
  refine eg_iload_n 2 dX11_keepText_122 rfl rfl ?_
  refine eg_iconst dX11_keepText_123 ic_5 ?_
  refine eg_icmp_ge (tgt := 156) dX11_keepText_124 rfl (fun c1 => ?_) (fun c1 => ?_)
  · have h := h.1 c1
    refine en_iinc (f := fun x2 => [(1, vI x2), (0, vR (60, 0)), (2, vI l2)]) 1 dX11_keepText_156 rfl rfl (by decide) rfl (fun x2 ex2 => ?_)
    have h := h x2 ex2
    refine eg_goto (tgt := 84) dX11_keepText_159 rfl ?_
    refine eg_sub [1, 0] rfl ?_
    exact h
  · have h := h.2 c1
    refine eg_aload_n 0 dX11_keepText_127 rfl rfl ?_
    refine eg_getR dX11_keepText_128 fl_11_35 rfl rfl (obM_60 z1) ?_
    show eg_W κ gM mtX11_keepText d (eQV κ gM post) 131 [(0, vR (60, 0)), (1, vI l1), (2, vI l2)] [vR (93, 0)] M
    refine eg_iconst dX11_keepText_131 ic_5 ?_
    refine eg_iload_n 1 dX11_keepText_132 rfl rfl ?_
    refine eg_imul dX11_keepText_133 ?_
    refine eg_iload_n 2 dX11_keepText_134 rfl rfl ?_
    refine eg_iadd dX11_keepText_135 ?_
    refine eg_aload_n 0 dX11_keepText_136 rfl rfl ?_
    refine eg_getR dX11_keepText_137 fl_11_35 rfl rfl (obM_60 z1) ?_
    show eg_W κ gM mtX11_keepText d (eQV κ gM post) 140 [(0, vR (60, 0)), (1, vI l1), (2, vI l2)] [vR (93, 0), vI (((5 : Int32) * l1) + l2), vR (93, 0)] M
    refine eg_bipush dX11_keepText_140 bp_75 ?_
    refine eg_iconst dX11_keepText_142 ic_5 ?_
    refine eg_iload_n 1 dX11_keepText_143 rfl rfl ?_
    refine eg_imul dX11_keepText_144 ?_
    refine eg_iadd dX11_keepText_145 ?_
    refine eg_iload_n 2 dX11_keepText_146 rfl rfl ?_
    refine eg_iadd dX11_keepText_147 ?_
    obtain ⟨g3, h⟩ := h
    refine eg_iaload dX11_keepText_148 (arM_93 z1 g3) ?_
    obtain ⟨g4, h⟩ := h
    refine en_iastore dX11_keepText_149 (arM_93 z1 g4) (fun M5 eM5 => ?_)
    have h := h M5 eM5
    refine en_iinc (f := fun x6 => [(2, vI x6), (0, vR (60, 0)), (1, vI l1)]) 2 dX11_keepText_150 rfl rfl (by decide) rfl (fun x6 ex6 => ?_)
    have h := h x6 ex6
    refine eg_goto (tgt := 122) dX11_keepText_153 rfl ?_
    refine eg_sub [1, 2, 0] rfl ?_
    exact h
set_option maxRecDepth 10000 in
theorem vX11_keepText_198 {κ : eg_K} {d : Nat} (hd : 1 ≤ d) {post : eg_H → Prop} (M : eg_H) (l1 : Int32) (h : ((3 : Int32) ≤ l1 → (gX11_copies M ((99, 0) : eg_R) (64 : Int32) ∧ (∀ M3 : eg_H, M3 = (fX11_copies M ((99, 0) : eg_R) (64 : Int32)) → (gX11_copies M3 ((100, 0) : eg_R) (64 : Int32) ∧ (∀ M6 : eg_H, M6 = (fX11_copies M3 ((100, 0) : eg_R) (64 : Int32)) → (gX11_copies M6 ((101, 0) : eg_R) (64 : Int32) ∧ (∀ M9 : eg_H, M9 = (fX11_copies M6 ((101, 0) : eg_R) (64 : Int32)) → eg_W κ gM mtX11_keepText d (eQV κ gM post) 252 [(0, vR (60, 0)), (1, vI (0 : Int32))] [] M9))))))) ∧ ((¬ (3 : Int32) ≤ l1) → (vp_in ((3 : Int32) + l1) 6 ∧ (vp_in l1 6 ∧ (∀ M13 : eg_H, M13 = (sI M (98, 0) l1.toNatClampNeg (vp_nar .boolean (M.1 (98, 0) ((3 : Int32) + l1).toNatClampNeg))) → (∀ x14 : Int32, x14 = (l1 + (1 : Int32)) → eg_W κ gM mtX11_keepText d (eQV κ gM post) 198 [(0, vR (60, 0)), (1, vI x14)] [] M13)))))) : eg_W κ gM mtX11_keepText d (eQV κ gM post) 198 [(0, vR (60, 0)), (1, vI l1)] [] M := by
  refine eg_iload_n 1 dX11_keepText_198 rfl rfl ?_
  refine eg_iconst dX11_keepText_199 ic_3 ?_
  refine eg_icmp_ge (tgt := 223) dX11_keepText_200 rfl (fun c1 => ?_) (fun c1 => ?_)
  · have h := h.1 c1
    refine eg_aload_n 0 dX11_keepText_223 rfl rfl ?_
    refine eg_getR dX11_keepText_224 fl_11_54 rfl rfl (obM_60 z1) ?_
    show eg_W κ gM mtX11_keepText d (eQV κ gM post) 227 [(0, vR (60, 0)), (1, vI l1)] [vR (99, 0)] M
    refine eg_bipush dX11_keepText_227 bp_64 ?_
    obtain ⟨g2, h⟩ := h
    refine eg_callSV (av := [vR (99, 0), vI (64 : Int32)]) (st := []) dX11_keepText_229 ml_11_230 rfl rfl (Nat.le_of_ble_eq_true rfl) (eg_dd (by omega)) (sX11_copies (by omega) M ((99, 0) : eg_R) (64 : Int32) (anM_99 z1) g2) (fun M3 eM3 => ?_)
    have h := h M3 eM3
    refine eg_aload_n 0 dX11_keepText_232 rfl rfl ?_
    refine eg_getR dX11_keepText_233 fl_11_57 rfl rfl (obM_60 z1) ?_
    show eg_W κ gM mtX11_keepText d (eQV κ gM post) 236 [(0, vR (60, 0)), (1, vI l1)] [vR (100, 0)] M3
    refine eg_bipush dX11_keepText_236 bp_64 ?_
    obtain ⟨g5, h⟩ := h
    refine eg_callSV (av := [vR (100, 0), vI (64 : Int32)]) (st := []) dX11_keepText_238 ml_11_230 rfl rfl (Nat.le_of_ble_eq_true rfl) (eg_dd (by omega)) (sX11_copies (by omega) M3 ((100, 0) : eg_R) (64 : Int32) (anM_100 z1) g5) (fun M6 eM6 => ?_)
    have h := h M6 eM6
    refine eg_aload_n 0 dX11_keepText_241 rfl rfl ?_
    refine eg_getR dX11_keepText_242 fl_11_60 rfl rfl (obM_60 z1) ?_
    show eg_W κ gM mtX11_keepText d (eQV κ gM post) 245 [(0, vR (60, 0)), (1, vI l1)] [vR (101, 0)] M6
    refine eg_bipush dX11_keepText_245 bp_64 ?_
    obtain ⟨g8, h⟩ := h
    refine eg_callSV (av := [vR (101, 0), vI (64 : Int32)]) (st := []) dX11_keepText_247 ml_11_230 rfl rfl (Nat.le_of_ble_eq_true rfl) (eg_dd (by omega)) (sX11_copies (by omega) M6 ((101, 0) : eg_R) (64 : Int32) (anM_101 z1) g8) (fun M9 eM9 => ?_)
    have h := h M9 eM9
    refine eg_iconst dX11_keepText_250 ic_0 ?_
    refine eg_istore_n dX11_keepText_251 rfl (by decide) (ls1 := [(1, vI (0 : Int32)), (0, vR (60, 0))]) rfl ?_
    refine eg_sub [1, 0] rfl ?_
    exact h
  · have h := h.2 c1
    refine eg_aload_n 0 dX11_keepText_203 rfl rfl ?_
    refine eg_getR dX11_keepText_204 fl_11_50 rfl rfl (obM_60 z1) ?_
    show eg_W κ gM mtX11_keepText d (eQV κ gM post) 207 [(0, vR (60, 0)), (1, vI l1)] [vR (98, 0)] M
    refine eg_iload_n 1 dX11_keepText_207 rfl rfl ?_
    refine eg_aload_n 0 dX11_keepText_208 rfl rfl ?_
    refine eg_getR dX11_keepText_209 fl_11_50 rfl rfl (obM_60 z1) ?_
    show eg_W κ gM mtX11_keepText d (eQV κ gM post) 212 [(0, vR (60, 0)), (1, vI l1)] [vR (98, 0), vI l1, vR (98, 0)] M
    refine eg_iconst dX11_keepText_212 ic_3 ?_
    refine eg_iload_n 1 dX11_keepText_213 rfl rfl ?_
    refine eg_iadd dX11_keepText_214 ?_
    obtain ⟨g11, h⟩ := h
    refine eg_zaload dX11_keepText_215 (arM_98 z1 g11) ?_
    obtain ⟨g12, h⟩ := h
    refine en_zastore dX11_keepText_216 (arM_98 z1 g12) (fun M13 eM13 => ?_)
    have h := h M13 eM13
    refine en_iinc (f := fun x14 => [(1, vI x14), (0, vR (60, 0))]) 1 dX11_keepText_217 rfl rfl (by decide) rfl (fun x14 ex14 => ?_)
    have h := h x14 ex14
    refine eg_goto (tgt := 198) dX11_keepText_220 rfl ?_
    refine eg_sub [1, 0] rfl ?_
    exact h
set_option maxRecDepth 10000 in
theorem vX11_keepText_252 {κ : eg_K} {d : Nat} (hd : 3 ≤ d) {post : eg_H → Prop} (M : eg_H) (l1 : Int32) (h : ((5 : Int32) ≤ l1 → (∀ M2 : eg_H, M2 = (sI M (60, 0) 73 (0 : Int32)) → (∀ M3 : eg_H, M3 = (sI M2 (60, 0) 74 (-1 : Int32)) → (∀ M4 : eg_H, M4 = (sI M3 (60, 0) 69 (0 : Int32)) → (∀ M5 : eg_H, M5 = (sI M4 (60, 0) 80 (0 : Int32)) → (gX11_clears M5 ∧ (∀ M7 : eg_H, M7 = (fX11_clears M5) → (gX11_begins M7 ∧ (∀ M10 : eg_H, M10 = (fX11_begins M7) → (gX11_lays M10 ((111, 0) : eg_R) ((110, 0) : eg_R) ∧ (∀ M13 : eg_H, M13 = (fX11_lays M10 ((111, 0) : eg_R) ((110, 0) : eg_R)) → post M13))))))))))) ∧ ((¬ (5 : Int32) ≤ l1) → (vp_in l1 5 ∧ (∀ M16 : eg_H, M16 = (sI M (112, 0) l1.toNatClampNeg l1) → (∀ x17 : Int32, x17 = (l1 + (1 : Int32)) → eg_W κ gM mtX11_keepText d (eQV κ gM post) 252 [(0, vR (60, 0)), (1, vI x17)] [] M16))))) : eg_W κ gM mtX11_keepText d (eQV κ gM post) 252 [(0, vR (60, 0)), (1, vI l1)] [] M := by
  refine eg_iload_n 1 dX11_keepText_252 rfl rfl ?_
  refine eg_iconst dX11_keepText_253 ic_5 ?_
  refine eg_icmp_ge (tgt := 270) dX11_keepText_254 rfl (fun c1 => ?_) (fun c1 => ?_)
  · have h := h.1 c1
    refine eg_aload_n 0 dX11_keepText_270 rfl rfl ?_
    refine eg_iconst dX11_keepText_271 ic_0 ?_
    refine en_putI dX11_keepText_272 fl_11_234 rfl rfl (obM_60 z1) (fun M2 eM2 => ?_)
    have h := h M2 eM2
    refine eg_aload_n 0 dX11_keepText_275 rfl rfl ?_
    refine eg_iconst dX11_keepText_276 ic_m1 ?_
    refine en_putI dX11_keepText_277 fl_11_100 rfl rfl (obM_60 z1) (fun M3 eM3 => ?_)
    have h := h M3 eM3
    refine eg_aload_n 0 dX11_keepText_280 rfl rfl ?_
    refine eg_iconst dX11_keepText_281 ic_0 ?_
    refine en_putI dX11_keepText_282 fl_11_237 rfl rfl (obM_60 z1) (fun M4 eM4 => ?_)
    have h := h M4 eM4
    refine eg_aload_n 0 dX11_keepText_285 rfl rfl ?_
    refine eg_iconst dX11_keepText_286 ic_0 ?_
    refine en_putZ dX11_keepText_287 fl_11_240 rfl rfl (Or.inl rfl) (obM_60 z1) (fun M5 eM5 => ?_)
    have h := h M5 eM5
    refine eg_aload_n 0 dX11_keepText_290 rfl rfl ?_
    obtain ⟨g6, h⟩ := h
    refine eg_callVV (av := []) (st := []) dX11_keepText_291 ml_11_243 rfl rfl (obM_60 z1) (by decide) rfl (Nat.le_of_ble_eq_true rfl) (eg_dd (by omega)) (sX11_clears (by omega) M5   g6) (fun M7 eM7 => ?_)
    have h := h M7 eM7
    refine eg_aload_n 0 dX11_keepText_294 rfl rfl ?_
    obtain ⟨g9, h⟩ := h
    refine eg_callVV (av := []) (st := []) dX11_keepText_295 ml_11_246 rfl rfl (obM_60 z1) (by decide) rfl (Nat.le_of_ble_eq_true rfl) (eg_dd (by omega)) (sX11_begins (by omega) M7   g9) (fun M10 eM10 => ?_)
    have h := h M10 eM10
    refine eg_aload_n 0 dX11_keepText_298 rfl rfl ?_
    refine eg_getR dX11_keepText_299 fl_11_72 rfl rfl (obM_60 z1) ?_
    show eg_W κ gM mtX11_keepText d (eQV κ gM post) 302 [(0, vR (60, 0)), (1, vI l1)] [vR (111, 0)] M10
    refine eg_aload_n 0 dX11_keepText_302 rfl rfl ?_
    refine eg_getR dX11_keepText_303 fl_11_69 rfl rfl (obM_60 z1) ?_
    show eg_W κ gM mtX11_keepText d (eQV κ gM post) 306 [(0, vR (60, 0)), (1, vI l1)] [vR (110, 0), vR (111, 0)] M10
    obtain ⟨g12, h⟩ := h
    refine eg_callSV (av := [vR (111, 0), vR (110, 0)]) (st := []) dX11_keepText_306 ml_11_249 rfl rfl (Nat.le_of_ble_eq_true rfl) (eg_dd (by omega)) (sX11_lays (by omega) M10 ((111, 0) : eg_R) ((110, 0) : eg_R) (anM_111 z1) (anM_110 z1) g12) (fun M13 eM13 => ?_)
    have h := h M13 eM13
    exact eg_vreturn dX11_keepText_309 rfl h
  · have h := h.2 c1
    refine eg_aload_n 0 dX11_keepText_257 rfl rfl ?_
    refine eg_getR dX11_keepText_258 fl_11_75 rfl rfl (obM_60 z1) ?_
    show eg_W κ gM mtX11_keepText d (eQV κ gM post) 261 [(0, vR (60, 0)), (1, vI l1)] [vR (112, 0)] M
    refine eg_iload_n 1 dX11_keepText_261 rfl rfl ?_
    refine eg_iload_n 1 dX11_keepText_262 rfl rfl ?_
    obtain ⟨g15, h⟩ := h
    refine en_iastore dX11_keepText_263 (arM_112 z1 g15) (fun M16 eM16 => ?_)
    have h := h M16 eM16
    refine en_iinc (f := fun x17 => [(1, vI x17), (0, vR (60, 0))]) 1 dX11_keepText_264 rfl rfl (by decide) rfl (fun x17 ex17 => ?_)
    have h := h x17 ex17
    refine eg_goto (tgt := 252) dX11_keepText_267 rfl ?_
    refine eg_sub [1, 0] rfl ?_
    exact h
