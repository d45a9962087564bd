theorem dX11_lawOf_0 : decode cX11_lawOf 0 = .ok (.iload_n 1, 1) := by decide +kernel
theorem dX11_lawOf_1 : decode cX11_lawOf 1 = .ok (.aload_n 0, 1) := by decide +kernel
theorem dX11_lawOf_2 : decode cX11_lawOf 2 = .ok (.getfield 360, 3) := by decide +kernel
theorem dX11_lawOf_5 : decode cX11_lawOf 5 = .ok (.if_icmp .eq 14, 3) := by decide +kernel
theorem dX11_lawOf_8 : decode cX11_lawOf 8 = .ok (.aload_n 0, 1) := by decide +kernel
theorem dX11_lawOf_9 : decode cX11_lawOf 9 = .ok (.getfield 50, 3) := by decide +kernel
theorem dX11_lawOf_12 : decode cX11_lawOf 12 = .ok (.iload_n 1, 1) := by decide +kernel
theorem dX11_lawOf_13 : decode cX11_lawOf 13 = .ok (.baload, 1) := by decide +kernel
theorem dX11_lawOf_14 : decode cX11_lawOf 14 = .ok (.ifCond .ne 5, 3) := by decide +kernel
theorem dX11_lawOf_17 : decode cX11_lawOf 17 = .ok (.lload_n 2, 1) := by decide +kernel
theorem dX11_lawOf_18 : decode cX11_lawOf 18 = .ok (.lreturn, 1) := by decide +kernel
theorem dX11_lawOf_19 : decode cX11_lawOf 19 = .ok (.aload_n 0, 1) := by decide +kernel
theorem dX11_lawOf_20 : decode cX11_lawOf 20 = .ok (.iload_n 1, 1) := by decide +kernel
theorem dX11_lawOf_21 : decode cX11_lawOf 21 = .ok (.aload_n 0, 1) := by decide +kernel
theorem dX11_lawOf_22 : decode cX11_lawOf 22 = .ok (.getfield 360, 3) := by decide +kernel
theorem dX11_lawOf_25 : decode cX11_lawOf 25 = .ok (.if_icmp .ne 10, 3) := by decide +kernel
theorem dX11_lawOf_28 : decode cX11_lawOf 28 = .ok (.aload_n 0, 1) := by decide +kernel
theorem dX11_lawOf_29 : decode cX11_lawOf 29 = .ok (.getfield 406, 3) := by decide +kernel
theorem dX11_lawOf_32 : decode cX11_lawOf 32 = .ok (.goto 4, 3) := by decide +kernel
theorem dX11_lawOf_35 : decode cX11_lawOf 35 = .ok (.iload_n 1, 1) := by decide +kernel
theorem dX11_lawOf_36 : decode cX11_lawOf 36 = .ok (.invokevirtual 409, 3) := by decide +kernel
theorem dX11_lawOf_39 : decode cX11_lawOf 39 = .ok (.lstore 4, 2) := by decide +kernel
theorem dX11_lawOf_41 : decode cX11_lawOf 41 = .ok (.aload_n 0, 1) := by decide +kernel
theorem dX11_lawOf_42 : decode cX11_lawOf 42 = .ok (.getfield 383, 3) := by decide +kernel
theorem dX11_lawOf_45 : decode cX11_lawOf 45 = .ok (.ifCond .eq 7, 3) := by decide +kernel
theorem dX11_lawOf_48 : decode cX11_lawOf 48 = .ok (.lload_n 2, 1) := by decide +kernel
theorem dX11_lawOf_49 : decode cX11_lawOf 49 = .ok (.goto 5, 3) := by decide +kernel
theorem dX11_lawOf_52 : decode cX11_lawOf 52 = .ok (.lload 4, 2) := by decide +kernel
theorem dX11_lawOf_54 : decode cX11_lawOf 54 = .ok (.lreturn, 1) := by decide +kernel
set_option maxRecDepth 10000 in
theorem vX11_lawOf_0 {κ : eg_K} {d : Nat} {post : Int64 → eg_H → Prop} (M : eg_H) (l1 : Int32) (l2 : Int64) (h : (l1 = (M.1 (60, 0) 62) → eg_W κ gM mtX11_lawOf d (eQL κ gM post) 19 [(0, vR (60, 0)), (1, vI l1), (2, vL l2)] [] M) ∧ ((¬ l1 = (M.1 (60, 0) 62)) → (vp_in l1 6 ∧ ((¬ (M.1 (98, 0) l1.toNatClampNeg) = 0) → eg_W κ gM mtX11_lawOf d (eQL κ gM post) 19 [(0, vR (60, 0)), (1, vI l1), (2, vL l2)] [] M) ∧ ((M.1 (98, 0) l1.toNatClampNeg) = 0 → post l2 M)))) : eg_W κ gM mtX11_lawOf d (eQL κ gM post) 0 [(0, vR (60, 0)), (1, vI l1), (2, vL l2)] [] M := by
  refine eg_iload_n 1 dX11_lawOf_0 rfl rfl ?_
  refine eg_aload_n 0 dX11_lawOf_1 rfl rfl ?_
  refine eg_getI dX11_lawOf_2 fl_11_360 rfl trivial (obM_60 z1) ?_
  refine eg_icmp_eq (tgt := 19) dX11_lawOf_5 rfl (fun c1 => ?_) (fun c1 => ?_)
  · have h := h.1 c1
    exact h
  · have h := h.2 c1
    refine eg_aload_n 0 dX11_lawOf_8 rfl rfl ?_
    refine eg_getR dX11_lawOf_9 fl_11_50 rfl rfl (obM_60 z1) ?_
    show eg_W κ gM mtX11_lawOf d (eQL κ gM post) 12 [(0, vR (60, 0)), (1, vI l1), (2, vL l2)] [vR (98, 0)] M
    refine eg_iload_n 1 dX11_lawOf_12 rfl rfl ?_
    obtain ⟨g2, h⟩ := h
    refine eg_zaload dX11_lawOf_13 (arM_98 z1 g2) ?_
    refine eg_if_ne (tgt := 19) dX11_lawOf_14 rfl (fun c3 => ?_) (fun c3 => ?_)
    · have h := h.1 c3
      exact h
    · have h := h.2 c3
      refine eg_lload_n 2 dX11_lawOf_17 rfl rfl ?_
      exact eg_lreturn dX11_lawOf_18 rfl h
set_option maxRecDepth 10000 in
theorem vX11_lawOf_19 {κ : eg_K} {d : Nat} (hd : 3 ≤ d) {post : Int64 → eg_H → Prop} (M : eg_H) (l1 : Int32) (l2 : Int64) (h : (∀ x1 : Int32, x1 = ((if (¬ l1 = (M.1 (60, 0) 62)) then l1 else (M.1 (60, 0) 63))) → (gX11_sumOf M x1 ∧ (∀ (x4 : Int64) (M3 : eg_H), (x4, M3) = fX11_sumOf M x1 → (∀ x5 : Int64, x5 = ((if (M3.1 (60, 0) 68) = 0 then x4 else l2)) → post x5 M3))))) : eg_W κ gM mtX11_lawOf d (eQL κ gM post) 19 [(0, vR (60, 0)), (1, vI l1), (2, vL l2)] [] M := by
  refine eg_aload_n 0 dX11_lawOf_19 rfl rfl ?_
  refine eg_iload_n 1 dX11_lawOf_20 rfl rfl ?_
  refine eg_aload_n 0 dX11_lawOf_21 rfl rfl ?_
  refine eg_getI dX11_lawOf_22 fl_11_360 rfl trivial (obM_60 z1) ?_
  have J : ∀ x1 : Int32, x1 = (if (¬ l1 = (M.1 (60, 0) 62)) then l1 else (M.1 (60, 0) 63)) → eg_W κ gM mtX11_lawOf d (eQL κ gM post) 36 [(0, vR (60, 0)), (1, vI l1), (2, vL l2)] [vI x1, vR (60, 0)] M := by
    intro x1 ex1
    have h := h x1 ex1
    obtain ⟨g2, h⟩ := h
    refine eg_callVL (av := [vI x1]) (st := []) dX11_lawOf_36 ml_11_409 rfl rfl (obM_60 z1) (by decide) rfl (Nat.le_of_ble_eq_true rfl) (eg_dd (by omega)) (sX11_sumOf (by omega) M x1  g2) (fun x4 M3 eM3 => ?_)
    have h := h x4 M3 eM3
    refine eg_lstore dX11_lawOf_39 (by decide) (ls1 := [(4, vL x4), (0, vR (60, 0)), (1, vI l1), (2, vL l2)]) rfl ?_
    refine eg_aload_n 1 dX11_lawOf_41 rfl rfl ?_
    refine eg_getI dX11_lawOf_42 fl_11_383 rfl trivial (obM_60 z1) ?_
    have J : ∀ x5 : Int64, x5 = (if (M3.1 (60, 0) 68) = 0 then x4 else l2) → eg_W κ gM mtX11_lawOf d (eQL κ gM post) 54 [(4, vL x4), (0, vR (60, 0)), (1, vI l1), (2, vL l2)] [vL x5] M3 := by
      intro x5 ex5
      have h := h x5 ex5
      exact eg_lreturn dX11_lawOf_54 rfl h
    clear h
    refine eg_if_eq (tgt := 52) dX11_lawOf_45 rfl (fun c6 => ?_) (fun c6 => ?_)
    · refine eg_lload 0 dX11_lawOf_52 rfl ?_
      exact J _ (by rw [if_pos c6])
    · refine eg_lload_n 3 dX11_lawOf_48 rfl rfl ?_
      refine eg_goto (tgt := 54) dX11_lawOf_49 rfl ?_
      exact J _ (by rw [if_neg c6])
  clear h
  refine eg_icmp_ne (tgt := 35) dX11_lawOf_25 rfl (fun c7 => ?_) (fun c7 => ?_)
  · refine eg_iload_n 1 dX11_lawOf_35 rfl rfl ?_
    exact J _ (by rw [if_pos c7])
  · have c8 : ¬ (¬ l1 = (M.1 (60, 0) 62)) := fun z => z c7
    refine eg_aload_n 0 dX11_lawOf_28 rfl rfl ?_
    refine eg_getI dX11_lawOf_29 fl_11_406 rfl trivial (obM_60 z1) ?_
    refine eg_goto (tgt := 36) dX11_lawOf_32 rfl ?_
    exact J _ (by rw [if_neg c8])
theorem dX11_sits_0 : decode cX11_sits 0 = .ok (.aload_n 0, 1) := by decide +kernel
theorem dX11_sits_1 : decode cX11_sits 1 = .ok (.getfield 69, 3) := by decide +kernel
theorem dX11_sits_4 : decode cX11_sits 4 = .ok (.iconst 2, 1) := by decide +kernel
theorem dX11_sits_5 : decode cX11_sits 5 = .ok (.iload_n 1, 1) := by decide +kernel
theorem dX11_sits_6 : decode cX11_sits 6 = .ok (.iadd, 1) := by decide +kernel
theorem dX11_sits_7 : decode cX11_sits 7 = .ok (.iaload, 1) := by decide +kernel
theorem dX11_sits_8 : decode cX11_sits 8 = .ok (.istore_n 2, 1) := by decide +kernel
theorem dX11_sits_9 : decode cX11_sits 9 = .ok (.iload_n 2, 1) := by decide +kernel
theorem dX11_sits_10 : decode cX11_sits 10 = .ok (.invokestatic 372, 3) := by decide +kernel
theorem dX11_sits_13 : decode cX11_sits 13 = .ok (.istore_n 3, 1) := by decide +kernel
theorem dX11_sits_14 : decode cX11_sits 14 = .ok (.aload_n 0, 1) := by decide +kernel
theorem dX11_sits_15 : decode cX11_sits 15 = .ok (.iload_n 2, 1) := by decide +kernel
theorem dX11_sits_16 : decode cX11_sits 16 = .ok (.invokevirtual 412, 3) := by decide +kernel
theorem dX11_sits_19 : decode cX11_sits 19 = .ok (.istore 4, 2) := by decide +kernel
theorem dX11_sits_21 : decode cX11_sits 21 = .ok (.aload_n 0, 1) := by decide +kernel
theorem dX11_sits_22 : decode cX11_sits 22 = .ok (.iload_n 2, 1) := by decide +kernel
theorem dX11_sits_23 : decode cX11_sits 23 = .ok (.aload_n 0, 1) := by decide +kernel
theorem dX11_sits_24 : decode cX11_sits 24 = .ok (.iload_n 2, 1) := by decide +kernel
theorem dX11_sits_25 : decode cX11_sits 25 = .ok (.invokevirtual 424, 3) := by decide +kernel
theorem dX11_sits_28 : decode cX11_sits 28 = .ok (.i2l, 1) := by decide +kernel
theorem dX11_sits_29 : decode cX11_sits 29 = .ok (.lconst 0, 1) := by decide +kernel
theorem dX11_sits_30 : decode cX11_sits 30 = .ok (.lconst 0, 1) := by decide +kernel
theorem dX11_sits_31 : decode cX11_sits 31 = .ok (.invokevirtual 420, 3) := by decide +kernel
theorem dX11_sits_34 : decode cX11_sits 34 = .ok (.aload_n 0, 1) := by decide +kernel
theorem dX11_sits_35 : decode cX11_sits 35 = .ok (.iconst 2, 1) := by decide +kernel
theorem dX11_sits_36 : decode cX11_sits 36 = .ok (.iload 4, 2) := by decide +kernel
theorem dX11_sits_38 : decode cX11_sits 38 = .ok (.i2l, 1) := by decide +kernel
theorem dX11_sits_39 : decode cX11_sits 39 = .ok (.invokevirtual 427, 3) := by decide +kernel
theorem dX11_sits_42 : decode cX11_sits 42 = .ok (.lstore 5, 2) := by decide +kernel
theorem dX11_sits_44 : decode cX11_sits 44 = .ok (.lload 5, 2) := by decide +kernel
theorem dX11_sits_46 : decode cX11_sits 46 = .ok (.lconst 0, 1) := by decide +kernel
theorem dX11_sits_47 : decode cX11_sits 47 = .ok (.lcmp, 1) := by decide +kernel
theorem dX11_sits_48 : decode cX11_sits 48 = .ok (.ifCond .ge 7, 3) := by decide +kernel
theorem dX11_sits_51 : decode cX11_sits 51 = .ok (.lconst 0, 1) := by decide +kernel
theorem dX11_sits_52 : decode cX11_sits 52 = .ok (.goto 20, 3) := by decide +kernel
theorem dX11_sits_55 : decode cX11_sits 55 = .ok (.lload 5, 2) := by decide +kernel
theorem dX11_sits_57 : decode cX11_sits 57 = .ok (.iload 4, 2) := by decide +kernel
theorem dX11_sits_59 : decode cX11_sits 59 = .ok (.i2l, 1) := by decide +kernel
theorem dX11_sits_60 : decode cX11_sits 60 = .ok (.lcmp, 1) := by decide +kernel
theorem dX11_sits_61 : decode cX11_sits 61 = .ok (.ifCond .le 9, 3) := by decide +kernel
theorem dX11_sits_64 : decode cX11_sits 64 = .ok (.iload 4, 2) := by decide +kernel
theorem dX11_sits_66 : decode cX11_sits 66 = .ok (.i2l, 1) := by decide +kernel
theorem dX11_sits_67 : decode cX11_sits 67 = .ok (.goto 5, 3) := by decide +kernel
theorem dX11_sits_70 : decode cX11_sits 70 = .ok (.lload 5, 2) := by decide +kernel
theorem dX11_sits_72 : decode cX11_sits 72 = .ok (.l2i, 1) := by decide +kernel
theorem dX11_sits_73 : decode cX11_sits 73 = .ok (.istore 7, 2) := by decide +kernel
theorem dX11_sits_75 : decode cX11_sits 75 = .ok (.aload_n 0, 1) := by decide +kernel
theorem dX11_sits_76 : decode cX11_sits 76 = .ok (.getfield 69, 3) := by decide +kernel
theorem dX11_sits_79 : decode cX11_sits 79 = .ok (.iload_n 3, 1) := by decide +kernel
theorem dX11_sits_80 : decode cX11_sits 80 = .ok (.bipush 6, 2) := by decide +kernel
theorem dX11_sits_82 : decode cX11_sits 82 = .ok (.iadd, 1) := by decide +kernel
theorem dX11_sits_83 : decode cX11_sits 83 = .ok (.dup2, 1) := by decide +kernel
theorem dX11_sits_84 : decode cX11_sits 84 = .ok (.iaload, 1) := by decide +kernel
theorem dX11_sits_85 : decode cX11_sits 85 = .ok (.iload 7, 2) := by decide +kernel
theorem dX11_sits_87 : decode cX11_sits 87 = .ok (.iadd, 1) := by decide +kernel
theorem dX11_sits_88 : decode cX11_sits 88 = .ok (.iastore, 1) := by decide +kernel
theorem dX11_sits_89 : decode cX11_sits 89 = .ok (.aload_n 0, 1) := by decide +kernel
theorem dX11_sits_90 : decode cX11_sits 90 = .ok (.getfield 69, 3) := by decide +kernel
theorem dX11_sits_93 : decode cX11_sits 93 = .ok (.iload_n 3, 1) := by decide +kernel
theorem dX11_sits_94 : decode cX11_sits 94 = .ok (.bipush 7, 2) := by decide +kernel
theorem dX11_sits_96 : decode cX11_sits 96 = .ok (.iadd, 1) := by decide +kernel
theorem dX11_sits_97 : decode cX11_sits 97 = .ok (.dup2, 1) := by decide +kernel
theorem dX11_sits_98 : decode cX11_sits 98 = .ok (.iaload, 1) := by decide +kernel
theorem dX11_sits_99 : decode cX11_sits 99 = .ok (.iload 4, 2) := by decide +kernel
theorem dX11_sits_101 : decode cX11_sits 101 = .ok (.iload 7, 2) := by decide +kernel
theorem dX11_sits_103 : decode cX11_sits 103 = .ok (.isub, 1) := by decide +kernel
theorem dX11_sits_104 : decode cX11_sits 104 = .ok (.iadd, 1) := by decide +kernel
theorem dX11_sits_105 : decode cX11_sits 105 = .ok (.iastore, 1) := by decide +kernel
theorem dX11_sits_106 : decode cX11_sits 106 = .ok (.aload_n 0, 1) := by decide +kernel
theorem dX11_sits_107 : decode cX11_sits 107 = .ok (.iload_n 2, 1) := by decide +kernel
theorem dX11_sits_108 : decode cX11_sits 108 = .ok (.invokevirtual 424, 3) := by decide +kernel
theorem dX11_sits_111 : decode cX11_sits 111 = .ok (.ifCond .le 19, 3) := by decide +kernel
theorem dX11_sits_114 : decode cX11_sits 114 = .ok (.aload_n 0, 1) := by decide +kernel
theorem dX11_sits_115 : decode cX11_sits 115 = .ok (.getfield 224, 3) := by decide +kernel
theorem dX11_sits_118 : decode cX11_sits 118 = .ok (.ifCond .le 12, 3) := by decide +kernel
theorem dX11_sits_121 : decode cX11_sits 121 = .ok (.iload 4, 2) := by decide +kernel
theorem dX11_sits_123 : decode cX11_sits 123 = .ok (.ifCond .le 7, 3) := by decide +kernel
theorem dX11_sits_126 : decode cX11_sits 126 = .ok (.iconst 1, 1) := by decide +kernel
theorem dX11_sits_127 : decode cX11_sits 127 = .ok (.goto 4, 3) := by decide +kernel
theorem dX11_sits_130 : decode cX11_sits 130 = .ok (.iconst 0, 1) := by decide +kernel
theorem dX11_sits_131 : decode cX11_sits 131 = .ok (.istore 8, 2) := by decide +kernel
theorem dX11_sits_133 : decode cX11_sits 133 = .ok (.aload_n 0, 1) := by decide +kernel
theorem dX11_sits_134 : decode cX11_sits 134 = .ok (.getfield 69, 3) := by decide +kernel
theorem dX11_sits_137 : decode cX11_sits 137 = .ok (.iload_n 3, 1) := by decide +kernel
theorem dX11_sits_138 : decode cX11_sits 138 = .ok (.iload 8, 2) := by decide +kernel
theorem dX11_sits_140 : decode cX11_sits 140 = .ok (.ifCond .eq 7, 3) := by decide +kernel
theorem dX11_sits_143 : decode cX11_sits 143 = .ok (.iconst 2, 1) := by decide +kernel
theorem dX11_sits_144 : decode cX11_sits 144 = .ok (.goto 4, 3) := by decide +kernel
theorem dX11_sits_147 : decode cX11_sits 147 = .ok (.iconst 3, 1) := by decide +kernel
theorem dX11_sits_148 : decode cX11_sits 148 = .ok (.iastore, 1) := by decide +kernel
theorem dX11_sits_149 : decode cX11_sits 149 = .ok (.aload_n 0, 1) := by decide +kernel
theorem dX11_sits_150 : decode cX11_sits 150 = .ok (.getfield 69, 3) := by decide +kernel
theorem dX11_sits_153 : decode cX11_sits 153 = .ok (.iload_n 3, 1) := by decide +kernel
theorem dX11_sits_154 : decode cX11_sits 154 = .ok (.bipush 11, 2) := by decide +kernel
theorem dX11_sits_156 : decode cX11_sits 156 = .ok (.iadd, 1) := by decide +kernel
theorem dX11_sits_157 : decode cX11_sits 157 = .ok (.aload_n 0, 1) := by decide +kernel
theorem dX11_sits_158 : decode cX11_sits 158 = .ok (.getfield 69, 3) := by decide +kernel
theorem dX11_sits_161 : decode cX11_sits 161 = .ok (.iconst 0, 1) := by decide +kernel
theorem dX11_sits_162 : decode cX11_sits 162 = .ok (.iaload, 1) := by decide +kernel
theorem dX11_sits_163 : decode cX11_sits 163 = .ok (.aload_n 0, 1) := by decide +kernel
theorem dX11_sits_164 : decode cX11_sits 164 = .ok (.getfield 224, 3) := by decide +kernel
theorem dX11_sits_167 : decode cX11_sits 167 = .ok (.iadd, 1) := by decide +kernel
theorem dX11_sits_168 : decode cX11_sits 168 = .ok (.iastore, 1) := by decide +kernel
theorem dX11_sits_169 : decode cX11_sits 169 = .ok (.aload_n 0, 1) := by decide +kernel
theorem dX11_sits_170 : decode cX11_sits 170 = .ok (.getfield 69, 3) := by decide +kernel
theorem dX11_sits_173 : decode cX11_sits 173 = .ok (.iload_n 3, 1) := by decide +kernel
theorem dX11_sits_174 : decode cX11_sits 174 = .ok (.iconst 1, 1) := by decide +kernel
theorem dX11_sits_175 : decode cX11_sits 175 = .ok (.iadd, 1) := by decide +kernel
theorem dX11_sits_176 : decode cX11_sits 176 = .ok (.iconst (-1), 1) := by decide +kernel
theorem dX11_sits_177 : decode cX11_sits 177 = .ok (.iastore, 1) := by decide +kernel
theorem dX11_sits_178 : decode cX11_sits 178 = .ok (.aload_n 0, 1) := by decide +kernel
theorem dX11_sits_179 : decode cX11_sits 179 = .ok (.getfield 69, 3) := by decide +kernel
theorem dX11_sits_182 : decode cX11_sits 182 = .ok (.iload_n 3, 1) := by decide +kernel
theorem dX11_sits_183 : decode cX11_sits 183 = .ok (.iconst 2, 1) := by decide +kernel
theorem dX11_sits_184 : decode cX11_sits 184 = .ok (.iadd, 1) := by decide +kernel
theorem dX11_sits_185 : decode cX11_sits 185 = .ok (.aload_n 0, 1) := by decide +kernel
theorem dX11_sits_186 : decode cX11_sits 186 = .ok (.iload_n 2, 1) := by decide +kernel
theorem dX11_sits_187 : decode cX11_sits 187 = .ok (.invokevirtual 374, 3) := by decide +kernel
theorem dX11_sits_190 : decode cX11_sits 190 = .ok (.iastore, 1) := by decide +kernel
theorem dX11_sits_191 : decode cX11_sits 191 = .ok (.aload_n 0, 1) := by decide +kernel
theorem dX11_sits_192 : decode cX11_sits 192 = .ok (.iload_n 1, 1) := by decide +kernel
theorem dX11_sits_193 : decode cX11_sits 193 = .ok (.invokevirtual 431, 3) := by decide +kernel
theorem dX11_sits_196 : decode cX11_sits 196 = .ok (.return_, 1) := by decide +kernel
set_option maxRecDepth 10000 in
theorem vX11_sits_0 {κ : eg_K} {d : Nat} (hd : 3 ≤ d) {post : eg_H → Prop} (M : eg_H) (l1 : Int32) (h : (vp_in ((2 : Int32) + l1) 366 ∧ (∀ x2 : Int32, x2 = (M.1 (110, 0) ((2 : Int32) + l1).toNatClampNeg) → (∀ x4 : Int32, x4 = (fX11_at M x2) → (gX11_plateOf M x2 ∧ (∀ x7 : Int32, x7 = (fX11_plateOf M x2) → (gX11_wantsOf M x2 ∧ (∀ x10 : Int32, x10 = (fX11_wantsOf M x2) → (gX11_layNames M x2 (x10.toInt64) (0 : Int64) (0 : Int64) ∧ (∀ M12 : eg_H, M12 = (fX11_layNames M x2 (x10.toInt64) (0 : Int64) (0 : Int64)) → eCL κ gM mtX11_lawOf d [vR (60, 0), vI (2 : Int32), vL (x7.toInt64)] M12 (fun x14 M15 => (∀ x17 : Int64, x17 = ((if 0 ≤ (lg_cmp x14 (0 : Int64)) then (if (lg_cmp x14 (x7.toInt64)) ≤ 0 then x14 else (x7.toInt64)) else (0 : Int64))) → (∀ x18 : Int32, x18 = (x17.toInt32) → (vp_in (x4 + (6 : Int32)) 366 ∧ (∀ M20 : eg_H, M20 = (sI M15 (110, 0) (x4 + (6 : Int32)).toNatClampNeg ((M15.1 (110, 0) (x4 + (6 : Int32)).toNatClampNeg) + x18)) → (vp_in (x4 + (7 : Int32)) 366 ∧ (∀ M22 : eg_H, M22 = (sI M20 (110, 0) (x4 + (7 : Int32)).toNatClampNeg ((M20.1 (110, 0) (x4 + (7 : Int32)).toNatClampNeg) + (x7 - x18))) → (gX11_wantsOf M22 x2 ∧ (∀ x25 : Int32, x25 = (fX11_wantsOf M22 x2) → (∀ x26 : Int32, x26 = ((if x25 ≤ 0 then (0 : Int32) else (if (M22.1 (60, 0) 17) ≤ 0 then (0 : Int32) else (if x7 ≤ 0 then (0 : Int32) else (1 : Int32))))) → (∀ x27 : Int32, x27 = ((if x26 = 0 then (3 : Int32) else (2 : Int32))) → (vp_in x4 366 ∧ (∀ M29 : eg_H, M29 = (sI M22 (110, 0) x4.toNatClampNeg x27) → (vp_in (0 : Int32) 366 ∧ (vp_in (x4 + (11 : Int32)) 366 ∧ (∀ M32 : eg_H, M32 = (sI M29 (110, 0) (x4 + (11 : Int32)).toNatClampNeg ((M29.1 (110, 0) (0 : Int32).toNatClampNeg) + (M29.1 (60, 0) 17))) → (vp_in (x4 + (1 : Int32)) 366 ∧ (∀ M34 : eg_H, M34 = (sI M32 (110, 0) (x4 + (1 : Int32)).toNatClampNeg (-1 : Int32)) → (gX11_sizeOf M34 x2 ∧ (∀ x37 : Int32, x37 = (fX11_sizeOf M34 x2) → (vp_in (x4 + (2 : Int32)) 366 ∧ (∀ M39 : eg_H, M39 = (sI M34 (110, 0) (x4 + (2 : Int32)).toNatClampNeg x37) → (gX11_outOfLine M39 l1 ∧ (∀ M41 : eg_H, M41 = (fX11_outOfLine M39 l1) → post M41)))))))))))))))))))))))))))))))))) : eg_W κ gM mtX11_sits d (eQV κ gM post) 0 [(0, vR (60, 0)), (1, vI l1)] [] M := by
  refine eg_aload_n 0 dX11_sits_0 rfl rfl ?_
  refine eg_getR dX11_sits_1 fl_11_69 rfl rfl (obM_60 z1) ?_
  show eg_W κ gM mtX11_sits d (eQV κ gM post) 4 [(0, vR (60, 0)), (1, vI l1)] [vR (110, 0)] M
  refine eg_iconst dX11_sits_4 ic_2 ?_
  refine eg_iload_n 1 dX11_sits_5 rfl rfl ?_
  refine eg_iadd dX11_sits_6 ?_
  obtain ⟨g1, h⟩ := h
  refine eg_iaload dX11_sits_7 (arM_110 z1 g1) ?_
  refine en_istore_n (f := fun x2 => [(2, vI x2), (0, vR (60, 0)), (1, vI l1)]) dX11_sits_8 rfl (by decide) rfl (fun x2 ex2 => ?_)
  have h := h x2 ex2
  refine eg_iload_n 0 dX11_sits_9 rfl rfl ?_
  refine eg_callSI (av := [vI x2]) (st := []) dX11_sits_10 ml_11_372 rfl rfl (Nat.le_of_ble_eq_true rfl) (eg_dd (by omega)) (sX11_at (by omega) M x2  ) (fun x4 M3 hp => ?_)
  obtain ⟨ex4, eM3⟩ := hp
  rw [eM3]
  have h := h x4 ex4
  refine eg_istore_n dX11_sits_13 rfl (by decide) (ls1 := [(3, vI x4), (2, vI x2), (0, vR (60, 0)), (1, vI l1)]) rfl ?_
  refine eg_aload_n 2 dX11_sits_14 rfl rfl ?_
  refine eg_iload_n 1 dX11_sits_15 rfl rfl ?_
  obtain ⟨g5, h⟩ := h
  refine eg_callVI (av := [vI x2]) (st := []) dX11_sits_16 ml_11_412 rfl rfl (obM_60 z1) (by decide) rfl (Nat.le_of_ble_eq_true rfl) (eg_dd (by omega)) (sX11_plateOf (by omega) M x2  g5) (fun x7 M6 hp => ?_)
  obtain ⟨ex7, eM6⟩ := hp
  rw [eM6]
  have h := h x7 ex7
  refine eg_istore dX11_sits_19 (by decide) (ls1 := [(4, vI x7), (3, vI x4), (2, vI x2), (0, vR (60, 0)), (1, vI l1)]) rfl ?_
  refine eg_aload_n 3 dX11_sits_21 rfl rfl ?_
  refine eg_iload_n 2 dX11_sits_22 rfl rfl ?_
  refine eg_aload_n 3 dX11_sits_23 rfl rfl ?_
  refine eg_iload_n 2 dX11_sits_24 rfl rfl ?_
  obtain ⟨g8, h⟩ := h
  refine eg_callVI (av := [vI x2]) (st := [vI x2, vR (60, 0)]) dX11_sits_25 ml_11_424 rfl rfl (obM_60 z1) (by decide) rfl (Nat.le_of_ble_eq_true rfl) (eg_dd (by omega)) (sX11_wantsOf (by omega) M x2  g8) (fun x10 M9 hp => ?_)
  obtain ⟨ex10, eM9⟩ := hp
  rw [eM9]
  have h := h x10 ex10
  refine eg_i2l dX11_sits_28 ?_
  refine eg_lconst dX11_sits_29 lc_0 ?_
  refine eg_lconst dX11_sits_30 lc_0 ?_
  obtain ⟨g11, h⟩ := h
  refine eg_callVV (av := [vI x2, vL (x10.toInt64), vL (0 : Int64), vL (0 : Int64)]) (st := []) dX11_sits_31 ml_11_420 rfl rfl (obM_60 z1) (by decide) rfl (Nat.le_of_ble_eq_true rfl) (eg_dd (by omega)) (sX11_layNames (by omega) M x2 (x10.toInt64) (0 : Int64) (0 : Int64)  g11) (fun M12 eM12 => ?_)
  have h := h M12 eM12
  refine eg_aload_n 3 dX11_sits_34 rfl rfl ?_
  refine eg_iconst dX11_sits_35 ic_2 ?_
  refine eg_iload 0 dX11_sits_36 rfl ?_
  refine eg_i2l dX11_sits_38 ?_
  obtain ⟨q16, hq16, h⟩ := h
  refine eg_callVL (av := [vI (2 : Int32), vL (x7.toInt64)]) (st := []) dX11_sits_39 ml_11_427 rfl rfl (obM_60 z1) (by decide) rfl (Nat.le_of_ble_eq_true rfl) (eg_dd (by omega)) hq16 (fun x14 M15 hp => ?_)
  have h := h x14 M15 hp
  refine eg_lstore dX11_sits_42 (by decide) (ls1 := [(5, vL x14), (4, vI x7), (3, vI x4), (2, vI x2), (0, vR (60, 0)), (1, vI l1)]) rfl ?_
  refine eg_lload 0 dX11_sits_44 rfl ?_
  refine eg_lconst dX11_sits_46 lc_0 ?_
  refine eg_lcmp dX11_sits_47 ?_
  have J : ∀ x17 : Int64, x17 = (if 0 ≤ (lg_cmp x14 (0 : Int64)) then (if (lg_cmp x14 (x7.toInt64)) ≤ 0 then x14 else (x7.toInt64)) else (0 : Int64)) → eg_W κ gM mtX11_sits d (eQV κ gM post) 72 [(5, vL x14), (4, vI x7), (3, vI x4), (2, vI x2), (0, vR (60, 0)), (1, vI l1)] [vL x17] M15 := by
    intro x17 ex17
    have h := h x17 ex17
    refine eg_l2i dX11_sits_72 ?_
    refine en_istore (f := fun x18 => [(7, vI x18), (5, vL x14), (4, vI x7), (3, vI x4), (2, vI x2), (0, vR (60, 0)), (1, vI l1)]) dX11_sits_73 (by decide) rfl (fun x18 ex18 => ?_)
    have h := h x18 ex18
    refine eg_aload_n 5 dX11_sits_75 rfl rfl ?_
    refine eg_getR dX11_sits_76 fl_11_69 rfl rfl (obM_60 z1) ?_
    show eg_W κ gM mtX11_sits d (eQV κ gM post) 79 [(7, vI x18), (5, vL x14), (4, vI x7), (3, vI x4), (2, vI x2), (0, vR (60, 0)), (1, vI l1)] [vR (110, 0)] M15
    refine eg_iload_n 3 dX11_sits_79 rfl rfl ?_
    refine eg_bipush dX11_sits_80 bp_6 ?_
    refine eg_iadd dX11_sits_82 ?_
    refine eg_dup2 dX11_sits_83 rfl rfl ?_
    obtain ⟨g19, h⟩ := h
    refine eg_iaload dX11_sits_84 (arM_110 z1 g19) ?_
    refine eg_iload 0 dX11_sits_85 rfl ?_
    refine eg_iadd dX11_sits_87 ?_
    refine en_iastore dX11_sits_88 (arM_110 z1 g19) (fun M20 eM20 => ?_)
    have h := h M20 eM20
    refine eg_aload_n 5 dX11_sits_89 rfl rfl ?_
    refine eg_getR dX11_sits_90 fl_11_69 rfl rfl (obM_60 z1) ?_
    show eg_W κ gM mtX11_sits d (eQV κ gM post) 93 [(7, vI x18), (5, vL x14), (4, vI x7), (3, vI x4), (2, vI x2), (0, vR (60, 0)), (1, vI l1)] [vR (110, 0)] M20
    refine eg_iload_n 3 dX11_sits_93 rfl rfl ?_
    refine eg_bipush dX11_sits_94 bp_7 ?_
    refine eg_iadd dX11_sits_96 ?_
    refine eg_dup2 dX11_sits_97 rfl rfl ?_
    obtain ⟨g21, h⟩ := h
    refine eg_iaload dX11_sits_98 (arM_110 z1 g21) ?_
    refine eg_iload 2 dX11_sits_99 rfl ?_
    refine eg_iload 0 dX11_sits_101 rfl ?_
    refine eg_isub dX11_sits_103 ?_
    refine eg_iadd dX11_sits_104 ?_
    refine en_iastore dX11_sits_105 (arM_110 z1 g21) (fun M22 eM22 => ?_)
    have h := h M22 eM22
    refine eg_aload_n 5 dX11_sits_106 rfl rfl ?_
    refine eg_iload_n 4 dX11_sits_107 rfl rfl ?_
    obtain ⟨g23, h⟩ := h
    refine eg_callVI (av := [vI x2]) (st := []) dX11_sits_108 ml_11_424 rfl rfl (obM_60 z1) (by decide) rfl (Nat.le_of_ble_eq_true rfl) (eg_dd (by omega)) (sX11_wantsOf (by omega) M22 x2  g23) (fun x25 M24 hp => ?_)
    obtain ⟨ex25, eM24⟩ := hp
    rw [eM24]
    have h := h x25 ex25
    have J : ∀ x26 : Int32, x26 = (if x25 ≤ 0 then (0 : Int32) else (if (M22.1 (60, 0) 17) ≤ 0 then (0 : Int32) else (if x7 ≤ 0 then (0 : Int32) else (1 : Int32)))) → eg_W κ gM mtX11_sits d (eQV κ gM post) 131 [(7, vI x18), (5, vL x14), (4, vI x7), (3, vI x4), (2, vI x2), (0, vR (60, 0)), (1, vI l1)] [vI x26] M22 := by
      intro x26 ex26
      have h := h x26 ex26
      refine eg_istore dX11_sits_131 (by decide) (ls1 := [(8, vI x26), (7, vI x18), (5, vL x14), (4, vI x7), (3, vI x4), (2, vI x2), (0, vR (60, 0)), (1, vI l1)]) rfl ?_
      refine eg_aload_n 6 dX11_sits_133 rfl rfl ?_
      refine eg_getR dX11_sits_134 fl_11_69 rfl rfl (obM_60 z1) ?_
      show eg_W κ gM mtX11_sits d (eQV κ gM post) 137 [(8, vI x26), (7, vI x18), (5, vL x14), (4, vI x7), (3, vI x4), (2, vI x2), (0, vR (60, 0)), (1, vI l1)] [vR (110, 0)] M22
      refine eg_iload_n 4 dX11_sits_137 rfl rfl ?_
      refine eg_iload 0 dX11_sits_138 rfl ?_
      have J : ∀ x27 : Int32, x27 = (if x26 = 0 then (3 : Int32) else (2 : Int32)) → eg_W κ gM mtX11_sits d (eQV κ gM post) 148 [(8, vI x26), (7, vI x18), (5, vL x14), (4, vI x7), (3, vI x4), (2, vI x2), (0, vR (60, 0)), (1, vI l1)] [vI x27, vI x4, vR (110, 0)] M22 := by
        intro x27 ex27
        have h := h x27 ex27
        obtain ⟨g28, h⟩ := h
        refine en_iastore dX11_sits_148 (arM_110 z1 g28) (fun M29 eM29 => ?_)
        have h := h M29 eM29
        refine eg_aload_n 6 dX11_sits_149 rfl rfl ?_
        refine eg_getR dX11_sits_150 fl_11_69 rfl rfl (obM_60 z1) ?_
        show eg_W κ gM mtX11_sits d (eQV κ gM post) 153 [(8, vI x26), (7, vI x18), (5, vL x14), (4, vI x7), (3, vI x4), (2, vI x2), (0, vR (60, 0)), (1, vI l1)] [vR (110, 0)] M29
        refine eg_iload_n 4 dX11_sits_153 rfl rfl ?_
        refine eg_bipush dX11_sits_154 bp_11 ?_
        refine eg_iadd dX11_sits_156 ?_
        refine eg_aload_n 6 dX11_sits_157 rfl rfl ?_
        refine eg_getR dX11_sits_158 fl_11_69 rfl rfl (obM_60 z1) ?_
        show eg_W κ gM mtX11_sits d (eQV κ gM post) 161 [(8, vI x26), (7, vI x18), (5, vL x14), (4, vI x7), (3, vI x4), (2, vI x2), (0, vR (60, 0)), (1, vI l1)] [vR (110, 0), vI (x4 + (11 : Int32)), vR (110, 0)] M29
        refine eg_iconst dX11_sits_161 ic_0 ?_
        obtain ⟨g30, h⟩ := h
        refine eg_iaload dX11_sits_162 (arM_110 z1 g30) ?_
        refine eg_aload_n 6 dX11_sits_163 rfl rfl ?_
        refine eg_getI dX11_sits_164 fl_11_224 rfl trivial (obM_60 z1) ?_
        refine eg_iadd dX11_sits_167 ?_
        obtain ⟨g31, h⟩ := h
        refine en_iastore dX11_sits_168 (arM_110 z1 g31) (fun M32 eM32 => ?_)
        have h := h M32 eM32
        refine eg_aload_n 6 dX11_sits_169 rfl rfl ?_
        refine eg_getR dX11_sits_170 fl_11_69 rfl rfl (obM_60 z1) ?_
        show eg_W κ gM mtX11_sits d (eQV κ gM post) 173 [(8, vI x26), (7, vI x18), (5, vL x14), (4, vI x7), (3, vI x4), (2, vI x2), (0, vR (60, 0)), (1, vI l1)] [vR (110, 0)] M32
        refine eg_iload_n 4 dX11_sits_173 rfl rfl ?_
        refine eg_iconst dX11_sits_174 ic_1 ?_
        refine eg_iadd dX11_sits_175 ?_
        refine eg_iconst dX11_sits_176 ic_m1 ?_
        obtain ⟨g33, h⟩ := h
        refine en_iastore dX11_sits_177 (arM_110 z1 g33) (fun M34 eM34 => ?_)
        have h := h M34 eM34
        refine eg_aload_n 6 dX11_sits_178 rfl rfl ?_
        refine eg_getR dX11_sits_179 fl_11_69 rfl rfl (obM_60 z1) ?_
        show eg_W κ gM mtX11_sits d (eQV κ gM post) 182 [(8, vI x26), (7, vI x18), (5, vL x14), (4, vI x7), (3, vI x4), (2, vI x2), (0, vR (60, 0)), (1, vI l1)] [vR (110, 0)] M34
        refine eg_iload_n 4 dX11_sits_182 rfl rfl ?_
        refine eg_iconst dX11_sits_183 ic_2 ?_
        refine eg_iadd dX11_sits_184 ?_
        refine eg_aload_n 6 dX11_sits_185 rfl rfl ?_
        refine eg_iload_n 5 dX11_sits_186 rfl rfl ?_
        obtain ⟨g35, h⟩ := h
        refine eg_callVI (av := [vI x2]) (st := [vI (x4 + (2 : Int32)), vR (110, 0)]) dX11_sits_187 ml_11_374 rfl rfl (obM_60 z1) (by decide) rfl (Nat.le_of_ble_eq_true rfl) (eg_dd (by omega)) (sX11_sizeOf (by omega) M34 x2  g35) (fun x37 M36 hp => ?_)
        obtain ⟨ex37, eM36⟩ := hp
        rw [eM36]
        have h := h x37 ex37
        obtain ⟨g38, h⟩ := h
        refine en_iastore dX11_sits_190 (arM_110 z1 g38) (fun M39 eM39 => ?_)
        have h := h M39 eM39
        refine eg_aload_n 6 dX11_sits_191 rfl rfl ?_
        refine eg_iload_n 7 dX11_sits_192 rfl rfl ?_
        obtain ⟨g40, h⟩ := h
        refine eg_callVV (av := [vI l1]) (st := []) dX11_sits_193 ml_11_431 rfl rfl (obM_60 z1) (by decide) rfl (Nat.le_of_ble_eq_true rfl) (eg_dd (by omega)) (sX11_outOfLine (by omega) M39 l1  g40) (fun M41 eM41 => ?_)
        have h := h M41 eM41
        exact eg_vreturn dX11_sits_196 rfl h
      clear h
      refine eg_if_eq (tgt := 147) dX11_sits_140 rfl (fun c43 => ?_) (fun c43 => ?_)
      · refine eg_iconst dX11_sits_147 ic_3 ?_
        exact J _ (by rw [if_pos c43])
      · refine eg_iconst dX11_sits_143 ic_2 ?_
        refine eg_goto (tgt := 148) dX11_sits_144 rfl ?_
        exact J _ (by rw [if_neg c43])
    clear h
    refine eg_if_le (tgt := 130) dX11_sits_111 rfl (fun c44 => ?_) (fun c44 => ?_)
    · refine eg_iconst dX11_sits_130 ic_0 ?_
      exact J _ (by rw [if_pos c44])
    · refine eg_aload_n 5 dX11_sits_114 rfl rfl ?_
      refine eg_getI dX11_sits_115 fl_11_224 rfl trivial (obM_60 z1) ?_
      refine eg_if_le (tgt := 130) dX11_sits_118 rfl (fun c45 => ?_) (fun c45 => ?_)
      · refine eg_iconst dX11_sits_130 ic_0 ?_
        exact J _ (by rw [if_neg c44, if_pos c45])
      · refine eg_iload 2 dX11_sits_121 rfl ?_
        refine eg_if_le (tgt := 130) dX11_sits_123 rfl (fun c46 => ?_) (fun c46 => ?_)
        · refine eg_iconst dX11_sits_130 ic_0 ?_
          exact J _ (by rw [if_neg c44, if_neg c45, if_pos c46])
        · refine eg_iconst dX11_sits_126 ic_1 ?_
          refine eg_goto (tgt := 131) dX11_sits_127 rfl ?_
          exact J _ (by rw [if_neg c44, if_neg c45, if_neg c46])
  clear h
  refine eg_if_ge (tgt := 55) dX11_sits_48 rfl (fun c47 => ?_) (fun c47 => ?_)
  · refine eg_lload 0 dX11_sits_55 rfl ?_
    refine eg_iload 1 dX11_sits_57 rfl ?_
    refine eg_i2l dX11_sits_59 ?_
    refine eg_lcmp dX11_sits_60 ?_
    refine eg_if_le (tgt := 70) dX11_sits_61 rfl (fun c48 => ?_) (fun c48 => ?_)
    · refine eg_lload 0 dX11_sits_70 rfl ?_
      exact J _ (by rw [if_pos c47, if_pos c48])
    · refine eg_iload 1 dX11_sits_64 rfl ?_
      refine eg_i2l dX11_sits_66 ?_
      refine eg_goto (tgt := 72) dX11_sits_67 rfl ?_
      exact J _ (by rw [if_pos c47, if_neg c48])
  · refine eg_lconst dX11_sits_51 lc_0 ?_
    refine eg_goto (tgt := 72) dX11_sits_52 rfl ?_
    exact J _ (by rw [if_neg c47])
theorem dX11_heaps_0 : decode cX11_heaps 0 = .ok (.iload_n 1, 1) := by decide +kernel
theorem dX11_heaps_1 : decode cX11_heaps 1 = .ok (.invokestatic 372, 3) := by decide +kernel
theorem dX11_heaps_4 : decode cX11_heaps 4 = .ok (.istore_n 3, 1) := by decide +kernel
theorem dX11_heaps_5 : decode cX11_heaps 5 = .ok (.aload_n 0, 1) := by decide +kernel
theorem dX11_heaps_6 : decode cX11_heaps 6 = .ok (.getfield 69, 3) := by decide +kernel
theorem dX11_heaps_9 : decode cX11_heaps 9 = .ok (.iload_n 3, 1) := by decide +kernel
theorem dX11_heaps_10 : decode cX11_heaps 10 = .ok (.bipush 14, 2) := by decide +kernel
theorem dX11_heaps_12 : decode cX11_heaps 12 = .ok (.iadd, 1) := by decide +kernel
theorem dX11_heaps_13 : decode cX11_heaps 13 = .ok (.iload_n 2, 1) := by decide +kernel
theorem dX11_heaps_14 : decode cX11_heaps 14 = .ok (.iadd, 1) := by decide +kernel
theorem dX11_heaps_15 : decode cX11_heaps 15 = .ok (.iaload, 1) := by decide +kernel
theorem dX11_heaps_16 : decode cX11_heaps 16 = .ok (.istore 4, 2) := by decide +kernel
theorem dX11_heaps_18 : decode cX11_heaps 18 = .ok (.aload_n 0, 1) := by decide +kernel
theorem dX11_heaps_19 : decode cX11_heaps 19 = .ok (.iload_n 1, 1) := by decide +kernel
theorem dX11_heaps_20 : decode cX11_heaps 20 = .ok (.iload_n 2, 1) := by decide +kernel
theorem dX11_heaps_21 : decode cX11_heaps 21 = .ok (.invokevirtual 434, 3) := by decide +kernel
theorem dX11_heaps_24 : decode cX11_heaps 24 = .ok (.aload_n 0, 1) := by decide +kernel
theorem dX11_heaps_25 : decode cX11_heaps 25 = .ok (.iconst 0, 1) := by decide +kernel
theorem dX11_heaps_26 : decode cX11_heaps 26 = .ok (.iload 4, 2) := by decide +kernel
theorem dX11_heaps_28 : decode cX11_heaps 28 = .ok (.i2l, 1) := by decide +kernel
theorem dX11_heaps_29 : decode cX11_heaps 29 = .ok (.invokevirtual 427, 3) := by decide +kernel
theorem dX11_heaps_32 : decode cX11_heaps 32 = .ok (.lstore 5, 2) := by decide +kernel
theorem dX11_heaps_34 : decode cX11_heaps 34 = .ok (.aload_n 0, 1) := by decide +kernel
theorem dX11_heaps_35 : decode cX11_heaps 35 = .ok (.getfield 69, 3) := by decide +kernel
theorem dX11_heaps_38 : decode cX11_heaps 38 = .ok (.iload_n 3, 1) := by decide +kernel
theorem dX11_heaps_39 : decode cX11_heaps 39 = .ok (.iconst 2, 1) := by decide +kernel
theorem dX11_heaps_40 : decode cX11_heaps 40 = .ok (.iadd, 1) := by decide +kernel
theorem dX11_heaps_41 : decode cX11_heaps 41 = .ok (.iaload, 1) := by decide +kernel
theorem dX11_heaps_42 : decode cX11_heaps 42 = .ok (.i2l, 1) := by decide +kernel
theorem dX11_heaps_43 : decode cX11_heaps 43 = .ok (.lstore 7, 2) := by decide +kernel
theorem dX11_heaps_45 : decode cX11_heaps 45 = .ok (.aload_n 0, 1) := by decide +kernel
theorem dX11_heaps_46 : decode cX11_heaps 46 = .ok (.iload_n 2, 1) := by decide +kernel
theorem dX11_heaps_47 : decode cX11_heaps 47 = .ok (.invokevirtual 415, 3) := by decide +kernel
theorem dX11_heaps_50 : decode cX11_heaps 50 = .ok (.ifCond .eq 31, 3) := by decide +kernel
theorem dX11_heaps_53 : decode cX11_heaps 53 = .ok (.aload_n 0, 1) := by decide +kernel
theorem dX11_heaps_54 : decode cX11_heaps 54 = .ok (.getfield 69, 3) := by decide +kernel
theorem dX11_heaps_57 : decode cX11_heaps 57 = .ok (.iload_n 2, 1) := by decide +kernel
theorem dX11_heaps_58 : decode cX11_heaps 58 = .ok (.invokestatic 377, 3) := by decide +kernel
theorem dX11_heaps_61 : decode cX11_heaps 61 = .ok (.iaload, 1) := by decide +kernel
theorem dX11_heaps_62 : decode cX11_heaps 62 = .ok (.i2l, 1) := by decide +kernel
theorem dX11_heaps_63 : decode cX11_heaps 63 = .ok (.lload 7, 2) := by decide +kernel
theorem dX11_heaps_65 : decode cX11_heaps 65 = .ok (.lcmp, 1) := by decide +kernel
theorem dX11_heaps_66 : decode cX11_heaps 66 = .ok (.ifCond .ge 15, 3) := by decide +kernel
theorem dX11_heaps_69 : decode cX11_heaps 69 = .ok (.aload_n 0, 1) := by decide +kernel
theorem dX11_heaps_70 : decode cX11_heaps 70 = .ok (.getfield 69, 3) := by decide +kernel
theorem dX11_heaps_73 : decode cX11_heaps 73 = .ok (.iload_n 2, 1) := by decide +kernel
theorem dX11_heaps_74 : decode cX11_heaps 74 = .ok (.invokestatic 377, 3) := by decide +kernel
theorem dX11_heaps_77 : decode cX11_heaps 77 = .ok (.iaload, 1) := by decide +kernel
theorem dX11_heaps_78 : decode cX11_heaps 78 = .ok (.i2l, 1) := by decide +kernel
theorem dX11_heaps_79 : decode cX11_heaps 79 = .ok (.lstore 7, 2) := by decide +kernel
theorem dX11_heaps_81 : decode cX11_heaps 81 = .ok (.lload 5, 2) := by decide +kernel
theorem dX11_heaps_83 : decode cX11_heaps 83 = .ok (.lconst 0, 1) := by decide +kernel
theorem dX11_heaps_84 : decode cX11_heaps 84 = .ok (.lcmp, 1) := by decide +kernel
theorem dX11_heaps_85 : decode cX11_heaps 85 = .ok (.ifCond .ge 7, 3) := by decide +kernel
theorem dX11_heaps_88 : decode cX11_heaps 88 = .ok (.lconst 0, 1) := by decide +kernel
theorem dX11_heaps_89 : decode cX11_heaps 89 = .ok (.goto 18, 3) := by decide +kernel
theorem dX11_heaps_92 : decode cX11_heaps 92 = .ok (.lload 5, 2) := by decide +kernel
theorem dX11_heaps_94 : decode cX11_heaps 94 = .ok (.lload 7, 2) := by decide +kernel
theorem dX11_heaps_96 : decode cX11_heaps 96 = .ok (.lcmp, 1) := by decide +kernel
theorem dX11_heaps_97 : decode cX11_heaps 97 = .ok (.ifCond .le 8, 3) := by decide +kernel
theorem dX11_heaps_100 : decode cX11_heaps 100 = .ok (.lload 7, 2) := by decide +kernel
theorem dX11_heaps_102 : decode cX11_heaps 102 = .ok (.goto 5, 3) := by decide +kernel
theorem dX11_heaps_105 : decode cX11_heaps 105 = .ok (.lload 5, 2) := by decide +kernel
theorem dX11_heaps_107 : decode cX11_heaps 107 = .ok (.l2i, 1) := by decide +kernel
theorem dX11_heaps_108 : decode cX11_heaps 108 = .ok (.istore 9, 2) := by decide +kernel
theorem dX11_heaps_110 : decode cX11_heaps 110 = .ok (.aload_n 0, 1) := by decide +kernel
theorem dX11_heaps_111 : decode cX11_heaps 111 = .ok (.getfield 69, 3) := by decide +kernel
theorem dX11_heaps_114 : decode cX11_heaps 114 = .ok (.iload_n 3, 1) := by decide +kernel
theorem dX11_heaps_115 : decode cX11_heaps 115 = .ok (.iconst 2, 1) := by decide +kernel
theorem dX11_heaps_116 : decode cX11_heaps 116 = .ok (.iadd, 1) := by decide +kernel
theorem dX11_heaps_117 : decode cX11_heaps 117 = .ok (.dup2, 1) := by decide +kernel
theorem dX11_heaps_118 : decode cX11_heaps 118 = .ok (.iaload, 1) := by decide +kernel
theorem dX11_heaps_119 : decode cX11_heaps 119 = .ok (.iload 9, 2) := by decide +kernel
theorem dX11_heaps_121 : decode cX11_heaps 121 = .ok (.isub, 1) := by decide +kernel
theorem dX11_heaps_122 : decode cX11_heaps 122 = .ok (.iastore, 1) := by decide +kernel
theorem dX11_heaps_123 : decode cX11_heaps 123 = .ok (.aload_n 0, 1) := by decide +kernel
theorem dX11_heaps_124 : decode cX11_heaps 124 = .ok (.getfield 69, 3) := by decide +kernel
theorem dX11_heaps_127 : decode cX11_heaps 127 = .ok (.iload_n 3, 1) := by decide +kernel
theorem dX11_heaps_128 : decode cX11_heaps 128 = .ok (.iconst 5, 1) := by decide +kernel
theorem dX11_heaps_129 : decode cX11_heaps 129 = .ok (.iadd, 1) := by decide +kernel
theorem dX11_heaps_130 : decode cX11_heaps 130 = .ok (.dup2, 1) := by decide +kernel
theorem dX11_heaps_131 : decode cX11_heaps 131 = .ok (.iaload, 1) := by decide +kernel
theorem dX11_heaps_132 : decode cX11_heaps 132 = .ok (.iload 9, 2) := by decide +kernel
theorem dX11_heaps_134 : decode cX11_heaps 134 = .ok (.iadd, 1) := by decide +kernel
theorem dX11_heaps_135 : decode cX11_heaps 135 = .ok (.iastore, 1) := by decide +kernel
theorem dX11_heaps_136 : decode cX11_heaps 136 = .ok (.aload_n 0, 1) := by decide +kernel
theorem dX11_heaps_137 : decode cX11_heaps 137 = .ok (.getfield 69, 3) := by decide +kernel
theorem dX11_heaps_140 : decode cX11_heaps 140 = .ok (.iload_n 3, 1) := by decide +kernel
theorem dX11_heaps_141 : decode cX11_heaps 141 = .ok (.bipush 14, 2) := by decide +kernel
theorem dX11_heaps_143 : decode cX11_heaps 143 = .ok (.iadd, 1) := by decide +kernel
theorem dX11_heaps_144 : decode cX11_heaps 144 = .ok (.iload_n 2, 1) := by decide +kernel
theorem dX11_heaps_145 : decode cX11_heaps 145 = .ok (.iadd, 1) := by decide +kernel
theorem dX11_heaps_146 : decode cX11_heaps 146 = .ok (.iload 4, 2) := by decide +kernel
theorem dX11_heaps_148 : decode cX11_heaps 148 = .ok (.iload 9, 2) := by decide +kernel
theorem dX11_heaps_150 : decode cX11_heaps 150 = .ok (.if_icmp .le 11, 3) := by decide +kernel
theorem dX11_heaps_153 : decode cX11_heaps 153 = .ok (.iload 4, 2) := by decide +kernel
theorem dX11_heaps_155 : decode cX11_heaps 155 = .ok (.iload 9, 2) := by decide +kernel
theorem dX11_heaps_157 : decode cX11_heaps 157 = .ok (.isub, 1) := by decide +kernel
theorem dX11_heaps_158 : decode cX11_heaps 158 = .ok (.goto 4, 3) := by decide +kernel
theorem dX11_heaps_161 : decode cX11_heaps 161 = .ok (.iconst 0, 1) := by decide +kernel
theorem dX11_heaps_162 : decode cX11_heaps 162 = .ok (.iastore, 1) := by decide +kernel
theorem dX11_heaps_163 : decode cX11_heaps 163 = .ok (.aload_n 0, 1) := by decide +kernel
theorem dX11_heaps_164 : decode cX11_heaps 164 = .ok (.getfield 69, 3) := by decide +kernel
theorem dX11_heaps_167 : decode cX11_heaps 167 = .ok (.iload_n 2, 1) := by decide +kernel
theorem dX11_heaps_168 : decode cX11_heaps 168 = .ok (.invokestatic 377, 3) := by decide +kernel
theorem dX11_heaps_171 : decode cX11_heaps 171 = .ok (.iconst 3, 1) := by decide +kernel
theorem dX11_heaps_172 : decode cX11_heaps 172 = .ok (.iadd, 1) := by decide +kernel
theorem dX11_heaps_173 : decode cX11_heaps 173 = .ok (.dup2, 1) := by decide +kernel
theorem dX11_heaps_174 : decode cX11_heaps 174 = .ok (.iaload, 1) := by decide +kernel
theorem dX11_heaps_175 : decode cX11_heaps 175 = .ok (.iload 9, 2) := by decide +kernel
theorem dX11_heaps_177 : decode cX11_heaps 177 = .ok (.iadd, 1) := by decide +kernel
theorem dX11_heaps_178 : decode cX11_heaps 178 = .ok (.iastore, 1) := by decide +kernel
theorem dX11_heaps_179 : decode cX11_heaps 179 = .ok (.aload_n 0, 1) := by decide +kernel
theorem dX11_heaps_180 : decode cX11_heaps 180 = .ok (.getfield 69, 3) := by decide +kernel
theorem dX11_heaps_183 : decode cX11_heaps 183 = .ok (.iload_n 2, 1) := by decide +kernel
theorem dX11_heaps_184 : decode cX11_heaps 184 = .ok (.invokestatic 377, 3) := by decide +kernel
theorem dX11_heaps_187 : decode cX11_heaps 187 = .ok (.iconst 4, 1) := by decide +kernel
theorem dX11_heaps_188 : decode cX11_heaps 188 = .ok (.iadd, 1) := by decide +kernel
theorem dX11_heaps_189 : decode cX11_heaps 189 = .ok (.dup2, 1) := by decide +kernel
theorem dX11_heaps_190 : decode cX11_heaps 190 = .ok (.iaload, 1) := by decide +kernel
theorem dX11_heaps_191 : decode cX11_heaps 191 = .ok (.aload_n 0, 1) := by decide +kernel
theorem dX11_heaps_192 : decode cX11_heaps 192 = .ok (.iload_n 2, 1) := by decide +kernel
theorem dX11_heaps_193 : decode cX11_heaps 193 = .ok (.iconst 5, 1) := by decide +kernel
theorem dX11_heaps_194 : decode cX11_heaps 194 = .ok (.invokevirtual 366, 3) := by decide +kernel
theorem dX11_heaps_197 : decode cX11_heaps 197 = .ok (.ifCond .le 28, 3) := by decide +kernel
theorem dX11_heaps_200 : decode cX11_heaps 200 = .ok (.aload_n 0, 1) := by decide +kernel
theorem dX11_heaps_201 : decode cX11_heaps 201 = .ok (.getfield 69, 3) := by decide +kernel
theorem dX11_heaps_204 : decode cX11_heaps 204 = .ok (.iload_n 2, 1) := by decide +kernel
theorem dX11_heaps_205 : decode cX11_heaps 205 = .ok (.invokestatic 377, 3) := by decide +kernel
theorem dX11_heaps_208 : decode cX11_heaps 208 = .ok (.iconst 1, 1) := by decide +kernel
theorem dX11_heaps_209 : decode cX11_heaps 209 = .ok (.iadd, 1) := by decide +kernel
theorem dX11_heaps_210 : decode cX11_heaps 210 = .ok (.iaload, 1) := by decide +kernel
theorem dX11_heaps_211 : decode cX11_heaps 211 = .ok (.aload_n 0, 1) := by decide +kernel
theorem dX11_heaps_212 : decode cX11_heaps 212 = .ok (.iload_n 2, 1) := by decide +kernel
theorem dX11_heaps_213 : decode cX11_heaps 213 = .ok (.iconst 5, 1) := by decide +kernel
theorem dX11_heaps_214 : decode cX11_heaps 214 = .ok (.invokevirtual 366, 3) := by decide +kernel
theorem dX11_heaps_217 : decode cX11_heaps 217 = .ok (.if_icmp .lt 8, 3) := by decide +kernel
theorem dX11_heaps_220 : decode cX11_heaps 220 = .ok (.iload 9, 2) := by decide +kernel
theorem dX11_heaps_222 : decode cX11_heaps 222 = .ok (.goto 4, 3) := by decide +kernel
theorem dX11_heaps_225 : decode cX11_heaps 225 = .ok (.iconst 0, 1) := by decide +kernel
theorem dX11_heaps_226 : decode cX11_heaps 226 = .ok (.iadd, 1) := by decide +kernel
theorem dX11_heaps_227 : decode cX11_heaps 227 = .ok (.iastore, 1) := by decide +kernel
theorem dX11_heaps_228 : decode cX11_heaps 228 = .ok (.aload_n 0, 1) := by decide +kernel
theorem dX11_heaps_229 : decode cX11_heaps 229 = .ok (.getfield 69, 3) := by decide +kernel
theorem dX11_heaps_232 : decode cX11_heaps 232 = .ok (.iload_n 2, 1) := by decide +kernel
theorem dX11_heaps_233 : decode cX11_heaps 233 = .ok (.invokestatic 377, 3) := by decide +kernel
theorem dX11_heaps_236 : decode cX11_heaps 236 = .ok (.dup2, 1) := by decide +kernel
theorem dX11_heaps_237 : decode cX11_heaps 237 = .ok (.iaload, 1) := by decide +kernel
theorem dX11_heaps_238 : decode cX11_heaps 238 = .ok (.aload_n 0, 1) := by decide +kernel
theorem dX11_heaps_239 : decode cX11_heaps 239 = .ok (.iload_n 2, 1) := by decide +kernel
theorem dX11_heaps_240 : decode cX11_heaps 240 = .ok (.invokevirtual 415, 3) := by decide +kernel
theorem dX11_heaps_243 : decode cX11_heaps 243 = .ok (.ifCond .eq 8, 3) := by decide +kernel
theorem dX11_heaps_246 : decode cX11_heaps 246 = .ok (.iload 9, 2) := by decide +kernel
theorem dX11_heaps_248 : decode cX11_heaps 248 = .ok (.goto 4, 3) := by decide +kernel
theorem dX11_heaps_251 : decode cX11_heaps 251 = .ok (.iconst 0, 1) := by decide +kernel
theorem dX11_heaps_252 : decode cX11_heaps 252 = .ok (.isub, 1) := by decide +kernel
theorem dX11_heaps_253 : decode cX11_heaps 253 = .ok (.iastore, 1) := by decide +kernel
theorem dX11_heaps_254 : decode cX11_heaps 254 = .ok (.return_, 1) := by decide +kernel
set_option maxRecDepth 10000 in
theorem vX11_heaps_0 {κ : eg_K} {d : Nat} (hd : 4 ≤ d) {post : eg_H → Prop} (M : eg_H) (l1 : Int32) (l2 : Int32) (h : (∀ x2 : Int32, x2 = (fX11_at M l1) → (vp_in ((x2 + (14 : Int32)) + l2) 366 ∧ (∀ x4 : Int32, x4 = (M.1 (110, 0) ((x2 + (14 : Int32)) + l2).toNatClampNeg) → (gX11_layNamesAt M l1 l2 ∧ (∀ M6 : eg_H, M6 = (fX11_layNamesAt M l1 l2) → eCL κ gM mtX11_lawOf d [vR (60, 0), vI (0 : Int32), vL (x4.toInt64)] M6 (fun x8 M9 => (vp_in (x2 + (2 : Int32)) 366 ∧ (∀ x12 : Int64, x12 = ((M9.1 (110, 0) (x2 + (2 : Int32)).toNatClampNeg).toInt64) → (gX11_hasPan M9 l2 ∧ (∀ x15 : Int32, x15 = (fX11_hasPan M9 l2) → (x15 = 0 → eg_W κ gM mtX11_heaps d (eQV κ gM post) 81 [(0, vR (60, 0)), (2, vI l2), (3, vI x2), (4, vI x4), (5, vL x8), (7, vL x12)] [] M9) ∧ ((¬ x15 = 0) → (∀ x18 : Int32, x18 = (fX11_pan M9 l2) → (vp_in x18 366 ∧ (0 ≤ (lg_cmp ((M9.1 (110, 0) x18.toNatClampNeg).toInt64) x12) → eg_W κ gM mtX11_heaps d (eQV κ gM post) 81 [(0, vR (60, 0)), (2, vI l2), (3, vI x2), (4, vI x4), (5, vL x8), (7, vL x12)] [] M9) ∧ ((¬ 0 ≤ (lg_cmp ((M9.1 (110, 0) x18.toNatClampNeg).toInt64) x12)) → (∀ x22 : Int32, x22 = (fX11_pan M9 l2) → (vp_in x22 366 ∧ (∀ x24 : Int64, x24 = ((M9.1 (110, 0) x22.toNatClampNeg).toInt64) → eg_W κ gM mtX11_heaps d (eQV κ gM post) 81 [(0, vR (60, 0)), (2, vI l2), (3, vI x2), (4, vI x4), (5, vL x8), (7, vL x24)] [] M9)))))))))))))))))) : eg_W κ gM mtX11_heaps d (eQV κ gM post) 0 [(0, vR (60, 0)), (1, vI l1), (2, vI l2)] [] M := by
  refine eg_iload_n 1 dX11_heaps_0 rfl rfl ?_
  refine eg_callSI (av := [vI l1]) (st := []) dX11_heaps_1 ml_11_372 rfl rfl (Nat.le_of_ble_eq_true rfl) (eg_dd (by omega)) (sX11_at (by omega) M l1  ) (fun x2 M1 hp => ?_)
  obtain ⟨ex2, eM1⟩ := hp
  rw [eM1]
  have h := h x2 ex2
  refine eg_istore_n dX11_heaps_4 rfl (by decide) (ls1 := [(3, vI x2), (0, vR (60, 0)), (1, vI l1), (2, vI l2)]) rfl ?_
  refine eg_aload_n 1 dX11_heaps_5 rfl rfl ?_
  refine eg_getR dX11_heaps_6 fl_11_69 rfl rfl (obM_60 z1) ?_
  show eg_W κ gM mtX11_heaps d (eQV κ gM post) 9 [(3, vI x2), (0, vR (60, 0)), (1, vI l1), (2, vI l2)] [vR (110, 0)] M
  refine eg_iload_n 0 dX11_heaps_9 rfl rfl ?_
  refine eg_bipush dX11_heaps_10 bp_14 ?_
  refine eg_iadd dX11_heaps_12 ?_
  refine eg_iload_n 3 dX11_heaps_13 rfl rfl ?_
  refine eg_iadd dX11_heaps_14 ?_
  obtain ⟨g3, h⟩ := h
  refine eg_iaload dX11_heaps_15 (arM_110 z1 g3) ?_
  refine en_istore (f := fun x4 => [(4, vI x4), (3, vI x2), (0, vR (60, 0)), (1, vI l1), (2, vI l2)]) dX11_heaps_16 (by decide) rfl (fun x4 ex4 => ?_)
  have h := h x4 ex4
  refine eg_aload_n 2 dX11_heaps_18 rfl rfl ?_
  refine eg_iload_n 3 dX11_heaps_19 rfl rfl ?_
  refine eg_iload_n 4 dX11_heaps_20 rfl rfl ?_
  obtain ⟨g5, h⟩ := h
  refine eg_callVV (av := [vI l1, vI l2]) (st := []) dX11_heaps_21 ml_11_434 rfl rfl (obM_60 z1) (by decide) rfl (Nat.le_of_ble_eq_true rfl) (eg_dd (by omega)) (sX11_layNamesAt (by omega) M l1 l2  g5) (fun M6 eM6 => ?_)
  have h := h M6 eM6
  refine eg_aload_n 2 dX11_heaps_24 rfl rfl ?_
  refine eg_iconst dX11_heaps_25 ic_0 ?_
  refine eg_iload 0 dX11_heaps_26 rfl ?_
  refine eg_i2l dX11_heaps_28 ?_
  obtain ⟨q10, hq10, h⟩ := h
  refine eg_callVL (av := [vI (0 : Int32), vL (x4.toInt64)]) (st := []) dX11_heaps_29 ml_11_427 rfl rfl (obM_60 z1) (by decide) rfl (Nat.le_of_ble_eq_true rfl) (eg_dd (by omega)) hq10 (fun x8 M9 hp => ?_)
  have h := h x8 M9 hp
  refine eg_lstore dX11_heaps_32 (by decide) (ls1 := [(5, vL x8), (4, vI x4), (3, vI x2), (0, vR (60, 0)), (1, vI l1), (2, vI l2)]) rfl ?_
  refine eg_aload_n 3 dX11_heaps_34 rfl rfl ?_
  refine eg_getR dX11_heaps_35 fl_11_69 rfl rfl (obM_60 z1) ?_
  show eg_W κ gM mtX11_heaps d (eQV κ gM post) 38 [(5, vL x8), (4, vI x4), (3, vI x2), (0, vR (60, 0)), (1, vI l1), (2, vI l2)] [vR (110, 0)] M9
  refine eg_iload_n 2 dX11_heaps_38 rfl rfl ?_
  refine eg_iconst dX11_heaps_39 ic_2 ?_
  refine eg_iadd dX11_heaps_40 ?_
  obtain ⟨g11, h⟩ := h
  refine eg_iaload dX11_heaps_41 (arM_110 z1 g11) ?_
  refine eg_i2l dX11_heaps_42 ?_
  refine en_lstore (f := fun x12 => [(7, vL x12), (5, vL x8), (4, vI x4), (3, vI x2), (0, vR (60, 0)), (1, vI l1), (2, vI l2)]) dX11_heaps_43 (by decide) rfl (fun x12 ex12 => ?_)
  have h := h x12 ex12
  refine eg_aload_n 4 dX11_heaps_45 rfl rfl ?_
  refine eg_iload_n 6 dX11_heaps_46 rfl rfl ?_
  obtain ⟨g13, h⟩ := h
  refine eg_callVI (av := [vI l2]) (st := []) dX11_heaps_47 ml_11_415 rfl rfl (obM_60 z1) (by decide) rfl (Nat.le_of_ble_eq_true rfl) (eg_dd (by omega)) (sX11_hasPan (by omega) M9 l2  g13) (fun x15 M14 hp => ?_)
  obtain ⟨ex15, eM14⟩ := hp
  rw [eM14]
  have h := h x15 ex15
  refine eg_if_eq (tgt := 81) dX11_heaps_50 rfl (fun c16 => ?_) (fun c16 => ?_)
  · have h := h.1 c16
    refine eg_sub [4, 6, 3, 2, 1, 0] rfl ?_
    exact h
  · have h := h.2 c16
    refine eg_aload_n 4 dX11_heaps_53 rfl rfl ?_
    refine eg_getR dX11_heaps_54 fl_11_69 rfl rfl (obM_60 z1) ?_
    show eg_W κ gM mtX11_heaps d (eQV κ gM post) 57 [(7, vL x12), (5, vL x8), (4, vI x4), (3, vI x2), (0, vR (60, 0)), (1, vI l1), (2, vI l2)] [vR (110, 0)] M9
    refine eg_iload_n 6 dX11_heaps_57 rfl rfl ?_
    refine eg_callSI (av := [vI l2]) (st := [vR (110, 0)]) dX11_heaps_58 ml_11_377 rfl rfl (Nat.le_of_ble_eq_true rfl) (eg_dd (by omega)) (sX11_pan (by omega) M9 l2  ) (fun x18 M17 hp => ?_)
    obtain ⟨ex18, eM17⟩ := hp
    rw [eM17]
    have h := h x18 ex18
    obtain ⟨g19, h⟩ := h
    refine eg_iaload dX11_heaps_61 (arM_110 z1 g19) ?_
    refine eg_i2l dX11_heaps_62 ?_
    refine eg_lload 0 dX11_heaps_63 rfl ?_
    refine eg_lcmp dX11_heaps_65 ?_
    refine eg_if_ge (tgt := 81) dX11_heaps_66 rfl (fun c20 => ?_) (fun c20 => ?_)
    · have h := h.1 c20
      refine eg_sub [4, 6, 3, 2, 1, 0] rfl ?_
      exact h
    · have h := h.2 c20
      refine eg_aload_n 4 dX11_heaps_69 rfl rfl ?_
      refine eg_getR dX11_heaps_70 fl_11_69 rfl rfl (obM_60 z1) ?_
      show eg_W κ gM mtX11_heaps d (eQV κ gM post) 73 [(7, vL x12), (5, vL x8), (4, vI x4), (3, vI x2), (0, vR (60, 0)), (1, vI l1), (2, vI l2)] [vR (110, 0)] M9
      refine eg_iload_n 6 dX11_heaps_73 rfl rfl ?_
      refine eg_callSI (av := [vI l2]) (st := [vR (110, 0)]) dX11_heaps_74 ml_11_377 rfl rfl (Nat.le_of_ble_eq_true rfl) (eg_dd (by omega)) (sX11_pan (by omega) M9 l2  ) (fun x22 M21 hp => ?_)
      obtain ⟨ex22, eM21⟩ := hp
      rw [eM21]
      have h := h x22 ex22
      obtain ⟨g23, h⟩ := h
      refine eg_iaload dX11_heaps_77 (arM_110 z1 g23) ?_
      refine eg_i2l dX11_heaps_78 ?_
      refine en_lstore (f := fun x24 => [(7, vL x24), (5, vL x8), (4, vI x4), (3, vI x2), (0, vR (60, 0)), (1, vI l1), (2, vI l2)]) dX11_heaps_79 (by decide) rfl (fun x24 ex24 => ?_)
      have h := h x24 ex24
      refine eg_sub [4, 6, 3, 2, 1, 0] rfl ?_
      exact h
set_option maxRecDepth 10000 in
theorem vX11_heaps_81 {κ : eg_K} {d : Nat} (hd : 1 ≤ d) {post : eg_H → Prop} (M : eg_H) (l2 : Int32) (l3 : Int32) (l4 : Int32) (l5 : Int64) (l7 : Int64) (h : (∀ x1 : Int64, x1 = ((if 0 ≤ (lg_cmp l5 (0 : Int64)) then (if (lg_cmp l5 l7) ≤ 0 then l5 else l7) else (0 : Int64))) → (∀ x2 : Int32, x2 = (x1.toInt32) → (vp_in (l3 + (2 : Int32)) 366 ∧ (∀ M4 : eg_H, M4 = (sI M (110, 0) (l3 + (2 : Int32)).toNatClampNeg ((M.1 (110, 0) (l3 + (2 : Int32)).toNatClampNeg) - x2)) → (vp_in (l3 + (5 : Int32)) 366 ∧ (∀ M6 : eg_H, M6 = (sI M4 (110, 0) (l3 + (5 : Int32)).toNatClampNeg ((M4.1 (110, 0) (l3 + (5 : Int32)).toNatClampNeg) + x2)) → (∀ x7 : Int32, x7 = ((if l4 ≤ x2 then (0 : Int32) else (l4 - x2))) → (vp_in ((l3 + (14 : Int32)) + l2) 366 ∧ (∀ M9 : eg_H, M9 = (sI M6 (110, 0) ((l3 + (14 : Int32)) + l2).toNatClampNeg x7) → (∀ x11 : Int32, x11 = (fX11_pan M9 l2) → (vp_in (x11 + (3 : Int32)) 366 ∧ (∀ M13 : eg_H, M13 = (sI M9 (110, 0) (x11 + (3 : Int32)).toNatClampNeg ((M9.1 (110, 0) (x11 + (3 : Int32)).toNatClampNeg) + x2)) → (∀ x15 : Int32, x15 = (fX11_pan M13 l2) → (vp_in (x15 + (4 : Int32)) 366 ∧ (gX11_has M13 l2 (5 : Int32) ∧ (∀ x19 : Int32, x19 = (fX11_has M13 l2 (5 : Int32)) → (x19 ≤ 0 → eg_W κ gM mtX11_heaps d (eQV κ gM post) 226 [(0, vR (60, 0)), (2, vI l2), (9, vI x2)] [vI (0 : Int32), vI (M13.1 (110, 0) (x15 + (4 : Int32)).toNatClampNeg), vI (x15 + (4 : Int32)), vR (110, 0)] M13) ∧ ((¬ x19 ≤ 0) → (∀ x22 : Int32, x22 = (fX11_pan M13 l2) → (vp_in (x22 + (1 : Int32)) 366 ∧ (∀ x25 : Int32, x25 = (fX11_has M13 l2 (5 : Int32)) → (∀ x26 : Int32, x26 = ((if (M13.1 (110, 0) (x22 + (1 : Int32)).toNatClampNeg) < x25 then (0 : Int32) else x2)) → eg_W κ gM mtX11_heaps d (eQV κ gM post) 226 [(0, vR (60, 0)), (2, vI l2), (9, vI x2)] [vI x26, vI (M13.1 (110, 0) (x15 + (4 : Int32)).toNatClampNeg), vI (x15 + (4 : Int32)), vR (110, 0)] M13)))))))))))))))))))))) : eg_W κ gM mtX11_heaps d (eQV κ gM post) 81 [(0, vR (60, 0)), (2, vI l2), (3, vI l3), (4, vI l4), (5, vL l5), (7, vL l7)] [] M := by
  refine eg_lload 4 dX11_heaps_81 rfl ?_
  refine eg_lconst dX11_heaps_83 lc_0 ?_
  refine eg_lcmp dX11_heaps_84 ?_
  have J : ∀ x1 : Int64, x1 = (if 0 ≤ (lg_cmp l5 (0 : Int64)) then (if (lg_cmp l5 l7) ≤ 0 then l5 else l7) else (0 : Int64)) → eg_W κ gM mtX11_heaps d (eQV κ gM post) 107 [(0, vR (60, 0)), (2, vI l2), (3, vI l3), (4, vI l4), (5, vL l5), (7, vL l7)] [vL x1] M := by
    intro x1 ex1
    have h := h x1 ex1
    refine eg_l2i dX11_heaps_107 ?_
    refine en_istore (f := fun x2 => [(9, vI x2), (0, vR (60, 0)), (2, vI l2), (3, vI l3), (4, vI l4), (5, vL l5), (7, vL l7)]) dX11_heaps_108 (by decide) rfl (fun x2 ex2 => ?_)
    have h := h x2 ex2
    refine eg_aload_n 1 dX11_heaps_110 rfl rfl ?_
    refine eg_getR dX11_heaps_111 fl_11_69 rfl rfl (obM_60 z1) ?_
    show eg_W κ gM mtX11_heaps d (eQV κ gM post) 114 [(9, vI x2), (0, vR (60, 0)), (2, vI l2), (3, vI l3), (4, vI l4), (5, vL l5), (7, vL l7)] [vR (110, 0)] M
    refine eg_iload_n 3 dX11_heaps_114 rfl rfl ?_
    refine eg_iconst dX11_heaps_115 ic_2 ?_
    refine eg_iadd dX11_heaps_116 ?_
    refine eg_dup2 dX11_heaps_117 rfl rfl ?_
    obtain ⟨g3, h⟩ := h
    refine eg_iaload dX11_heaps_118 (arM_110 z1 g3) ?_
    refine eg_iload 0 dX11_heaps_119 rfl ?_
    refine eg_isub dX11_heaps_121 ?_
    refine en_iastore dX11_heaps_122 (arM_110 z1 g3) (fun M4 eM4 => ?_)
    have h := h M4 eM4
    refine eg_aload_n 1 dX11_heaps_123 rfl rfl ?_
    refine eg_getR dX11_heaps_124 fl_11_69 rfl rfl (obM_60 z1) ?_
    show eg_W κ gM mtX11_heaps d (eQV κ gM post) 127 [(9, vI x2), (0, vR (60, 0)), (2, vI l2), (3, vI l3), (4, vI l4), (5, vL l5), (7, vL l7)] [vR (110, 0)] M4
    refine eg_iload_n 3 dX11_heaps_127 rfl rfl ?_
    refine eg_iconst dX11_heaps_128 ic_5 ?_
    refine eg_iadd dX11_heaps_129 ?_
    refine eg_dup2 dX11_heaps_130 rfl rfl ?_
    obtain ⟨g5, h⟩ := h
    refine eg_iaload dX11_heaps_131 (arM_110 z1 g5) ?_
    refine eg_iload 0 dX11_heaps_132 rfl ?_
    refine eg_iadd dX11_heaps_134 ?_
    refine en_iastore dX11_heaps_135 (arM_110 z1 g5) (fun M6 eM6 => ?_)
    have h := h M6 eM6
    refine eg_aload_n 1 dX11_heaps_136 rfl rfl ?_
    refine eg_getR dX11_heaps_137 fl_11_69 rfl rfl (obM_60 z1) ?_
    show eg_W κ gM mtX11_heaps d (eQV κ gM post) 140 [(9, vI x2), (0, vR (60, 0)), (2, vI l2), (3, vI l3), (4, vI l4), (5, vL l5), (7, vL l7)] [vR (110, 0)] M6
    refine eg_iload_n 3 dX11_heaps_140 rfl rfl ?_
    refine eg_bipush dX11_heaps_141 bp_14 ?_
    refine eg_iadd dX11_heaps_143 ?_
    refine eg_iload_n 2 dX11_heaps_144 rfl rfl ?_
    refine eg_iadd dX11_heaps_145 ?_
    refine eg_iload 4 dX11_heaps_146 rfl ?_
    refine eg_iload 0 dX11_heaps_148 rfl ?_
    have J : ∀ x7 : Int32, x7 = (if l4 ≤ x2 then (0 : Int32) else (l4 - x2)) → eg_W κ gM mtX11_heaps d (eQV κ gM post) 162 [(9, vI x2), (0, vR (60, 0)), (2, vI l2), (3, vI l3), (4, vI l4), (5, vL l5), (7, vL l7)] [vI x7, vI ((l3 + (14 : Int32)) + l2), vR (110, 0)] M6 := by
      intro x7 ex7
      have h := h x7 ex7
      obtain ⟨g8, h⟩ := h
      refine en_iastore dX11_heaps_162 (arM_110 z1 g8) (fun M9 eM9 => ?_)
      have h := h M9 eM9
      refine eg_aload_n 1 dX11_heaps_163 rfl rfl ?_
      refine eg_getR dX11_heaps_164 fl_11_69 rfl rfl (obM_60 z1) ?_
      show eg_W κ gM mtX11_heaps d (eQV κ gM post) 167 [(9, vI x2), (0, vR (60, 0)), (2, vI l2), (3, vI l3), (4, vI l4), (5, vL l5), (7, vL l7)] [vR (110, 0)] M9
      refine eg_iload_n 2 dX11_heaps_167 rfl rfl ?_
      refine eg_callSI (av := [vI l2]) (st := [vR (110, 0)]) dX11_heaps_168 ml_11_377 rfl rfl (Nat.le_of_ble_eq_true rfl) (eg_dd (by omega)) (sX11_pan (by omega) M9 l2  ) (fun x11 M10 hp => ?_)
      obtain ⟨ex11, eM10⟩ := hp
      rw [eM10]
      have h := h x11 ex11
      refine eg_iconst dX11_heaps_171 ic_3 ?_
      refine eg_iadd dX11_heaps_172 ?_
      refine eg_dup2 dX11_heaps_173 rfl rfl ?_
      obtain ⟨g12, h⟩ := h
      refine eg_iaload dX11_heaps_174 (arM_110 z1 g12) ?_
      refine eg_iload 0 dX11_heaps_175 rfl ?_
      refine eg_iadd dX11_heaps_177 ?_
      refine en_iastore dX11_heaps_178 (arM_110 z1 g12) (fun M13 eM13 => ?_)
      have h := h M13 eM13
      refine eg_aload_n 1 dX11_heaps_179 rfl rfl ?_
      refine eg_getR dX11_heaps_180 fl_11_69 rfl rfl (obM_60 z1) ?_
      show eg_W κ gM mtX11_heaps d (eQV κ gM post) 183 [(9, vI x2), (0, vR (60, 0)), (2, vI l2), (3, vI l3), (4, vI l4), (5, vL l5), (7, vL l7)] [vR (110, 0)] M13
      refine eg_iload_n 2 dX11_heaps_183 rfl rfl ?_
      refine eg_callSI (av := [vI l2]) (st := [vR (110, 0)]) dX11_heaps_184 ml_11_377 rfl rfl (Nat.le_of_ble_eq_true rfl) (eg_dd (by omega)) (sX11_pan (by omega) M13 l2  ) (fun x15 M14 hp => ?_)
      obtain ⟨ex15, eM14⟩ := hp
      rw [eM14]
      have h := h x15 ex15
      refine eg_iconst dX11_heaps_187 ic_4 ?_
      refine eg_iadd dX11_heaps_188 ?_
      refine eg_dup2 dX11_heaps_189 rfl rfl ?_
      obtain ⟨g16, h⟩ := h
      refine eg_iaload dX11_heaps_190 (arM_110 z1 g16) ?_
      refine eg_aload_n 1 dX11_heaps_191 rfl rfl ?_
      refine eg_iload_n 2 dX11_heaps_192 rfl rfl ?_
      refine eg_iconst dX11_heaps_193 ic_5 ?_
      obtain ⟨g17, h⟩ := h
      refine eg_callVI (av := [vI l2, vI (5 : Int32)]) (st := [vI (M13.1 (110, 0) (x15 + (4 : Int32)).toNatClampNeg), vI (x15 + (4 : Int32)), vR (110, 0)]) dX11_heaps_194 ml_11_366 rfl rfl (obM_60 z1) (by decide) rfl (Nat.le_of_ble_eq_true rfl) (eg_dd (by omega)) (sX11_has (by omega) M13 l2 (5 : Int32)  g17) (fun x19 M18 hp => ?_)
      obtain ⟨ex19, eM18⟩ := hp
      rw [eM18]
      have h := h x19 ex19
      refine eg_if_le (tgt := 225) dX11_heaps_197 rfl (fun c20 => ?_) (fun c20 => ?_)
      · have h := h.1 c20
        refine eg_iconst dX11_heaps_225 ic_0 ?_
        refine eg_sub [1, 2, 0] rfl ?_
        exact h
      · have h := h.2 c20
        refine eg_aload_n 1 dX11_heaps_200 rfl rfl ?_
        refine eg_getR dX11_heaps_201 fl_11_69 rfl rfl (obM_60 z1) ?_
        show eg_W κ gM mtX11_heaps d (eQV κ gM post) 204 [(9, vI x2), (0, vR (60, 0)), (2, vI l2), (3, vI l3), (4, vI l4), (5, vL l5), (7, vL l7)] [vR (110, 0), vI (M13.1 (110, 0) (x15 + (4 : Int32)).toNatClampNeg), vI (x15 + (4 : Int32)), vR (110, 0)] M13
        refine eg_iload_n 2 dX11_heaps_204 rfl rfl ?_
        refine eg_callSI (av := [vI l2]) (st := [vR (110, 0), vI (M13.1 (110, 0) (x15 + (4 : Int32)).toNatClampNeg), vI (x15 + (4 : Int32)), vR (110, 0)]) dX11_heaps_205 ml_11_377 rfl rfl (Nat.le_of_ble_eq_true rfl) (eg_dd (by omega)) (sX11_pan (by omega) M13 l2  ) (fun x22 M21 hp => ?_)
        obtain ⟨ex22, eM21⟩ := hp
        rw [eM21]
        have h := h x22 ex22
        refine eg_iconst dX11_heaps_208 ic_1 ?_
        refine eg_iadd dX11_heaps_209 ?_
        obtain ⟨g23, h⟩ := h
        refine eg_iaload dX11_heaps_210 (arM_110 z1 g23) ?_
        refine eg_aload_n 1 dX11_heaps_211 rfl rfl ?_
        refine eg_iload_n 2 dX11_heaps_212 rfl rfl ?_
        refine eg_iconst dX11_heaps_213 ic_5 ?_
        refine eg_callVI (av := [vI l2, vI (5 : Int32)]) (st := [vI (M13.1 (110, 0) (x22 + (1 : Int32)).toNatClampNeg), vI (M13.1 (110, 0) (x15 + (4 : Int32)).toNatClampNeg), vI (x15 + (4 : Int32)), vR (110, 0)]) dX11_heaps_214 ml_11_366 rfl rfl (obM_60 z1) (by decide) rfl (Nat.le_of_ble_eq_true rfl) (eg_dd (by omega)) (sX11_has (by omega) M13 l2 (5 : Int32)  g17) (fun x25 M24 hp => ?_)
        obtain ⟨ex25, eM24⟩ := hp
        rw [eM24]
        have h := h x25 ex25
        have J : ∀ x26 : Int32, x26 = (if (M13.1 (110, 0) (x22 + (1 : Int32)).toNatClampNeg) < x25 then (0 : Int32) else x2) → eg_W κ gM mtX11_heaps d (eQV κ gM post) 226 [(9, vI x2), (0, vR (60, 0)), (2, vI l2), (3, vI l3), (4, vI l4), (5, vL l5), (7, vL l7)] [vI x26, vI (M13.1 (110, 0) (x15 + (4 : Int32)).toNatClampNeg), vI (x15 + (4 : Int32)), vR (110, 0)] M13 := by
          intro x26 ex26
          have h := h x26 ex26
          refine eg_sub [1, 2, 0] rfl ?_
          exact h
        clear h
        refine eg_icmp_lt (tgt := 225) dX11_heaps_217 rfl (fun c27 => ?_) (fun c27 => ?_)
        · refine eg_iconst dX11_heaps_225 ic_0 ?_
          exact J _ (by rw [if_pos c27])
        · refine eg_iload 0 dX11_heaps_220 rfl ?_
          refine eg_goto (tgt := 226) dX11_heaps_222 rfl ?_
          exact J _ (by rw [if_neg c27])
    clear h
    refine eg_icmp_le (tgt := 161) dX11_heaps_150 rfl (fun c28 => ?_) (fun c28 => ?_)
    · refine eg_iconst dX11_heaps_161 ic_0 ?_
      exact J _ (by rw [if_pos c28])
    · refine eg_iload 4 dX11_heaps_153 rfl ?_
      refine eg_iload 0 dX11_heaps_155 rfl ?_
      refine eg_isub dX11_heaps_157 ?_
      refine eg_goto (tgt := 162) dX11_heaps_158 rfl ?_
      exact J _ (by rw [if_neg c28])
  clear h
  refine eg_if_ge (tgt := 92) dX11_heaps_85 rfl (fun c29 => ?_) (fun c29 => ?_)
  · refine eg_lload 4 dX11_heaps_92 rfl ?_
    refine eg_lload 5 dX11_heaps_94 rfl ?_
    refine eg_lcmp dX11_heaps_96 ?_
    refine eg_if_le (tgt := 105) dX11_heaps_97 rfl (fun c30 => ?_) (fun c30 => ?_)
    · refine eg_lload 4 dX11_heaps_105 rfl ?_
      exact J _ (by rw [if_pos c29, if_pos c30])
    · refine eg_lload 5 dX11_heaps_100 rfl ?_
      refine eg_goto (tgt := 107) dX11_heaps_102 rfl ?_
      exact J _ (by rw [if_pos c29, if_neg c30])
  · refine eg_lconst dX11_heaps_88 lc_0 ?_
    refine eg_goto (tgt := 107) dX11_heaps_89 rfl ?_
    exact J _ (by rw [if_neg c29])
set_option maxRecDepth 10000 in
theorem vX11_heaps_226 {κ : eg_K} {d : Nat} (hd : 2 ≤ d) {post : eg_H → Prop} (M : eg_H) (l2 : Int32) (l9 : Int32) (s0 : Int32) (s1 : Int32) (s2 : Int32) (h : (vp_in s2 366 ∧ (∀ M2 : eg_H, M2 = (sI M (110, 0) s2.toNatClampNeg (s1 + s0)) → (∀ x4 : Int32, x4 = (fX11_pan M2 l2) → (vp_in x4 366 ∧ (gX11_hasPan M2 l2 ∧ (∀ x8 : Int32, x8 = (fX11_hasPan M2 l2) → (∀ x9 : Int32, x9 = ((if x8 = 0 then (0 : Int32) else l9)) → (∀ M10 : eg_H, M10 = (sI M2 (110, 0) x4.toNatClampNeg ((M2.1 (110, 0) x4.toNatClampNeg) - x9)) → post M10))))))))) : eg_W κ gM mtX11_heaps d (eQV κ gM post) 226 [(0, vR (60, 0)), (2, vI l2), (9, vI l9)] [vI s0, vI s1, vI s2, vR (110, 0)] M := by
  refine eg_iadd dX11_heaps_226 ?_
  obtain ⟨g1, h⟩ := h
  refine en_iastore dX11_heaps_227 (arM_110 z1 g1) (fun M2 eM2 => ?_)
  have h := h M2 eM2
  refine eg_aload_n 0 dX11_heaps_228 rfl rfl ?_
  refine eg_getR dX11_heaps_229 fl_11_69 rfl rfl (obM_60 z1) ?_
  show eg_W κ gM mtX11_heaps d (eQV κ gM post) 232 [(0, vR (60, 0)), (2, vI l2), (9, vI l9)] [vR (110, 0)] M2
  refine eg_iload_n 1 dX11_heaps_232 rfl rfl ?_
  refine eg_callSI (av := [vI l2]) (st := [vR (110, 0)]) dX11_heaps_233 ml_11_377 rfl rfl (Nat.le_of_ble_eq_true rfl) (eg_dd (by omega)) (sX11_pan (by omega) M2 l2  ) (fun x4 M3 hp => ?_)
  obtain ⟨ex4, eM3⟩ := hp
  rw [eM3]
  have h := h x4 ex4
  refine eg_dup2 dX11_heaps_236 rfl rfl ?_
  obtain ⟨g5, h⟩ := h
  refine eg_iaload dX11_heaps_237 (arM_110 z1 g5) ?_
  refine eg_aload_n 0 dX11_heaps_238 rfl rfl ?_
  refine eg_iload_n 1 dX11_heaps_239 rfl rfl ?_
  obtain ⟨g6, h⟩ := h
  refine eg_callVI (av := [vI l2]) (st := [vI (M2.1 (110, 0) x4.toNatClampNeg), vI x4, vR (110, 0)]) dX11_heaps_240 ml_11_415 rfl rfl (obM_60 z1) (by decide) rfl (Nat.le_of_ble_eq_true rfl) (eg_dd (by omega)) (sX11_hasPan (by omega) M2 l2  g6) (fun x8 M7 hp => ?_)
  obtain ⟨ex8, eM7⟩ := hp
  rw [eM7]
  have h := h x8 ex8
  have J : ∀ x9 : Int32, x9 = (if x8 = 0 then (0 : Int32) else l9) → eg_W κ gM mtX11_heaps d (eQV κ gM post) 252 [(0, vR (60, 0)), (2, vI l2), (9, vI l9)] [vI x9, vI (M2.1 (110, 0) x4.toNatClampNeg), vI x4, vR (110, 0)] M2 := by
    intro x9 ex9
    have h := h x9 ex9
    refine eg_isub dX11_heaps_252 ?_
    refine en_iastore dX11_heaps_253 (arM_110 z1 g5) (fun M10 eM10 => ?_)
    have h := h M10 eM10
    exact eg_vreturn dX11_heaps_254 rfl h
  clear h
  refine eg_if_eq (tgt := 251) dX11_heaps_243 rfl (fun c11 => ?_) (fun c11 => ?_)
  · refine eg_iconst dX11_heaps_251 ic_0 ?_
    exact J _ (by rw [if_pos c11])
  · refine eg_iload 2 dX11_heaps_246 rfl ?_
    refine eg_goto (tgt := 252) dX11_heaps_248 rfl ?_
    exact J _ (by rw [if_neg c11])
theorem dX11_goesTo_0 : decode cX11_goesTo 0 = .ok (.iload_n 1, 1) := by decide +kernel
theorem dX11_goesTo_1 : decode cX11_goesTo 1 = .ok (.invokestatic 372, 3) := by decide +kernel
theorem dX11_goesTo_4 : decode cX11_goesTo 4 = .ok (.istore_n 3, 1) := by decide +kernel
theorem dX11_goesTo_5 : decode cX11_goesTo 5 = .ok (.aload_n 0, 1) := by decide +kernel
theorem dX11_goesTo_6 : decode cX11_goesTo 6 = .ok (.getfield 69, 3) := by decide +kernel
theorem dX11_goesTo_9 : decode cX11_goesTo 9 = .ok (.sipush 360, 3) := by decide +kernel
theorem dX11_goesTo_12 : decode cX11_goesTo 12 = .ok (.iload_n 2, 1) := by decide +kernel
theorem dX11_goesTo_13 : decode cX11_goesTo 13 = .ok (.iadd, 1) := by decide +kernel
theorem dX11_goesTo_14 : decode cX11_goesTo 14 = .ok (.iaload, 1) := by decide +kernel
theorem dX11_goesTo_15 : decode cX11_goesTo 15 = .ok (.istore 4, 2) := by decide +kernel
theorem dX11_goesTo_17 : decode cX11_goesTo 17 = .ok (.aload_n 0, 1) := by decide +kernel
theorem dX11_goesTo_18 : decode cX11_goesTo 18 = .ok (.getfield 69, 3) := by decide +kernel
theorem dX11_goesTo_21 : decode cX11_goesTo 21 = .ok (.iload_n 3, 1) := by decide +kernel
theorem dX11_goesTo_22 : decode cX11_goesTo 22 = .ok (.iconst 1, 1) := by decide +kernel
theorem dX11_goesTo_23 : decode cX11_goesTo 23 = .ok (.iadd, 1) := by decide +kernel
theorem dX11_goesTo_24 : decode cX11_goesTo 24 = .ok (.iload_n 2, 1) := by decide +kernel
theorem dX11_goesTo_25 : decode cX11_goesTo 25 = .ok (.iastore, 1) := by decide +kernel
theorem dX11_goesTo_26 : decode cX11_goesTo 26 = .ok (.aload_n 0, 1) := by decide +kernel
theorem dX11_goesTo_27 : decode cX11_goesTo 27 = .ok (.getfield 69, 3) := by decide +kernel
theorem dX11_goesTo_30 : decode cX11_goesTo 30 = .ok (.iload_n 3, 1) := by decide +kernel
theorem dX11_goesTo_31 : decode cX11_goesTo 31 = .ok (.bipush 10, 2) := by decide +kernel
theorem dX11_goesTo_33 : decode cX11_goesTo 33 = .ok (.iadd, 1) := by decide +kernel
theorem dX11_goesTo_34 : decode cX11_goesTo 34 = .ok (.iconst 0, 1) := by decide +kernel
theorem dX11_goesTo_35 : decode cX11_goesTo 35 = .ok (.iastore, 1) := by decide +kernel
theorem dX11_goesTo_36 : decode cX11_goesTo 36 = .ok (.aload_n 0, 1) := by decide +kernel
theorem dX11_goesTo_37 : decode cX11_goesTo 37 = .ok (.iload 4, 2) := by decide +kernel
theorem dX11_goesTo_39 : decode cX11_goesTo 39 = .ok (.invokevirtual 415, 3) := by decide +kernel
theorem dX11_goesTo_42 : decode cX11_goesTo 42 = .ok (.ifCond .eq 43, 3) := by decide +kernel
theorem dX11_goesTo_45 : decode cX11_goesTo 45 = .ok (.aload_n 0, 1) := by decide +kernel
theorem dX11_goesTo_46 : decode cX11_goesTo 46 = .ok (.getfield 69, 3) := by decide +kernel
theorem dX11_goesTo_49 : decode cX11_goesTo 49 = .ok (.iload 4, 2) := by decide +kernel
theorem dX11_goesTo_51 : decode cX11_goesTo 51 = .ok (.invokestatic 377, 3) := by decide +kernel
theorem dX11_goesTo_54 : decode cX11_goesTo 54 = .ok (.iaload, 1) := by decide +kernel
theorem dX11_goesTo_55 : decode cX11_goesTo 55 = .ok (.ifCond .ne 30, 3) := by decide +kernel
theorem dX11_goesTo_58 : decode cX11_goesTo 58 = .ok (.aload_n 0, 1) := by decide +kernel
theorem dX11_goesTo_59 : decode cX11_goesTo 59 = .ok (.getfield 69, 3) := by decide +kernel
theorem dX11_goesTo_62 : decode cX11_goesTo 62 = .ok (.iload_n 3, 1) := by decide +kernel
theorem dX11_goesTo_63 : decode cX11_goesTo 63 = .ok (.bipush 14, 2) := by decide +kernel
theorem dX11_goesTo_65 : decode cX11_goesTo 65 = .ok (.iadd, 1) := by decide +kernel
theorem dX11_goesTo_66 : decode cX11_goesTo 66 = .ok (.iload 4, 2) := by decide +kernel
theorem dX11_goesTo_68 : decode cX11_goesTo 68 = .ok (.iadd, 1) := by decide +kernel
theorem dX11_goesTo_69 : decode cX11_goesTo 69 = .ok (.iconst 0, 1) := by decide +kernel
theorem dX11_goesTo_70 : decode cX11_goesTo 70 = .ok (.iastore, 1) := by decide +kernel
theorem dX11_goesTo_71 : decode cX11_goesTo 71 = .ok (.aload_n 0, 1) := by decide +kernel
theorem dX11_goesTo_72 : decode cX11_goesTo 72 = .ok (.getfield 69, 3) := by decide +kernel
theorem dX11_goesTo_75 : decode cX11_goesTo 75 = .ok (.iload_n 3, 1) := by decide +kernel
theorem dX11_goesTo_76 : decode cX11_goesTo 76 = .ok (.bipush 8, 2) := by decide +kernel
theorem dX11_goesTo_78 : decode cX11_goesTo 78 = .ok (.iadd, 1) := by decide +kernel
theorem dX11_goesTo_79 : decode cX11_goesTo 79 = .ok (.dup2, 1) := by decide +kernel
theorem dX11_goesTo_80 : decode cX11_goesTo 80 = .ok (.iaload, 1) := by decide +kernel
theorem dX11_goesTo_81 : decode cX11_goesTo 81 = .ok (.iconst 1, 1) := by decide +kernel
theorem dX11_goesTo_82 : decode cX11_goesTo 82 = .ok (.iadd, 1) := by decide +kernel
theorem dX11_goesTo_83 : decode cX11_goesTo 83 = .ok (.iastore, 1) := by decide +kernel
theorem dX11_goesTo_84 : decode cX11_goesTo 84 = .ok (.return_, 1) := by decide +kernel
theorem dX11_goesTo_85 : decode cX11_goesTo 85 = .ok (.aload_n 0, 1) := by decide +kernel
theorem dX11_goesTo_86 : decode cX11_goesTo 86 = .ok (.iload_n 2, 1) := by decide +kernel
theorem dX11_goesTo_87 : decode cX11_goesTo 87 = .ok (.invokevirtual 438, 3) := by decide +kernel
theorem dX11_goesTo_90 : decode cX11_goesTo 90 = .ok (.iload 4, 2) := by decide +kernel
theorem dX11_goesTo_92 : decode cX11_goesTo 92 = .ok (.aload_n 0, 1) := by decide +kernel
theorem dX11_goesTo_93 : decode cX11_goesTo 93 = .ok (.getfield 342, 3) := by decide +kernel
theorem dX11_goesTo_96 : decode cX11_goesTo 96 = .ok (.if_icmp .ne 10, 3) := by decide +kernel
theorem dX11_goesTo_99 : decode cX11_goesTo 99 = .ok (.aload_n 0, 1) := by decide +kernel
theorem dX11_goesTo_100 : decode cX11_goesTo 100 = .ok (.getfield 441, 3) := by decide +kernel
theorem dX11_goesTo_103 : decode cX11_goesTo 103 = .ok (.goto 10, 3) := by decide +kernel
theorem dX11_goesTo_106 : decode cX11_goesTo 106 = .ok (.aload_n 0, 1) := by decide +kernel
theorem dX11_goesTo_107 : decode cX11_goesTo 107 = .ok (.iload 4, 2) := by decide +kernel
theorem dX11_goesTo_109 : decode cX11_goesTo 109 = .ok (.iconst 1, 1) := by decide +kernel
theorem dX11_goesTo_110 : decode cX11_goesTo 110 = .ok (.invokevirtual 366, 3) := by decide +kernel
theorem dX11_goesTo_113 : decode cX11_goesTo 113 = .ok (.if_icmp .ge 26, 3) := by decide +kernel
theorem dX11_goesTo_116 : decode cX11_goesTo 116 = .ok (.aload_n 0, 1) := by decide +kernel
theorem dX11_goesTo_117 : decode cX11_goesTo 117 = .ok (.iload_n 1, 1) := by decide +kernel
theorem dX11_goesTo_118 : decode cX11_goesTo 118 = .ok (.iload 4, 2) := by decide +kernel
theorem dX11_goesTo_120 : decode cX11_goesTo 120 = .ok (.invokevirtual 444, 3) := by decide +kernel
theorem dX11_goesTo_123 : decode cX11_goesTo 123 = .ok (.aload_n 0, 1) := by decide +kernel
theorem dX11_goesTo_124 : decode cX11_goesTo 124 = .ok (.getfield 69, 3) := by decide +kernel
theorem dX11_goesTo_127 : decode cX11_goesTo 127 = .ok (.iload_n 3, 1) := by decide +kernel
theorem dX11_goesTo_128 : decode cX11_goesTo 128 = .ok (.iconst 3, 1) := by decide +kernel
theorem dX11_goesTo_129 : decode cX11_goesTo 129 = .ok (.iadd, 1) := by decide +kernel
theorem dX11_goesTo_130 : decode cX11_goesTo 130 = .ok (.aload_n 0, 1) := by decide +kernel
theorem dX11_goesTo_131 : decode cX11_goesTo 131 = .ok (.iload 4, 2) := by decide +kernel
theorem dX11_goesTo_133 : decode cX11_goesTo 133 = .ok (.iconst 0, 1) := by decide +kernel
theorem dX11_goesTo_134 : decode cX11_goesTo 134 = .ok (.invokevirtual 366, 3) := by decide +kernel
theorem dX11_goesTo_137 : decode cX11_goesTo 137 = .ok (.iastore, 1) := by decide +kernel
theorem dX11_goesTo_138 : decode cX11_goesTo 138 = .ok (.return_, 1) := by decide +kernel
theorem dX11_goesTo_139 : decode cX11_goesTo 139 = .ok (.aload_n 0, 1) := by decide +kernel
theorem dX11_goesTo_140 : decode cX11_goesTo 140 = .ok (.iload_n 1, 1) := by decide +kernel
theorem dX11_goesTo_141 : decode cX11_goesTo 141 = .ok (.iload 4, 2) := by decide +kernel
theorem dX11_goesTo_143 : decode cX11_goesTo 143 = .ok (.invokevirtual 434, 3) := by decide +kernel
theorem dX11_goesTo_146 : decode cX11_goesTo 146 = .ok (.aload_n 0, 1) := by decide +kernel
theorem dX11_goesTo_147 : decode cX11_goesTo 147 = .ok (.iconst 1, 1) := by decide +kernel
theorem dX11_goesTo_148 : decode cX11_goesTo 148 = .ok (.lconst 0, 1) := by decide +kernel
theorem dX11_goesTo_149 : decode cX11_goesTo 149 = .ok (.invokevirtual 427, 3) := by decide +kernel
theorem dX11_goesTo_152 : decode cX11_goesTo 152 = .ok (.lconst 0, 1) := by decide +kernel
theorem dX11_goesTo_153 : decode cX11_goesTo 153 = .ok (.lcmp, 1) := by decide +kernel
theorem dX11_goesTo_154 : decode cX11_goesTo 154 = .ok (.ifCond .eq 30, 3) := by decide +kernel
theorem dX11_goesTo_157 : decode cX11_goesTo 157 = .ok (.aload_n 0, 1) := by decide +kernel
theorem dX11_goesTo_158 : decode cX11_goesTo 158 = .ok (.getfield 69, 3) := by decide +kernel
theorem dX11_goesTo_161 : decode cX11_goesTo 161 = .ok (.iload_n 3, 1) := by decide +kernel
theorem dX11_goesTo_162 : decode cX11_goesTo 162 = .ok (.bipush 14, 2) := by decide +kernel
theorem dX11_goesTo_164 : decode cX11_goesTo 164 = .ok (.iadd, 1) := by decide +kernel
theorem dX11_goesTo_165 : decode cX11_goesTo 165 = .ok (.iload 4, 2) := by decide +kernel
theorem dX11_goesTo_167 : decode cX11_goesTo 167 = .ok (.iadd, 1) := by decide +kernel
theorem dX11_goesTo_168 : decode cX11_goesTo 168 = .ok (.iconst 0, 1) := by decide +kernel
theorem dX11_goesTo_169 : decode cX11_goesTo 169 = .ok (.iastore, 1) := by decide +kernel
theorem dX11_goesTo_170 : decode cX11_goesTo 170 = .ok (.aload_n 0, 1) := by decide +kernel
theorem dX11_goesTo_171 : decode cX11_goesTo 171 = .ok (.getfield 69, 3) := by decide +kernel
theorem dX11_goesTo_174 : decode cX11_goesTo 174 = .ok (.iload_n 3, 1) := by decide +kernel
theorem dX11_goesTo_175 : decode cX11_goesTo 175 = .ok (.bipush 8, 2) := by decide +kernel
theorem dX11_goesTo_177 : decode cX11_goesTo 177 = .ok (.iadd, 1) := by decide +kernel
theorem dX11_goesTo_178 : decode cX11_goesTo 178 = .ok (.dup2, 1) := by decide +kernel
theorem dX11_goesTo_179 : decode cX11_goesTo 179 = .ok (.iaload, 1) := by decide +kernel
theorem dX11_goesTo_180 : decode cX11_goesTo 180 = .ok (.iconst 1, 1) := by decide +kernel
theorem dX11_goesTo_181 : decode cX11_goesTo 181 = .ok (.iadd, 1) := by decide +kernel
theorem dX11_goesTo_182 : decode cX11_goesTo 182 = .ok (.iastore, 1) := by decide +kernel
theorem dX11_goesTo_183 : decode cX11_goesTo 183 = .ok (.return_, 1) := by decide +kernel
theorem dX11_goesTo_184 : decode cX11_goesTo 184 = .ok (.aload_n 0, 1) := by decide +kernel
theorem dX11_goesTo_185 : decode cX11_goesTo 185 = .ok (.getfield 69, 3) := by decide +kernel
theorem dX11_goesTo_188 : decode cX11_goesTo 188 = .ok (.iload_n 3, 1) := by decide +kernel
theorem dX11_goesTo_189 : decode cX11_goesTo 189 = .ok (.bipush 10, 2) := by decide +kernel
theorem dX11_goesTo_191 : decode cX11_goesTo 191 = .ok (.iadd, 1) := by decide +kernel
theorem dX11_goesTo_192 : decode cX11_goesTo 192 = .ok (.iconst 1, 1) := by decide +kernel
theorem dX11_goesTo_193 : decode cX11_goesTo 193 = .ok (.iastore, 1) := by decide +kernel
theorem dX11_goesTo_194 : decode cX11_goesTo 194 = .ok (.aload_n 0, 1) := by decide +kernel
theorem dX11_goesTo_195 : decode cX11_goesTo 195 = .ok (.getfield 69, 3) := by decide +kernel
theorem dX11_goesTo_198 : decode cX11_goesTo 198 = .ok (.iload_n 3, 1) := by decide +kernel
theorem dX11_goesTo_199 : decode cX11_goesTo 199 = .ok (.iconst 4, 1) := by decide +kernel
theorem dX11_goesTo_200 : decode cX11_goesTo 200 = .ok (.iadd, 1) := by decide +kernel
theorem dX11_goesTo_201 : decode cX11_goesTo 201 = .ok (.dup2, 1) := by decide +kernel
theorem dX11_goesTo_202 : decode cX11_goesTo 202 = .ok (.iaload, 1) := by decide +kernel
theorem dX11_goesTo_203 : decode cX11_goesTo 203 = .ok (.iconst 1, 1) := by decide +kernel
theorem dX11_goesTo_204 : decode cX11_goesTo 204 = .ok (.iadd, 1) := by decide +kernel
theorem dX11_goesTo_205 : decode cX11_goesTo 205 = .ok (.iastore, 1) := by decide +kernel
theorem dX11_goesTo_206 : decode cX11_goesTo 206 = .ok (.return_, 1) := by decide +kernel
set_option maxRecDepth 10000 in
theorem vX11_goesTo_0 {κ : eg_K} {d : Nat} (hd : 2 ≤ d) {post : eg_H → Prop} (M : eg_H) (l1 : Int32) (l2 : Int32) (h : (∀ x2 : Int32, x2 = (fX11_at M l1) → (vp_in ((360 : Int32) + l2) 366 ∧ (∀ x4 : Int32, x4 = (M.1 (110, 0) ((360 : Int32) + l2).toNatClampNeg) → (vp_in (x2 + (1 : Int32)) 366 ∧ (∀ M6 : eg_H, M6 = (sI M (110, 0) (x2 + (1 : Int32)).toNatClampNeg l2) → (vp_in (x2 + (10 : Int32)) 366 ∧ (∀ M8 : eg_H, M8 = (sI M6 (110, 0) (x2 + (10 : Int32)).toNatClampNeg (0 : Int32)) → (gX11_hasPan M8 x4 ∧ (∀ x11 : Int32, x11 = (fX11_hasPan M8 x4) → (x11 = 0 → eg_W κ gM mtX11_goesTo d (eQV κ gM post) 85 [(0, vR (60, 0)), (1, vI l1), (2, vI l2), (3, vI x2), (4, vI x4)] [] M8) ∧ ((¬ x11 = 0) → (∀ x14 : Int32, x14 = (fX11_pan M8 x4) → (vp_in x14 366 ∧ ((¬ (M8.1 (110, 0) x14.toNatClampNeg) = 0) → eg_W κ gM mtX11_goesTo d (eQV κ gM post) 85 [(0, vR (60, 0)), (1, vI l1), (2, vI l2), (3, vI x2), (4, vI x4)] [] M8) ∧ ((M8.1 (110, 0) x14.toNatClampNeg) = 0 → (vp_in ((x2 + (14 : Int32)) + x4) 366 ∧ (∀ M18 : eg_H, M18 = (sI M8 (110, 0) ((x2 + (14 : Int32)) + x4).toNatClampNeg (0 : Int32)) → (vp_in (x2 + (8 : Int32)) 366 ∧ (∀ M20 : eg_H, M20 = (sI M18 (110, 0) (x2 + (8 : Int32)).toNatClampNeg ((M18.1 (110, 0) (x2 + (8 : Int32)).toNatClampNeg) + (1 : Int32))) → post M20)))))))))))))))))) : eg_W κ gM mtX11_goesTo d (eQV κ gM post) 0 [(0, vR (60, 0)), (1, vI l1), (2, vI l2)] [] M := by
  refine eg_iload_n 1 dX11_goesTo_0 rfl rfl ?_
  refine eg_callSI (av := [vI l1]) (st := []) dX11_goesTo_1 ml_11_372 rfl rfl (Nat.le_of_ble_eq_true rfl) (eg_dd (by omega)) (sX11_at (by omega) M l1  ) (fun x2 M1 hp => ?_)
  obtain ⟨ex2, eM1⟩ := hp
  rw [eM1]
  have h := h x2 ex2
  refine eg_istore_n dX11_goesTo_4 rfl (by decide) (ls1 := [(3, vI x2), (0, vR (60, 0)), (1, vI l1), (2, vI l2)]) rfl ?_
  refine eg_aload_n 1 dX11_goesTo_5 rfl rfl ?_
  refine eg_getR dX11_goesTo_6 fl_11_69 rfl rfl (obM_60 z1) ?_
  show eg_W κ gM mtX11_goesTo d (eQV κ gM post) 9 [(3, vI x2), (0, vR (60, 0)), (1, vI l1), (2, vI l2)] [vR (110, 0)] M
  refine eg_sipush dX11_goesTo_9 sp_360 ?_
  refine eg_iload_n 3 dX11_goesTo_12 rfl rfl ?_
  refine eg_iadd dX11_goesTo_13 ?_
  obtain ⟨g3, h⟩ := h
  refine eg_iaload dX11_goesTo_14 (arM_110 z1 g3) ?_
  refine en_istore (f := fun x4 => [(4, vI x4), (3, vI x2), (0, vR (60, 0)), (1, vI l1), (2, vI l2)]) dX11_goesTo_15 (by decide) rfl (fun x4 ex4 => ?_)
  have h := h x4 ex4
  refine eg_aload_n 2 dX11_goesTo_17 rfl rfl ?_
  refine eg_getR dX11_goesTo_18 fl_11_69 rfl rfl (obM_60 z1) ?_
  show eg_W κ gM mtX11_goesTo d (eQV κ gM post) 21 [(4, vI x4), (3, vI x2), (0, vR (60, 0)), (1, vI l1), (2, vI l2)] [vR (110, 0)] M
  refine eg_iload_n 1 dX11_goesTo_21 rfl rfl ?_
  refine eg_iconst dX11_goesTo_22 ic_1 ?_
  refine eg_iadd dX11_goesTo_23 ?_
  refine eg_iload_n 4 dX11_goesTo_24 rfl rfl ?_
  obtain ⟨g5, h⟩ := h
  refine en_iastore dX11_goesTo_25 (arM_110 z1 g5) (fun M6 eM6 => ?_)
  have h := h M6 eM6
  refine eg_aload_n 2 dX11_goesTo_26 rfl rfl ?_
  refine eg_getR dX11_goesTo_27 fl_11_69 rfl rfl (obM_60 z1) ?_
  show eg_W κ gM mtX11_goesTo d (eQV κ gM post) 30 [(4, vI x4), (3, vI x2), (0, vR (60, 0)), (1, vI l1), (2, vI l2)] [vR (110, 0)] M6
  refine eg_iload_n 1 dX11_goesTo_30 rfl rfl ?_
  refine eg_bipush dX11_goesTo_31 bp_10 ?_
  refine eg_iadd dX11_goesTo_33 ?_
  refine eg_iconst dX11_goesTo_34 ic_0 ?_
  obtain ⟨g7, h⟩ := h
  refine en_iastore dX11_goesTo_35 (arM_110 z1 g7) (fun M8 eM8 => ?_)
  have h := h M8 eM8
  refine eg_aload_n 2 dX11_goesTo_36 rfl rfl ?_
  refine eg_iload 0 dX11_goesTo_37 rfl ?_
  obtain ⟨g9, h⟩ := h
  refine eg_callVI (av := [vI x4]) (st := []) dX11_goesTo_39 ml_11_415 rfl rfl (obM_60 z1) (by decide) rfl (Nat.le_of_ble_eq_true rfl) (eg_dd (by omega)) (sX11_hasPan (by omega) M8 x4  g9) (fun x11 M10 hp => ?_)
  obtain ⟨ex11, eM10⟩ := hp
  rw [eM10]
  have h := h x11 ex11
  refine eg_if_eq (tgt := 85) dX11_goesTo_42 rfl (fun c12 => ?_) (fun c12 => ?_)
  · have h := h.1 c12
    refine eg_sub [2, 3, 4, 1, 0] rfl ?_
    exact h
  · have h := h.2 c12
    refine eg_aload_n 2 dX11_goesTo_45 rfl rfl ?_
    refine eg_getR dX11_goesTo_46 fl_11_69 rfl rfl (obM_60 z1) ?_
    show eg_W κ gM mtX11_goesTo d (eQV κ gM post) 49 [(4, vI x4), (3, vI x2), (0, vR (60, 0)), (1, vI l1), (2, vI l2)] [vR (110, 0)] M8
    refine eg_iload 0 dX11_goesTo_49 rfl ?_
    refine eg_callSI (av := [vI x4]) (st := [vR (110, 0)]) dX11_goesTo_51 ml_11_377 rfl rfl (Nat.le_of_ble_eq_true rfl) (eg_dd (by omega)) (sX11_pan (by omega) M8 x4  ) (fun x14 M13 hp => ?_)
    obtain ⟨ex14, eM13⟩ := hp
    rw [eM13]
    have h := h x14 ex14
    obtain ⟨g15, h⟩ := h
    refine eg_iaload dX11_goesTo_54 (arM_110 z1 g15) ?_
    refine eg_if_ne (tgt := 85) dX11_goesTo_55 rfl (fun c16 => ?_) (fun c16 => ?_)
    · have h := h.1 c16
      refine eg_sub [2, 3, 4, 1, 0] rfl ?_
      exact h
    · have h := h.2 c16
      refine eg_aload_n 2 dX11_goesTo_58 rfl rfl ?_
      refine eg_getR dX11_goesTo_59 fl_11_69 rfl rfl (obM_60 z1) ?_
      show eg_W κ gM mtX11_goesTo d (eQV κ gM post) 62 [(4, vI x4), (3, vI x2), (0, vR (60, 0)), (1, vI l1), (2, vI l2)] [vR (110, 0)] M8
      refine eg_iload_n 1 dX11_goesTo_62 rfl rfl ?_
      refine eg_bipush dX11_goesTo_63 bp_14 ?_
      refine eg_iadd dX11_goesTo_65 ?_
      refine eg_iload 0 dX11_goesTo_66 rfl ?_
      refine eg_iadd dX11_goesTo_68 ?_
      refine eg_iconst dX11_goesTo_69 ic_0 ?_
      obtain ⟨g17, h⟩ := h
      refine en_iastore dX11_goesTo_70 (arM_110 z1 g17) (fun M18 eM18 => ?_)
      have h := h M18 eM18
      refine eg_aload_n 2 dX11_goesTo_71 rfl rfl ?_
      refine eg_getR dX11_goesTo_72 fl_11_69 rfl rfl (obM_60 z1) ?_
      show eg_W κ gM mtX11_goesTo d (eQV κ gM post) 75 [(4, vI x4), (3, vI x2), (0, vR (60, 0)), (1, vI l1), (2, vI l2)] [vR (110, 0)] M18
      refine eg_iload_n 1 dX11_goesTo_75 rfl rfl ?_
      refine eg_bipush dX11_goesTo_76 bp_8 ?_
      refine eg_iadd dX11_goesTo_78 ?_
      refine eg_dup2 dX11_goesTo_79 rfl rfl ?_
      obtain ⟨g19, h⟩ := h
      refine eg_iaload dX11_goesTo_80 (arM_110 z1 g19) ?_
      refine eg_iconst dX11_goesTo_81 ic_1 ?_
      refine eg_iadd dX11_goesTo_82 ?_
      refine en_iastore dX11_goesTo_83 (arM_110 z1 g19) (fun M20 eM20 => ?_)
      have h := h M20 eM20
      exact eg_vreturn dX11_goesTo_84 rfl h
set_option maxRecDepth 10000 in
theorem vX11_goesTo_85 {κ : eg_K} {d : Nat} (hd : 2 ≤ d) {post : eg_H → Prop} (M : eg_H) (l1 : Int32) (l2 : Int32) (l3 : Int32) (l4 : Int32) (h : (gX11_takersAt M l2 ∧ (∀ x3 : Int32, x3 = (fX11_takersAt M l2) → ((¬ l4 = (M.1 (60, 0) 53)) → (gX11_has M l4 (1 : Int32) ∧ (∀ x7 : Int32, x7 = (fX11_has M l4 (1 : Int32)) → eg_W κ gM mtX11_goesTo d (eQV κ gM post) 113 [(0, vR (60, 0)), (1, vI l1), (3, vI l3), (4, vI l4)] [vI x7, vI x3] M))) ∧ (l4 = (M.1 (60, 0) 53) → eg_W κ gM mtX11_goesTo d (eQV κ gM post) 113 [(0, vR (60, 0)), (1, vI l1), (3, vI l3), (4, vI l4)] [vI (M.1 (60, 0) 54), vI x3] M)))) : eg_W κ gM mtX11_goesTo d (eQV κ gM post) 85 [(0, vR (60, 0)), (1, vI l1), (2, vI l2), (3, vI l3), (4, vI l4)] [] M := by
  refine eg_aload_n 0 dX11_goesTo_85 rfl rfl ?_
  refine eg_iload_n 2 dX11_goesTo_86 rfl rfl ?_
  obtain ⟨g1, h⟩ := h
  refine eg_callVI (av := [vI l2]) (st := []) dX11_goesTo_87 ml_11_438 rfl rfl (obM_60 z1) (by decide) rfl (Nat.le_of_ble_eq_true rfl) (eg_dd (by omega)) (sX11_takersAt (by omega) M l2  g1) (fun x3 M2 hp => ?_)
  obtain ⟨ex3, eM2⟩ := hp
  rw [eM2]
  have h := h x3 ex3
  refine eg_iload 4 dX11_goesTo_90 rfl ?_
  refine eg_aload_n 0 dX11_goesTo_92 rfl rfl ?_
  refine eg_getI dX11_goesTo_93 fl_11_342 rfl trivial (obM_60 z1) ?_
  refine eg_icmp_ne (tgt := 106) dX11_goesTo_96 rfl (fun c4 => ?_) (fun c4 => ?_)
  · have h := h.1 c4
    refine eg_aload_n 0 dX11_goesTo_106 rfl rfl ?_
    refine eg_iload 4 dX11_goesTo_107 rfl ?_
    refine eg_iconst dX11_goesTo_109 ic_1 ?_
    obtain ⟨g5, h⟩ := h
    refine eg_callVI (av := [vI l4, vI (1 : Int32)]) (st := [vI x3]) dX11_goesTo_110 ml_11_366 rfl rfl (obM_60 z1) (by decide) rfl (Nat.le_of_ble_eq_true rfl) (eg_dd (by omega)) (sX11_has (by omega) M l4 (1 : Int32)  g5) (fun x7 M6 hp => ?_)
    obtain ⟨ex7, eM6⟩ := hp
    rw [eM6]
    have h := h x7 ex7
    refine eg_sub [0, 1, 3, 4] rfl ?_
    exact h
  · have h := h.2 c4
    refine eg_aload_n 0 dX11_goesTo_99 rfl rfl ?_
    refine eg_getI dX11_goesTo_100 fl_11_441 rfl trivial (obM_60 z1) ?_
    refine eg_goto (tgt := 113) dX11_goesTo_103 rfl ?_
    refine eg_sub [0, 1, 3, 4] rfl ?_
    exact h
set_option maxRecDepth 10000 in
theorem vX11_goesTo_113 {κ : eg_K} {d : Nat} (hd : 4 ≤ d) {post : eg_H → Prop} (M : eg_H) (l1 : Int32) (l3 : Int32) (l4 : Int32) (s0 : Int32) (s1 : Int32) (h : (s0 ≤ s1 → (gX11_layNamesAt M l1 l4 ∧ (∀ M3 : eg_H, M3 = (fX11_layNamesAt M l1 l4) → eCL κ gM mtX11_lawOf d [vR (60, 0), vI (1 : Int32), vL (0 : Int64)] M3 (fun x5 M6 => ((lg_cmp x5 (0 : Int64)) = 0 → (vp_in (l3 + (10 : Int32)) 366 ∧ (∀ M10 : eg_H, M10 = (sI M6 (110, 0) (l3 + (10 : Int32)).toNatClampNeg (1 : Int32)) → (vp_in (l3 + (4 : Int32)) 366 ∧ (∀ M12 : eg_H, M12 = (sI M10 (110, 0) (l3 + (4 : Int32)).toNatClampNeg ((M10.1 (110, 0) (l3 + (4 : Int32)).toNatClampNeg) + (1 : Int32))) → post M12))))) ∧ ((¬ (lg_cmp x5 (0 : Int64)) = 0) → (vp_in ((l3 + (14 : Int32)) + l4) 366 ∧ (∀ M14 : eg_H, M14 = (sI M6 (110, 0) ((l3 + (14 : Int32)) + l4).toNatClampNeg (0 : Int32)) → (vp_in (l3 + (8 : Int32)) 366 ∧ (∀ M16 : eg_H, M16 = (sI M14 (110, 0) (l3 + (8 : Int32)).toNatClampNeg ((M14.1 (110, 0) (l3 + (8 : Int32)).toNatClampNeg) + (1 : Int32))) → post M16))))))))) ∧ ((¬ s0 ≤ s1) → eCV κ gM mtX11_heaps d [vR (60, 0), vI l1, vI l4] M (fun M17 => (gX11_has M17 l4 (0 : Int32) ∧ (∀ x21 : Int32, x21 = (fX11_has M17 l4 (0 : Int32)) → (vp_in (l3 + (3 : Int32)) 366 ∧ (∀ M23 : eg_H, M23 = (sI M17 (110, 0) (l3 + (3 : Int32)).toNatClampNeg x21) → post M23))))))) : eg_W κ gM mtX11_goesTo d (eQV κ gM post) 113 [(0, vR (60, 0)), (1, vI l1), (3, vI l3), (4, vI l4)] [vI s0, vI s1] M := by
  refine eg_icmp_ge (tgt := 139) dX11_goesTo_113 rfl (fun c1 => ?_) (fun c1 => ?_)
  · have h := h.1 c1
    refine eg_aload_n 0 dX11_goesTo_139 rfl rfl ?_
    refine eg_iload_n 1 dX11_goesTo_140 rfl rfl ?_
    refine eg_iload 3 dX11_goesTo_141 rfl ?_
    obtain ⟨g2, h⟩ := h
    refine eg_callVV (av := [vI l1, vI l4]) (st := []) dX11_goesTo_143 ml_11_434 rfl rfl (obM_60 z1) (by decide) rfl (Nat.le_of_ble_eq_true rfl) (eg_dd (by omega)) (sX11_layNamesAt (by omega) M l1 l4  g2) (fun M3 eM3 => ?_)
    have h := h M3 eM3
    refine eg_aload_n 0 dX11_goesTo_146 rfl rfl ?_
    refine eg_iconst dX11_goesTo_147 ic_1 ?_
    refine eg_lconst dX11_goesTo_148 lc_0 ?_
    obtain ⟨q7, hq7, h⟩ := h
    refine eg_callVL (av := [vI (1 : Int32), vL (0 : Int64)]) (st := []) dX11_goesTo_149 ml_11_427 rfl rfl (obM_60 z1) (by decide) rfl (Nat.le_of_ble_eq_true rfl) (eg_dd (by omega)) hq7 (fun x5 M6 hp => ?_)
    have h := h x5 M6 hp
    refine eg_lconst dX11_goesTo_152 lc_0 ?_
    refine eg_lcmp dX11_goesTo_153 ?_
    refine eg_if_eq (tgt := 184) dX11_goesTo_154 rfl (fun c8 => ?_) (fun c8 => ?_)
    · have h := h.1 c8
      refine eg_aload_n 0 dX11_goesTo_184 rfl rfl ?_
      refine eg_getR dX11_goesTo_185 fl_11_69 rfl rfl (obM_60 z1) ?_
      show eg_W κ gM mtX11_goesTo d (eQV κ gM post) 188 [(0, vR (60, 0)), (1, vI l1), (3, vI l3), (4, vI l4)] [vR (110, 0)] M6
      refine eg_iload_n 2 dX11_goesTo_188 rfl rfl ?_
      refine eg_bipush dX11_goesTo_189 bp_10 ?_
      refine eg_iadd dX11_goesTo_191 ?_
      refine eg_iconst dX11_goesTo_192 ic_1 ?_
      obtain ⟨g9, h⟩ := h
      refine en_iastore dX11_goesTo_193 (arM_110 z1 g9) (fun M10 eM10 => ?_)
      have h := h M10 eM10
      refine eg_aload_n 0 dX11_goesTo_194 rfl rfl ?_
      refine eg_getR dX11_goesTo_195 fl_11_69 rfl rfl (obM_60 z1) ?_
      show eg_W κ gM mtX11_goesTo d (eQV κ gM post) 198 [(0, vR (60, 0)), (1, vI l1), (3, vI l3), (4, vI l4)] [vR (110, 0)] M10
      refine eg_iload_n 2 dX11_goesTo_198 rfl rfl ?_
      refine eg_iconst dX11_goesTo_199 ic_4 ?_
      refine eg_iadd dX11_goesTo_200 ?_
      refine eg_dup2 dX11_goesTo_201 rfl rfl ?_
      obtain ⟨g11, h⟩ := h
      refine eg_iaload dX11_goesTo_202 (arM_110 z1 g11) ?_
      refine eg_iconst dX11_goesTo_203 ic_1 ?_
      refine eg_iadd dX11_goesTo_204 ?_
      refine en_iastore dX11_goesTo_205 (arM_110 z1 g11) (fun M12 eM12 => ?_)
      have h := h M12 eM12
      exact eg_vreturn dX11_goesTo_206 rfl h
    · have h := h.2 c8
      refine eg_aload_n 0 dX11_goesTo_157 rfl rfl ?_
      refine eg_getR dX11_goesTo_158 fl_11_69 rfl rfl (obM_60 z1) ?_
      show eg_W κ gM mtX11_goesTo d (eQV κ gM post) 161 [(0, vR (60, 0)), (1, vI l1), (3, vI l3), (4, vI l4)] [vR (110, 0)] M6
      refine eg_iload_n 2 dX11_goesTo_161 rfl rfl ?_
      refine eg_bipush dX11_goesTo_162 bp_14 ?_
      refine eg_iadd dX11_goesTo_164 ?_
      refine eg_iload 3 dX11_goesTo_165 rfl ?_
      refine eg_iadd dX11_goesTo_167 ?_
      refine eg_iconst dX11_goesTo_168 ic_0 ?_
      obtain ⟨g13, h⟩ := h
      refine en_iastore dX11_goesTo_169 (arM_110 z1 g13) (fun M14 eM14 => ?_)
      have h := h M14 eM14
      refine eg_aload_n 0 dX11_goesTo_170 rfl rfl ?_
      refine eg_getR dX11_goesTo_171 fl_11_69 rfl rfl (obM_60 z1) ?_
      show eg_W κ gM mtX11_goesTo d (eQV κ gM post) 174 [(0, vR (60, 0)), (1, vI l1), (3, vI l3), (4, vI l4)] [vR (110, 0)] M14
      refine eg_iload_n 2 dX11_goesTo_174 rfl rfl ?_
      refine eg_bipush dX11_goesTo_175 bp_8 ?_
      refine eg_iadd dX11_goesTo_177 ?_
      refine eg_dup2 dX11_goesTo_178 rfl rfl ?_
      obtain ⟨g15, h⟩ := h
      refine eg_iaload dX11_goesTo_179 (arM_110 z1 g15) ?_
      refine eg_iconst dX11_goesTo_180 ic_1 ?_
      refine eg_iadd dX11_goesTo_181 ?_
      refine en_iastore dX11_goesTo_182 (arM_110 z1 g15) (fun M16 eM16 => ?_)
      have h := h M16 eM16
      exact eg_vreturn dX11_goesTo_183 rfl h
  · have h := h.2 c1
    refine eg_aload_n 0 dX11_goesTo_116 rfl rfl ?_
    refine eg_iload_n 1 dX11_goesTo_117 rfl rfl ?_
    refine eg_iload 3 dX11_goesTo_118 rfl ?_
    obtain ⟨q18, hq18, h⟩ := h
    refine eg_callVV (av := [vI l1, vI l4]) (st := []) dX11_goesTo_120 ml_11_444 rfl rfl (obM_60 z1) (by decide) rfl (Nat.le_of_ble_eq_true rfl) (eg_dd (by omega)) hq18 (fun M17 hp => ?_)
    have h := h M17 hp
    refine eg_aload_n 0 dX11_goesTo_123 rfl rfl ?_
    refine eg_getR dX11_goesTo_124 fl_11_69 rfl rfl (obM_60 z1) ?_
    show eg_W κ gM mtX11_goesTo d (eQV κ gM post) 127 [(0, vR (60, 0)), (1, vI l1), (3, vI l3), (4, vI l4)] [vR (110, 0)] M17
    refine eg_iload_n 2 dX11_goesTo_127 rfl rfl ?_
    refine eg_iconst dX11_goesTo_128 ic_3 ?_
    refine eg_iadd dX11_goesTo_129 ?_
    refine eg_aload_n 0 dX11_goesTo_130 rfl rfl ?_
    refine eg_iload 3 dX11_goesTo_131 rfl ?_
    refine eg_iconst dX11_goesTo_133 ic_0 ?_
    obtain ⟨g19, h⟩ := h
    refine eg_callVI (av := [vI l4, vI (0 : Int32)]) (st := [vI (l3 + (3 : Int32)), vR (110, 0)]) dX11_goesTo_134 ml_11_366 rfl rfl (obM_60 z1) (by decide) rfl (Nat.le_of_ble_eq_true rfl) (eg_dd (by omega)) (sX11_has (by omega) M17 l4 (0 : Int32)  g19) (fun x21 M20 hp => ?_)
    obtain ⟨ex21, eM20⟩ := hp
    rw [eM20]
    have h := h x21 ex21
    obtain ⟨g22, h⟩ := h
    refine en_iastore dX11_goesTo_137 (arM_110 z1 g22) (fun M23 eM23 => ?_)
    have h := h M23 eM23
    exact eg_vreturn dX11_goesTo_138 rfl h
theorem dX11_goes_0 : decode cX11_goes 0 = .ok (.aload_n 0, 1) := by decide +kernel
theorem dX11_goes_1 : decode cX11_goes 1 = .ok (.getfield 69, 3) := by decide +kernel
theorem dX11_goes_4 : decode cX11_goes 4 = .ok (.iconst 2, 1) := by decide +kernel
theorem dX11_goes_5 : decode cX11_goes 5 = .ok (.iload_n 1, 1) := by decide +kernel
theorem dX11_goes_6 : decode cX11_goes 6 = .ok (.iadd, 1) := by decide +kernel
theorem dX11_goes_7 : decode cX11_goes 7 = .ok (.iaload, 1) := by decide +kernel
theorem dX11_goes_8 : decode cX11_goes 8 = .ok (.istore_n 2, 1) := by decide +kernel
theorem dX11_goes_9 : decode cX11_goes 9 = .ok (.iload_n 2, 1) := by decide +kernel
theorem dX11_goes_10 : decode cX11_goes 10 = .ok (.invokestatic 372, 3) := by decide +kernel
theorem dX11_goes_13 : decode cX11_goes 13 = .ok (.istore_n 3, 1) := by decide +kernel
theorem dX11_goes_14 : decode cX11_goes 14 = .ok (.aload_n 0, 1) := by decide +kernel
theorem dX11_goes_15 : decode cX11_goes 15 = .ok (.iload_n 2, 1) := by decide +kernel
theorem dX11_goes_16 : decode cX11_goes 16 = .ok (.invokevirtual 447, 3) := by decide +kernel
theorem dX11_goes_19 : decode cX11_goes 19 = .ok (.istore 4, 2) := by decide +kernel
theorem dX11_goes_21 : decode cX11_goes 21 = .ok (.iload_n 1, 1) := by decide +kernel
theorem dX11_goes_22 : decode cX11_goes 22 = .ok (.ifCond .le 24, 3) := by decide +kernel
theorem dX11_goes_25 : decode cX11_goes 25 = .ok (.aload_n 0, 1) := by decide +kernel
theorem dX11_goes_26 : decode cX11_goes 26 = .ok (.getfield 69, 3) := by decide +kernel
theorem dX11_goes_29 : decode cX11_goes 29 = .ok (.aload_n 0, 1) := by decide +kernel
theorem dX11_goes_30 : decode cX11_goes 30 = .ok (.getfield 69, 3) := by decide +kernel
theorem dX11_goes_33 : decode cX11_goes 33 = .ok (.iconst 1, 1) := by decide +kernel
theorem dX11_goes_34 : decode cX11_goes 34 = .ok (.iload_n 1, 1) := by decide +kernel
theorem dX11_goes_35 : decode cX11_goes 35 = .ok (.iadd, 1) := by decide +kernel
theorem dX11_goes_36 : decode cX11_goes 36 = .ok (.iaload, 1) := by decide +kernel
theorem dX11_goes_37 : decode cX11_goes 37 = .ok (.invokestatic 372, 3) := by decide +kernel
theorem dX11_goes_40 : decode cX11_goes 40 = .ok (.iconst 1, 1) := by decide +kernel
theorem dX11_goes_41 : decode cX11_goes 41 = .ok (.iadd, 1) := by decide +kernel
theorem dX11_goes_42 : decode cX11_goes 42 = .ok (.iaload, 1) := by decide +kernel
theorem dX11_goes_43 : decode cX11_goes 43 = .ok (.goto 4, 3) := by decide +kernel
theorem dX11_goes_46 : decode cX11_goes 46 = .ok (.iconst (-1), 1) := by decide +kernel
theorem dX11_goes_47 : decode cX11_goes 47 = .ok (.istore 5, 2) := by decide +kernel
theorem dX11_goes_49 : decode cX11_goes 49 = .ok (.aload_n 0, 1) := by decide +kernel
theorem dX11_goes_50 : decode cX11_goes 50 = .ok (.getfield 354, 3) := by decide +kernel
theorem dX11_goes_53 : decode cX11_goes 53 = .ok (.ifCond .ne 67, 3) := by decide +kernel
theorem dX11_goes_56 : decode cX11_goes 56 = .ok (.iload_n 1, 1) := by decide +kernel
theorem dX11_goes_57 : decode cX11_goes 57 = .ok (.ifCond .le 63, 3) := by decide +kernel
theorem dX11_goes_60 : decode cX11_goes 60 = .ok (.iload 4, 2) := by decide +kernel
theorem dX11_goes_62 : decode cX11_goes 62 = .ok (.ifCond .lt 10, 3) := by decide +kernel
theorem dX11_goes_65 : decode cX11_goes 65 = .ok (.iload 5, 2) := by decide +kernel
theorem dX11_goes_67 : decode cX11_goes 67 = .ok (.iload 4, 2) := by decide +kernel
theorem dX11_goes_69 : decode cX11_goes 69 = .ok (.if_icmp .ge 51, 3) := by decide +kernel
theorem dX11_goes_72 : decode cX11_goes 72 = .ok (.aload_n 0, 1) := by decide +kernel
theorem dX11_goes_73 : decode cX11_goes 73 = .ok (.getfield 69, 3) := by decide +kernel
theorem dX11_goes_76 : decode cX11_goes 76 = .ok (.iload_n 3, 1) := by decide +kernel
theorem dX11_goes_77 : decode cX11_goes 77 = .ok (.iconst 1, 1) := by decide +kernel
theorem dX11_goes_78 : decode cX11_goes 78 = .ok (.iadd, 1) := by decide +kernel
theorem dX11_goes_79 : decode cX11_goes 79 = .ok (.iload 5, 2) := by decide +kernel
theorem dX11_goes_81 : decode cX11_goes 81 = .ok (.aload_n 0, 1) := by decide +kernel
theorem dX11_goes_82 : decode cX11_goes 82 = .ok (.getfield 69, 3) := by decide +kernel
theorem dX11_goes_85 : decode cX11_goes 85 = .ok (.iload_n 3, 1) := by decide +kernel
theorem dX11_goes_86 : decode cX11_goes 86 = .ok (.iconst 1, 1) := by decide +kernel
theorem dX11_goes_87 : decode cX11_goes 87 = .ok (.iadd, 1) := by decide +kernel
theorem dX11_goes_88 : decode cX11_goes 88 = .ok (.iaload, 1) := by decide +kernel
theorem dX11_goes_89 : decode cX11_goes 89 = .ok (.if_icmp .le 8, 3) := by decide +kernel
theorem dX11_goes_92 : decode cX11_goes 92 = .ok (.iload 5, 2) := by decide +kernel
theorem dX11_goes_94 : decode cX11_goes 94 = .ok (.goto 11, 3) := by decide +kernel
theorem dX11_goes_97 : decode cX11_goes 97 = .ok (.aload_n 0, 1) := by decide +kernel
theorem dX11_goes_98 : decode cX11_goes 98 = .ok (.getfield 69, 3) := by decide +kernel
theorem dX11_goes_101 : decode cX11_goes 101 = .ok (.iload_n 3, 1) := by decide +kernel
theorem dX11_goes_102 : decode cX11_goes 102 = .ok (.iconst 1, 1) := by decide +kernel
theorem dX11_goes_103 : decode cX11_goes 103 = .ok (.iadd, 1) := by decide +kernel
theorem dX11_goes_104 : decode cX11_goes 104 = .ok (.iaload, 1) := by decide +kernel
theorem dX11_goes_105 : decode cX11_goes 105 = .ok (.iastore, 1) := by decide +kernel
theorem dX11_goes_106 : decode cX11_goes 106 = .ok (.aload_n 0, 1) := by decide +kernel
theorem dX11_goes_107 : decode cX11_goes 107 = .ok (.getfield 69, 3) := by decide +kernel
theorem dX11_goes_110 : decode cX11_goes 110 = .ok (.iload_n 3, 1) := by decide +kernel
theorem dX11_goes_111 : decode cX11_goes 111 = .ok (.iconst 4, 1) := by decide +kernel
theorem dX11_goes_112 : decode cX11_goes 112 = .ok (.iadd, 1) := by decide +kernel
theorem dX11_goes_113 : decode cX11_goes 113 = .ok (.dup2, 1) := by decide +kernel
theorem dX11_goes_114 : decode cX11_goes 114 = .ok (.iaload, 1) := by decide +kernel
theorem dX11_goes_115 : decode cX11_goes 115 = .ok (.iconst 1, 1) := by decide +kernel
theorem dX11_goes_116 : decode cX11_goes 116 = .ok (.iadd, 1) := by decide +kernel
theorem dX11_goes_117 : decode cX11_goes 117 = .ok (.iastore, 1) := by decide +kernel
theorem dX11_goes_118 : decode cX11_goes 118 = .ok (.iconst 0, 1) := by decide +kernel
theorem dX11_goes_119 : decode cX11_goes 119 = .ok (.ireturn, 1) := by decide +kernel
theorem dX11_goes_120 : decode cX11_goes 120 = .ok (.iload 4, 2) := by decide +kernel
theorem dX11_goes_122 : decode cX11_goes 122 = .ok (.ifCond .ge 10, 3) := by decide +kernel
theorem dX11_goes_125 : decode cX11_goes 125 = .ok (.aload_n 0, 1) := by decide +kernel
theorem dX11_goes_126 : decode cX11_goes 126 = .ok (.iload_n 1, 1) := by decide +kernel
theorem dX11_goes_127 : decode cX11_goes 127 = .ok (.invokevirtual 450, 3) := by decide +kernel
theorem dX11_goes_130 : decode cX11_goes 130 = .ok (.iconst 1, 1) := by decide +kernel
theorem dX11_goes_131 : decode cX11_goes 131 = .ok (.ireturn, 1) := by decide +kernel
theorem dX11_goes_132 : decode cX11_goes 132 = .ok (.aload_n 0, 1) := by decide +kernel
theorem dX11_goes_133 : decode cX11_goes 133 = .ok (.iload_n 2, 1) := by decide +kernel
theorem dX11_goes_134 : decode cX11_goes 134 = .ok (.iload 4, 2) := by decide +kernel
theorem dX11_goes_136 : decode cX11_goes 136 = .ok (.invokevirtual 453, 3) := by decide +kernel
theorem dX11_goes_139 : decode cX11_goes 139 = .ok (.iconst 0, 1) := by decide +kernel
theorem dX11_goes_140 : decode cX11_goes 140 = .ok (.ireturn, 1) := by decide +kernel
set_option maxRecDepth 10000 in
theorem vX11_goes_0 {κ : eg_K} {d : Nat} (hd : 2 ≤ d) {post : Int32 → eg_H → Prop} (M : eg_H) (l1 : Int32) (h : (vp_in ((2 : Int32) + l1) 366 ∧ (∀ x2 : Int32, x2 = (M.1 (110, 0) ((2 : Int32) + l1).toNatClampNeg) → (∀ x4 : Int32, x4 = (fX11_at M x2) → (gX11_nextOf M x2 ∧ (∀ x7 : Int32, x7 = (fX11_nextOf M x2) → (l1 ≤ 0 → eg_W κ gM mtX11_goes d (eQI κ gM post) 47 [(0, vR (60, 0)), (1, vI l1), (2, vI x2), (3, vI x4), (4, vI x7)] [vI (-1 : Int32)] M) ∧ ((¬ l1 ≤ 0) → (vp_in ((1 : Int32) + l1) 366 ∧ (∀ x11 : Int32, x11 = (fX11_at M (M.1 (110, 0) ((1 : Int32) + l1).toNatClampNeg)) → (vp_in (x11 + (1 : Int32)) 366 ∧ eg_W κ gM mtX11_goes d (eQI κ gM post) 47 [(0, vR (60, 0)), (1, vI l1), (2, vI x2), (3, vI x4), (4, vI x7)] [vI (M.1 (110, 0) (x11 + (1 : Int32)).toNatClampNeg)] M)))))))))) : eg_W κ gM mtX11_goes d (eQI κ gM post) 0 [(0, vR (60, 0)), (1, vI l1)] [] M := by
  refine eg_aload_n 0 dX11_goes_0 rfl rfl ?_
  refine eg_getR dX11_goes_1 fl_11_69 rfl rfl (obM_60 z1) ?_
  show eg_W κ gM mtX11_goes d (eQI κ gM post) 4 [(0, vR (60, 0)), (1, vI l1)] [vR (110, 0)] M
  refine eg_iconst dX11_goes_4 ic_2 ?_
  refine eg_iload_n 1 dX11_goes_5 rfl rfl ?_
  refine eg_iadd dX11_goes_6 ?_
  obtain ⟨g1, h⟩ := h
  refine eg_iaload dX11_goes_7 (arM_110 z1 g1) ?_
  refine en_istore_n (f := fun x2 => [(2, vI x2), (0, vR (60, 0)), (1, vI l1)]) dX11_goes_8 rfl (by decide) rfl (fun x2 ex2 => ?_)
  have h := h x2 ex2
  refine eg_iload_n 0 dX11_goes_9 rfl rfl ?_
  refine eg_callSI (av := [vI x2]) (st := []) dX11_goes_10 ml_11_372 rfl rfl (Nat.le_of_ble_eq_true rfl) (eg_dd (by omega)) (sX11_at (by omega) M x2  ) (fun x4 M3 hp => ?_)
  obtain ⟨ex4, eM3⟩ := hp
  rw [eM3]
  have h := h x4 ex4
  refine eg_istore_n dX11_goes_13 rfl (by decide) (ls1 := [(3, vI x4), (2, vI x2), (0, vR (60, 0)), (1, vI l1)]) rfl ?_
  refine eg_aload_n 2 dX11_goes_14 rfl rfl ?_
  refine eg_iload_n 1 dX11_goes_15 rfl rfl ?_
  obtain ⟨g5, h⟩ := h
  refine eg_callVI (av := [vI x2]) (st := []) dX11_goes_16 ml_11_447 rfl rfl (obM_60 z1) (by decide) rfl (Nat.le_of_ble_eq_true rfl) (eg_dd (by omega)) (sX11_nextOf (by omega) M x2  g5) (fun x7 M6 hp => ?_)
  obtain ⟨ex7, eM6⟩ := hp
  rw [eM6]
  have h := h x7 ex7
  refine eg_istore dX11_goes_19 (by decide) (ls1 := [(4, vI x7), (3, vI x4), (2, vI x2), (0, vR (60, 0)), (1, vI l1)]) rfl ?_
  refine eg_iload_n 4 dX11_goes_21 rfl rfl ?_
  refine eg_if_le (tgt := 46) dX11_goes_22 rfl (fun c8 => ?_) (fun c8 => ?_)
  · have h := h.1 c8
    refine eg_iconst dX11_goes_46 ic_m1 ?_
    refine eg_sub [3, 4, 2, 1, 0] rfl ?_
    exact h
  · have h := h.2 c8
    refine eg_aload_n 3 dX11_goes_25 rfl rfl ?_
    refine eg_getR dX11_goes_26 fl_11_69 rfl rfl (obM_60 z1) ?_
    show eg_W κ gM mtX11_goes d (eQI κ gM post) 29 [(4, vI x7), (3, vI x4), (2, vI x2), (0, vR (60, 0)), (1, vI l1)] [vR (110, 0)] M
    refine eg_aload_n 3 dX11_goes_29 rfl rfl ?_
    refine eg_getR dX11_goes_30 fl_11_69 rfl rfl (obM_60 z1) ?_
    show eg_W κ gM mtX11_goes d (eQI κ gM post) 33 [(4, vI x7), (3, vI x4), (2, vI x2), (0, vR (60, 0)), (1, vI l1)] [vR (110, 0), vR (110, 0)] M
    refine eg_iconst dX11_goes_33 ic_1 ?_
    refine eg_iload_n 4 dX11_goes_34 rfl rfl ?_
    refine eg_iadd dX11_goes_35 ?_
    obtain ⟨g9, h⟩ := h
    refine eg_iaload dX11_goes_36 (arM_110 z1 g9) ?_
    refine eg_callSI (av := [vI (M.1 (110, 0) ((1 : Int32) + l1).toNatClampNeg)]) (st := [vR (110, 0)]) dX11_goes_37 ml_11_372 rfl rfl (Nat.le_of_ble_eq_true rfl) (eg_dd (by omega)) (sX11_at (by omega) M (M.1 (110, 0) ((1 : Int32) + l1).toNatClampNeg)  ) (fun x11 M10 hp => ?_)
    obtain ⟨ex11, eM10⟩ := hp
    rw [eM10]
    have h := h x11 ex11
    refine eg_iconst dX11_goes_40 ic_1 ?_
    refine eg_iadd dX11_goes_41 ?_
    obtain ⟨g12, h⟩ := h
    refine eg_iaload dX11_goes_42 (arM_110 z1 g12) ?_
    refine eg_goto (tgt := 47) dX11_goes_43 rfl ?_
    refine eg_sub [3, 4, 2, 1, 0] rfl ?_
    exact h
set_option maxRecDepth 10000 in
theorem vX11_goes_47 {κ : eg_K} {d : Nat} {post : Int32 → eg_H → Prop} (M : eg_H) (l1 : Int32) (l2 : Int32) (l3 : Int32) (l4 : Int32) (s0 : Int32) (h : ((¬ (M.1 (60, 0) 60) = 0) → eg_W κ gM mtX11_goes d (eQI κ gM post) 120 [(0, vR (60, 0)), (1, vI l1), (2, vI l2), (4, vI l4)] [] M) ∧ ((M.1 (60, 0) 60) = 0 → (l1 ≤ 0 → eg_W κ gM mtX11_goes d (eQI κ gM post) 120 [(0, vR (60, 0)), (1, vI l1), (2, vI l2), (4, vI l4)] [] M) ∧ ((¬ l1 ≤ 0) → (l4 < 0 → eg_W κ gM mtX11_goes d (eQI κ gM post) 72 [(0, vR (60, 0)), (3, vI l3), (5, vI s0)] [] M) ∧ ((¬ l4 < 0) → (l4 ≤ s0 → eg_W κ gM mtX11_goes d (eQI κ gM post) 120 [(0, vR (60, 0)), (1, vI l1), (2, vI l2), (4, vI l4)] [] M) ∧ ((¬ l4 ≤ s0) → eg_W κ gM mtX11_goes d (eQI κ gM post) 72 [(0, vR (60, 0)), (3, vI l3), (5, vI s0)] [] M))))) : eg_W κ gM mtX11_goes d (eQI κ gM post) 47 [(0, vR (60, 0)), (1, vI l1), (2, vI l2), (3, vI l3), (4, vI l4)] [vI s0] M := by
  refine eg_istore dX11_goes_47 (by decide) (ls1 := [(5, vI s0), (0, vR (60, 0)), (1, vI l1), (2, vI l2), (3, vI l3), (4, vI l4)]) rfl ?_
  refine eg_aload_n 1 dX11_goes_49 rfl rfl ?_
  refine eg_getI dX11_goes_50 fl_11_354 rfl trivial (obM_60 z1) ?_
  refine eg_if_ne (tgt := 120) dX11_goes_53 rfl (fun c1 => ?_) (fun c1 => ?_)
  · have h := h.1 c1
    refine eg_sub [1, 2, 3, 5] rfl ?_
    exact h
  · have h := h.2 c1
    refine eg_iload_n 2 dX11_goes_56 rfl rfl ?_
    refine eg_if_le (tgt := 120) dX11_goes_57 rfl (fun c2 => ?_) (fun c2 => ?_)
    · have h := h.1 c2
      refine eg_sub [1, 2, 3, 5] rfl ?_
      exact h
    · have h := h.2 c2
      refine eg_iload 5 dX11_goes_60 rfl ?_
      refine eg_if_lt (tgt := 72) dX11_goes_62 rfl (fun c3 => ?_) (fun c3 => ?_)
      · have h := h.1 c3
        refine eg_sub [1, 4, 0] rfl ?_
        exact h
      · have h := h.2 c3
        refine eg_iload 0 dX11_goes_65 rfl ?_
        refine eg_iload 5 dX11_goes_67 rfl ?_
        refine eg_icmp_ge (tgt := 120) dX11_goes_69 rfl (fun c4 => ?_) (fun c4 => ?_)
        · have h := h.1 c4
          refine eg_sub [1, 2, 3, 5] rfl ?_
          exact h
        · have h := h.2 c4
          refine eg_sub [1, 4, 0] rfl ?_
          exact h
set_option maxRecDepth 10000 in
theorem vX11_goes_72 {κ : eg_K} {d : Nat} {post : Int32 → eg_H → Prop} (M : eg_H) (l3 : Int32) (l5 : Int32) (h : (vp_in (l3 + (1 : Int32)) 366 ∧ (∀ x2 : Int32, x2 = ((if l5 ≤ (M.1 (110, 0) (l3 + (1 : Int32)).toNatClampNeg) then (M.1 (110, 0) (l3 + (1 : Int32)).toNatClampNeg) else l5)) → (∀ M3 : eg_H, M3 = (sI M (110, 0) (l3 + (1 : Int32)).toNatClampNeg x2) → (vp_in (l3 + (4 : Int32)) 366 ∧ (∀ M5 : eg_H, M5 = (sI M3 (110, 0) (l3 + (4 : Int32)).toNatClampNeg ((M3.1 (110, 0) (l3 + (4 : Int32)).toNatClampNeg) + (1 : Int32))) → post (0 : Int32) M5)))))) : eg_W κ gM mtX11_goes d (eQI κ gM post) 72 [(0, vR (60, 0)), (3, vI l3), (5, vI l5)] [] M := by
  refine eg_aload_n 0 dX11_goes_72 rfl rfl ?_
  refine eg_getR dX11_goes_73 fl_11_69 rfl rfl (obM_60 z1) ?_
  show eg_W κ gM mtX11_goes d (eQI κ gM post) 76 [(0, vR (60, 0)), (3, vI l3), (5, vI l5)] [vR (110, 0)] M
  refine eg_iload_n 1 dX11_goes_76 rfl rfl ?_
  refine eg_iconst dX11_goes_77 ic_1 ?_
  refine eg_iadd dX11_goes_78 ?_
  refine eg_iload 2 dX11_goes_79 rfl ?_
  refine eg_aload_n 0 dX11_goes_81 rfl rfl ?_
  refine eg_getR dX11_goes_82 fl_11_69 rfl rfl (obM_60 z1) ?_
  show eg_W κ gM mtX11_goes d (eQI κ gM post) 85 [(0, vR (60, 0)), (3, vI l3), (5, vI l5)] [vR (110, 0), vI l5, vI (l3 + (1 : Int32)), vR (110, 0)] M
  refine eg_iload_n 1 dX11_goes_85 rfl rfl ?_
  refine eg_iconst dX11_goes_86 ic_1 ?_
  refine eg_iadd dX11_goes_87 ?_
  obtain ⟨g1, h⟩ := h
  refine eg_iaload dX11_goes_88 (arM_110 z1 g1) ?_
  have J : ∀ x2 : Int32, x2 = (if l5 ≤ (M.1 (110, 0) (l3 + (1 : Int32)).toNatClampNeg) then (M.1 (110, 0) (l3 + (1 : Int32)).toNatClampNeg) else l5) → eg_W κ gM mtX11_goes d (eQI κ gM post) 105 [(0, vR (60, 0)), (3, vI l3), (5, vI l5)] [vI x2, vI (l3 + (1 : Int32)), vR (110, 0)] M := by
    intro x2 ex2
    have h := h x2 ex2
    refine en_iastore dX11_goes_105 (arM_110 z1 g1) (fun M3 eM3 => ?_)
    have h := h M3 eM3
    refine eg_aload_n 0 dX11_goes_106 rfl rfl ?_
    refine eg_getR dX11_goes_107 fl_11_69 rfl rfl (obM_60 z1) ?_
    show eg_W κ gM mtX11_goes d (eQI κ gM post) 110 [(0, vR (60, 0)), (3, vI l3), (5, vI l5)] [vR (110, 0)] M3
    refine eg_iload_n 1 dX11_goes_110 rfl rfl ?_
    refine eg_iconst dX11_goes_111 ic_4 ?_
    refine eg_iadd dX11_goes_112 ?_
    refine eg_dup2 dX11_goes_113 rfl rfl ?_
    obtain ⟨g4, h⟩ := h
    refine eg_iaload dX11_goes_114 (arM_110 z1 g4) ?_
    refine eg_iconst dX11_goes_115 ic_1 ?_
    refine eg_iadd dX11_goes_116 ?_
    refine en_iastore dX11_goes_117 (arM_110 z1 g4) (fun M5 eM5 => ?_)
    have h := h M5 eM5
    refine eg_iconst dX11_goes_118 ic_0 ?_
    exact eg_zreturn dX11_goes_119 rfl (Or.inl rfl) h
  clear h
  refine eg_icmp_le (tgt := 97) dX11_goes_89 rfl (fun c6 => ?_) (fun c6 => ?_)
  · refine eg_aload_n 0 dX11_goes_97 rfl rfl ?_
    refine eg_getR dX11_goes_98 fl_11_69 rfl rfl (obM_60 z1) ?_
    show eg_W κ gM mtX11_goes d (eQI κ gM post) 101 [(0, vR (60, 0)), (3, vI l3), (5, vI l5)] [vR (110, 0), vI (l3 + (1 : Int32)), vR (110, 0)] M
    refine eg_iload_n 1 dX11_goes_101 rfl rfl ?_
    refine eg_iconst dX11_goes_102 ic_1 ?_
    refine eg_iadd dX11_goes_103 ?_
    refine eg_iaload dX11_goes_104 (arM_110 z1 g1) ?_
    exact J _ (by rw [if_pos c6])
  · refine eg_iload 2 dX11_goes_92 rfl ?_
    refine eg_goto (tgt := 105) dX11_goes_94 rfl ?_
    exact J _ (by rw [if_neg c6])
set_option maxRecDepth 10000 in
theorem vX11_goes_120 {κ : eg_K} {d : Nat} (hd : 1 ≤ d) {post : Int32 → eg_H → Prop} (M : eg_H) (l1 : Int32) (l2 : Int32) (l4 : Int32) (h : (0 ≤ l4 → eCV κ gM mtX11_goesTo d [vR (60, 0), vI l2, vI l4] M (fun M2 => post (0 : Int32) M2)) ∧ ((¬ 0 ≤ l4) → eCV κ gM mtX11_sits d [vR (60, 0), vI l1] M (fun M4 => post (1 : Int32) M4))) : eg_W κ gM mtX11_goes d (eQI κ gM post) 120 [(0, vR (60, 0)), (1, vI l1), (2, vI l2), (4, vI l4)] [] M := by
  refine eg_iload 3 dX11_goes_120 rfl ?_
  refine eg_if_ge (tgt := 132) dX11_goes_122 rfl (fun c1 => ?_) (fun c1 => ?_)
  · have h := h.1 c1
    refine eg_aload_n 0 dX11_goes_132 rfl rfl ?_
    refine eg_iload_n 2 dX11_goes_133 rfl rfl ?_
    refine eg_iload 3 dX11_goes_134 rfl ?_
    obtain ⟨q3, hq3, h⟩ := h
    refine eg_callVV (av := [vI l2, vI l4]) (st := []) dX11_goes_136 ml_11_453 rfl rfl (obM_60 z1) (by decide) rfl (Nat.le_of_ble_eq_true rfl) (eg_dd (by omega)) hq3 (fun M2 hp => ?_)
    have h := h M2 hp
    refine eg_iconst dX11_goes_139 ic_0 ?_
    exact eg_zreturn dX11_goes_140 rfl (Or.inl rfl) h
  · have h := h.2 c1
    refine eg_aload_n 0 dX11_goes_125 rfl rfl ?_
    refine eg_iload_n 1 dX11_goes_126 rfl rfl ?_
    obtain ⟨q5, hq5, h⟩ := h
    refine eg_callVV (av := [vI l1]) (st := []) dX11_goes_127 ml_11_450 rfl rfl (obM_60 z1) (by decide) rfl (Nat.le_of_ble_eq_true rfl) (eg_dd (by omega)) hq5 (fun M4 hp => ?_)
    have h := h M4 hp
    refine eg_iconst dX11_goes_130 ic_1 ?_
    exact eg_zreturn dX11_goes_131 rfl (Or.inr rfl) h
theorem dX11_second_0 : decode cX11_second 0 = .ok (.aload_n 0, 1) := by decide +kernel
theorem dX11_second_1 : decode cX11_second 1 = .ok (.getfield 69, 3) := by decide +kernel
theorem dX11_second_4 : decode cX11_second 4 = .ok (.iconst 0, 1) := by decide +kernel
theorem dX11_second_5 : decode cX11_second 5 = .ok (.iaload, 1) := by decide +kernel
theorem dX11_second_6 : decode cX11_second 6 = .ok (.istore_n 1, 1) := by decide +kernel
theorem dX11_second_7 : decode cX11_second 7 = .ok (.iconst 0, 1) := by decide +kernel
theorem dX11_second_8 : decode cX11_second 8 = .ok (.istore_n 2, 1) := by decide +kernel
theorem dX11_second_9 : decode cX11_second 9 = .ok (.iload_n 2, 1) := by decide +kernel
theorem dX11_second_10 : decode cX11_second 10 = .ok (.aload_n 0, 1) := by decide +kernel
theorem dX11_second_11 : decode cX11_second 11 = .ok (.getfield 209, 3) := by decide +kernel
theorem dX11_second_14 : decode cX11_second 14 = .ok (.if_icmp .ge 85, 3) := by decide +kernel
theorem dX11_second_17 : decode cX11_second 17 = .ok (.iload_n 2, 1) := by decide +kernel
theorem dX11_second_18 : decode cX11_second 18 = .ok (.invokestatic 377, 3) := by decide +kernel
theorem dX11_second_21 : decode cX11_second 21 = .ok (.istore_n 3, 1) := by decide +kernel
theorem dX11_second_22 : decode cX11_second 22 = .ok (.aload_n 0, 1) := by decide +kernel
theorem dX11_second_23 : decode cX11_second 23 = .ok (.getfield 69, 3) := by decide +kernel
theorem dX11_second_26 : decode cX11_second 26 = .ok (.iload_n 3, 1) := by decide +kernel
theorem dX11_second_27 : decode cX11_second 27 = .ok (.iconst 2, 1) := by decide +kernel
theorem dX11_second_28 : decode cX11_second 28 = .ok (.iadd, 1) := by decide +kernel
theorem dX11_second_29 : decode cX11_second 29 = .ok (.iaload, 1) := by decide +kernel
theorem dX11_second_30 : decode cX11_second 30 = .ok (.ifCond .lt 63, 3) := by decide +kernel
theorem dX11_second_33 : decode cX11_second 33 = .ok (.aload_n 0, 1) := by decide +kernel
theorem dX11_second_34 : decode cX11_second 34 = .ok (.getfield 69, 3) := by decide +kernel
theorem dX11_second_37 : decode cX11_second 37 = .ok (.iload_n 3, 1) := by decide +kernel
theorem dX11_second_38 : decode cX11_second 38 = .ok (.iconst 2, 1) := by decide +kernel
theorem dX11_second_39 : decode cX11_second 39 = .ok (.iadd, 1) := by decide +kernel
theorem dX11_second_40 : decode cX11_second 40 = .ok (.iaload, 1) := by decide +kernel
theorem dX11_second_41 : decode cX11_second 41 = .ok (.iload_n 1, 1) := by decide +kernel
theorem dX11_second_42 : decode cX11_second 42 = .ok (.if_icmp .le 6, 3) := by decide +kernel
theorem dX11_second_45 : decode cX11_second 45 = .ok (.goto 48, 3) := by decide +kernel
theorem dX11_second_48 : decode cX11_second 48 = .ok (.aload_n 0, 1) := by decide +kernel
theorem dX11_second_49 : decode cX11_second 49 = .ok (.getfield 69, 3) := by decide +kernel
theorem dX11_second_52 : decode cX11_second 52 = .ok (.iload_n 3, 1) := by decide +kernel
theorem dX11_second_53 : decode cX11_second 53 = .ok (.dup2, 1) := by decide +kernel
theorem dX11_second_54 : decode cX11_second 54 = .ok (.iaload, 1) := by decide +kernel
theorem dX11_second_55 : decode cX11_second 55 = .ok (.aload_n 0, 1) := by decide +kernel
theorem dX11_second_56 : decode cX11_second 56 = .ok (.iload_n 2, 1) := by decide +kernel
theorem dX11_second_57 : decode cX11_second 57 = .ok (.invokevirtual 380, 3) := by decide +kernel
theorem dX11_second_60 : decode cX11_second 60 = .ok (.iadd, 1) := by decide +kernel
theorem dX11_second_61 : decode cX11_second 61 = .ok (.iastore, 1) := by decide +kernel
theorem dX11_second_62 : decode cX11_second 62 = .ok (.aload_n 0, 1) := by decide +kernel
theorem dX11_second_63 : decode cX11_second 63 = .ok (.getfield 69, 3) := by decide +kernel
theorem dX11_second_66 : decode cX11_second 66 = .ok (.iload_n 3, 1) := by decide +kernel
theorem dX11_second_67 : decode cX11_second 67 = .ok (.iconst 1, 1) := by decide +kernel
theorem dX11_second_68 : decode cX11_second 68 = .ok (.iadd, 1) := by decide +kernel
theorem dX11_second_69 : decode cX11_second 69 = .ok (.iconst 0, 1) := by decide +kernel
theorem dX11_second_70 : decode cX11_second 70 = .ok (.iastore, 1) := by decide +kernel
theorem dX11_second_71 : decode cX11_second 71 = .ok (.aload_n 0, 1) := by decide +kernel
theorem dX11_second_72 : decode cX11_second 72 = .ok (.getfield 69, 3) := by decide +kernel
theorem dX11_second_75 : decode cX11_second 75 = .ok (.iload_n 3, 1) := by decide +kernel
theorem dX11_second_76 : decode cX11_second 76 = .ok (.iconst 2, 1) := by decide +kernel
theorem dX11_second_77 : decode cX11_second 77 = .ok (.iadd, 1) := by decide +kernel
theorem dX11_second_78 : decode cX11_second 78 = .ok (.iconst (-1), 1) := by decide +kernel
theorem dX11_second_79 : decode cX11_second 79 = .ok (.iastore, 1) := by decide +kernel
theorem dX11_second_80 : decode cX11_second 80 = .ok (.aload_n 0, 1) := by decide +kernel
theorem dX11_second_81 : decode cX11_second 81 = .ok (.getfield 69, 3) := by decide +kernel
theorem dX11_second_84 : decode cX11_second 84 = .ok (.iload_n 3, 1) := by decide +kernel
theorem dX11_second_85 : decode cX11_second 85 = .ok (.bipush 6, 2) := by decide +kernel
theorem dX11_second_87 : decode cX11_second 87 = .ok (.iadd, 1) := by decide +kernel
theorem dX11_second_88 : decode cX11_second 88 = .ok (.dup2, 1) := by decide +kernel
theorem dX11_second_89 : decode cX11_second 89 = .ok (.iaload, 1) := by decide +kernel
theorem dX11_second_90 : decode cX11_second 90 = .ok (.iconst 1, 1) := by decide +kernel
theorem dX11_second_91 : decode cX11_second 91 = .ok (.iadd, 1) := by decide +kernel
theorem dX11_second_92 : decode cX11_second 92 = .ok (.iastore, 1) := by decide +kernel
theorem dX11_second_93 : decode cX11_second 93 = .ok (.iinc 2 1, 3) := by decide +kernel
theorem dX11_second_96 : decode cX11_second 96 = .ok (.goto (-87), 3) := by decide +kernel
theorem dX11_second_99 : decode cX11_second 99 = .ok (.iconst 0, 1) := by decide +kernel
theorem dX11_second_100 : decode cX11_second 100 = .ok (.istore_n 2, 1) := by decide +kernel
theorem dX11_second_101 : decode cX11_second 101 = .ok (.iload_n 2, 1) := by decide +kernel
theorem dX11_second_102 : decode cX11_second 102 = .ok (.aload_n 0, 1) := by decide +kernel
theorem dX11_second_103 : decode cX11_second 103 = .ok (.invokevirtual 369, 3) := by decide +kernel
theorem dX11_second_106 : decode cX11_second 106 = .ok (.if_icmp .ge 49, 3) := by decide +kernel
theorem dX11_second_109 : decode cX11_second 109 = .ok (.aload_n 0, 1) := by decide +kernel
theorem dX11_second_110 : decode cX11_second 110 = .ok (.getfield 69, 3) := by decide +kernel
theorem dX11_second_113 : decode cX11_second 113 = .ok (.iload_n 2, 1) := by decide +kernel
theorem dX11_second_114 : decode cX11_second 114 = .ok (.invokestatic 372, 3) := by decide +kernel
theorem dX11_second_117 : decode cX11_second 117 = .ok (.iaload, 1) := by decide +kernel
theorem dX11_second_118 : decode cX11_second 118 = .ok (.istore_n 3, 1) := by decide +kernel
theorem dX11_second_119 : decode cX11_second 119 = .ok (.iload_n 3, 1) := by decide +kernel
theorem dX11_second_120 : decode cX11_second 120 = .ok (.ifCond .eq 8, 3) := by decide +kernel
theorem dX11_second_123 : decode cX11_second 123 = .ok (.iload_n 3, 1) := by decide +kernel
theorem dX11_second_124 : decode cX11_second 124 = .ok (.iconst 2, 1) := by decide +kernel
theorem dX11_second_125 : decode cX11_second 125 = .ok (.if_icmp .ne 24, 3) := by decide +kernel
theorem dX11_second_128 : decode cX11_second 128 = .ok (.aload_n 0, 1) := by decide +kernel
theorem dX11_second_129 : decode cX11_second 129 = .ok (.getfield 69, 3) := by decide +kernel
theorem dX11_second_132 : decode cX11_second 132 = .ok (.iload_n 2, 1) := by decide +kernel
theorem dX11_second_133 : decode cX11_second 133 = .ok (.invokestatic 372, 3) := by decide +kernel
theorem dX11_second_136 : decode cX11_second 136 = .ok (.bipush 11, 2) := by decide +kernel
theorem dX11_second_138 : decode cX11_second 138 = .ok (.iadd, 1) := by decide +kernel
theorem dX11_second_139 : decode cX11_second 139 = .ok (.iaload, 1) := by decide +kernel
theorem dX11_second_140 : decode cX11_second 140 = .ok (.iload_n 1, 1) := by decide +kernel
theorem dX11_second_141 : decode cX11_second 141 = .ok (.if_icmp .ne 8, 3) := by decide +kernel
theorem dX11_second_144 : decode cX11_second 144 = .ok (.aload_n 0, 1) := by decide +kernel
theorem dX11_second_145 : decode cX11_second 145 = .ok (.iload_n 2, 1) := by decide +kernel
theorem dX11_second_146 : decode cX11_second 146 = .ok (.invokevirtual 459, 3) := by decide +kernel
theorem dX11_second_149 : decode cX11_second 149 = .ok (.iinc 2 1, 3) := by decide +kernel
theorem dX11_second_152 : decode cX11_second 152 = .ok (.goto (-51), 3) := by decide +kernel
theorem dX11_second_155 : decode cX11_second 155 = .ok (.iconst 0, 1) := by decide +kernel
theorem dX11_second_156 : decode cX11_second 156 = .ok (.istore_n 2, 1) := by decide +kernel
theorem dX11_second_157 : decode cX11_second 157 = .ok (.iload_n 2, 1) := by decide +kernel
theorem dX11_second_158 : decode cX11_second 158 = .ok (.aload_n 0, 1) := by decide +kernel
theorem dX11_second_159 : decode cX11_second 159 = .ok (.getfield 69, 3) := by decide +kernel
theorem dX11_second_162 : decode cX11_second 162 = .ok (.iconst 1, 1) := by decide +kernel
theorem dX11_second_163 : decode cX11_second 163 = .ok (.iaload, 1) := by decide +kernel
theorem dX11_second_164 : decode cX11_second 164 = .ok (.if_icmp .ge 53, 3) := by decide +kernel
theorem dX11_second_167 : decode cX11_second 167 = .ok (.aload_n 0, 1) := by decide +kernel
theorem dX11_second_168 : decode cX11_second 168 = .ok (.getfield 69, 3) := by decide +kernel
theorem dX11_second_171 : decode cX11_second 171 = .ok (.aload_n 0, 1) := by decide +kernel
theorem dX11_second_172 : decode cX11_second 172 = .ok (.getfield 69, 3) := by decide +kernel
theorem dX11_second_175 : decode cX11_second 175 = .ok (.iconst 2, 1) := by decide +kernel
theorem dX11_second_176 : decode cX11_second 176 = .ok (.iload_n 2, 1) := by decide +kernel
theorem dX11_second_177 : decode cX11_second 177 = .ok (.iadd, 1) := by decide +kernel
theorem dX11_second_178 : decode cX11_second 178 = .ok (.iaload, 1) := by decide +kernel
theorem dX11_second_179 : decode cX11_second 179 = .ok (.invokestatic 372, 3) := by decide +kernel
theorem dX11_second_182 : decode cX11_second 182 = .ok (.iconst 3, 1) := by decide +kernel
theorem dX11_second_183 : decode cX11_second 183 = .ok (.iadd, 1) := by decide +kernel
theorem dX11_second_184 : decode cX11_second 184 = .ok (.iaload, 1) := by decide +kernel
theorem dX11_second_185 : decode cX11_second 185 = .ok (.ifCond .ne 15, 3) := by decide +kernel
theorem dX11_second_188 : decode cX11_second 188 = .ok (.aload_n 0, 1) := by decide +kernel
theorem dX11_second_189 : decode cX11_second 189 = .ok (.iload_n 2, 1) := by decide +kernel
theorem dX11_second_190 : decode cX11_second 190 = .ok (.invokevirtual 462, 3) := by decide +kernel
theorem dX11_second_193 : decode cX11_second 193 = .ok (.ifCond .eq 7, 3) := by decide +kernel
theorem dX11_second_196 : decode cX11_second 196 = .ok (.iconst 1, 1) := by decide +kernel
theorem dX11_second_197 : decode cX11_second 197 = .ok (.goto 4, 3) := by decide +kernel
theorem dX11_second_200 : decode cX11_second 200 = .ok (.iconst 0, 1) := by decide +kernel
theorem dX11_second_201 : decode cX11_second 201 = .ok (.istore_n 3, 1) := by decide +kernel
theorem dX11_second_202 : decode cX11_second 202 = .ok (.iload_n 2, 1) := by decide +kernel
theorem dX11_second_203 : decode cX11_second 203 = .ok (.iload_n 3, 1) := by decide +kernel
theorem dX11_second_204 : decode cX11_second 204 = .ok (.ifCond .eq 7, 3) := by decide +kernel
theorem dX11_second_207 : decode cX11_second 207 = .ok (.iconst 0, 1) := by decide +kernel
theorem dX11_second_208 : decode cX11_second 208 = .ok (.goto 4, 3) := by decide +kernel
theorem dX11_second_211 : decode cX11_second 211 = .ok (.iconst 1, 1) := by decide +kernel
theorem dX11_second_212 : decode cX11_second 212 = .ok (.iadd, 1) := by decide +kernel
theorem dX11_second_213 : decode cX11_second 213 = .ok (.istore_n 2, 1) := by decide +kernel
theorem dX11_second_214 : decode cX11_second 214 = .ok (.goto (-57), 3) := by decide +kernel
theorem dX11_second_217 : decode cX11_second 217 = .ok (.iconst 0, 1) := by decide +kernel
theorem dX11_second_218 : decode cX11_second 218 = .ok (.istore_n 3, 1) := by decide +kernel
theorem dX11_second_219 : decode cX11_second 219 = .ok (.iload_n 3, 1) := by decide +kernel
theorem dX11_second_220 : decode cX11_second 220 = .ok (.aload_n 0, 1) := by decide +kernel
theorem dX11_second_221 : decode cX11_second 221 = .ok (.getfield 69, 3) := by decide +kernel
theorem dX11_second_224 : decode cX11_second 224 = .ok (.iconst 1, 1) := by decide +kernel
theorem dX11_second_225 : decode cX11_second 225 = .ok (.iaload, 1) := by decide +kernel
theorem dX11_second_226 : decode cX11_second 226 = .ok (.if_icmp .ge 51, 3) := by decide +kernel
theorem dX11_second_229 : decode cX11_second 229 = .ok (.aload_n 0, 1) := by decide +kernel
theorem dX11_second_230 : decode cX11_second 230 = .ok (.getfield 69, 3) := by decide +kernel
theorem dX11_second_233 : decode cX11_second 233 = .ok (.iconst 2, 1) := by decide +kernel
theorem dX11_second_234 : decode cX11_second 234 = .ok (.iload_n 3, 1) := by decide +kernel
theorem dX11_second_235 : decode cX11_second 235 = .ok (.iadd, 1) := by decide +kernel
theorem dX11_second_236 : decode cX11_second 236 = .ok (.iaload, 1) := by decide +kernel
theorem dX11_second_237 : decode cX11_second 237 = .ok (.invokestatic 372, 3) := by decide +kernel
theorem dX11_second_240 : decode cX11_second 240 = .ok (.istore 4, 2) := by decide +kernel
theorem dX11_second_242 : decode cX11_second 242 = .ok (.aload_n 0, 1) := by decide +kernel
theorem dX11_second_243 : decode cX11_second 243 = .ok (.getfield 69, 3) := by decide +kernel
theorem dX11_second_246 : decode cX11_second 246 = .ok (.iload 4, 2) := by decide +kernel
theorem dX11_second_248 : decode cX11_second 248 = .ok (.iconst 3, 1) := by decide +kernel
theorem dX11_second_249 : decode cX11_second 249 = .ok (.iadd, 1) := by decide +kernel
theorem dX11_second_250 : decode cX11_second 250 = .ok (.dup2, 1) := by decide +kernel
theorem dX11_second_251 : decode cX11_second 251 = .ok (.iaload, 1) := by decide +kernel
theorem dX11_second_252 : decode cX11_second 252 = .ok (.aload_n 0, 1) := by decide +kernel
theorem dX11_second_253 : decode cX11_second 253 = .ok (.getfield 69, 3) := by decide +kernel
theorem dX11_second_256 : decode cX11_second 256 = .ok (.iload 4, 2) := by decide +kernel
theorem dX11_second_258 : decode cX11_second 258 = .ok (.iconst 3, 1) := by decide +kernel
theorem dX11_second_259 : decode cX11_second 259 = .ok (.iadd, 1) := by decide +kernel
theorem dX11_second_260 : decode cX11_second 260 = .ok (.iaload, 1) := by decide +kernel
theorem dX11_second_261 : decode cX11_second 261 = .ok (.ifCond .le 7, 3) := by decide +kernel
theorem dX11_second_264 : decode cX11_second 264 = .ok (.iconst 1, 1) := by decide +kernel
theorem dX11_second_265 : decode cX11_second 265 = .ok (.goto 4, 3) := by decide +kernel
theorem dX11_second_268 : decode cX11_second 268 = .ok (.iconst 0, 1) := by decide +kernel
theorem dX11_second_269 : decode cX11_second 269 = .ok (.isub, 1) := by decide +kernel
theorem dX11_second_270 : decode cX11_second 270 = .ok (.iastore, 1) := by decide +kernel
theorem dX11_second_271 : decode cX11_second 271 = .ok (.iinc 3 1, 3) := by decide +kernel
theorem dX11_second_274 : decode cX11_second 274 = .ok (.goto (-55), 3) := by decide +kernel
theorem dX11_second_277 : decode cX11_second 277 = .ok (.aload_n 0, 1) := by decide +kernel
theorem dX11_second_278 : decode cX11_second 278 = .ok (.invokevirtual 465, 3) := by decide +kernel
theorem dX11_second_281 : decode cX11_second 281 = .ok (.aload_n 0, 1) := by decide +kernel
theorem dX11_second_282 : decode cX11_second 282 = .ok (.getfield 69, 3) := by decide +kernel
theorem dX11_second_285 : decode cX11_second 285 = .ok (.iconst 0, 1) := by decide +kernel
theorem dX11_second_286 : decode cX11_second 286 = .ok (.dup2, 1) := by decide +kernel
theorem dX11_second_287 : decode cX11_second 287 = .ok (.iaload, 1) := by decide +kernel
theorem dX11_second_288 : decode cX11_second 288 = .ok (.iconst 1, 1) := by decide +kernel
theorem dX11_second_289 : decode cX11_second 289 = .ok (.iadd, 1) := by decide +kernel
theorem dX11_second_290 : decode cX11_second 290 = .ok (.iastore, 1) := by decide +kernel
theorem dX11_second_291 : decode cX11_second 291 = .ok (.return_, 1) := by decide +kernel
set_option maxRecDepth 10000 in
theorem vX11_second_0 {κ : eg_K} {d : Nat} {post : eg_H → Prop} (M : eg_H)  (h : (vp_in (0 : Int32) 366 ∧ (∀ x2 : Int32, x2 = (M.1 (110, 0) (0 : Int32).toNatClampNeg) → eg_W κ gM mtX11_second d (eQV κ gM post) 9 [(0, vR (60, 0)), (1, vI x2), (2, vI (0 : Int32))] [] M))) : eg_W κ gM mtX11_second d (eQV κ gM post) 0 [(0, vR (60, 0))] [] M := by
  refine eg_aload_n 0 dX11_second_0 rfl rfl ?_
  refine eg_getR dX11_second_1 fl_11_69 rfl rfl (obM_60 z1) ?_
  show eg_W κ gM mtX11_second d (eQV κ gM post) 4 [(0, vR (60, 0))] [vR (110, 0)] M
  refine eg_iconst dX11_second_4 ic_0 ?_
  obtain ⟨g1, h⟩ := h
  refine eg_iaload dX11_second_5 (arM_110 z1 g1) ?_
  refine en_istore_n (f := fun x2 => [(1, vI x2), (0, vR (60, 0))]) dX11_second_6 rfl (by decide) rfl (fun x2 ex2 => ?_)
  have h := h x2 ex2
  refine eg_iconst dX11_second_7 ic_0 ?_
  refine eg_istore_n dX11_second_8 rfl (by decide) (ls1 := [(2, vI (0 : Int32)), (1, vI x2), (0, vR (60, 0))]) rfl ?_
  refine eg_sub [2, 1, 0] rfl ?_
  exact h
set_option maxRecDepth 10000 in
theorem vX11_second_9 {κ : eg_K} {d : Nat} (hd : 2 ≤ d) {post : eg_H → Prop} (M : eg_H) (l1 : Int32) (l2 : Int32) (h : ((M.1 (60, 0) 12) ≤ l2 → eg_W κ gM mtX11_second d (eQV κ gM post) 101 [(0, vR (60, 0)), (1, vI l1), (2, vI (0 : Int32))] [] M) ∧ ((¬ (M.1 (60, 0) 12) ≤ l2) → (∀ x3 : Int32, x3 = (fX11_pan M l2) → (vp_in (x3 + (2 : Int32)) 366 ∧ ((M.1 (110, 0) (x3 + (2 : Int32)).toNatClampNeg) < 0 → (∀ x6 : Int32, x6 = (l2 + (1 : Int32)) → eg_W κ gM mtX11_second d (eQV κ gM post) 9 [(0, vR (60, 0)), (1, vI l1), (2, vI x6)] [] M)) ∧ ((¬ (M.1 (110, 0) (x3 + (2 : Int32)).toNatClampNeg) < 0) → ((M.1 (110, 0) (x3 + (2 : Int32)).toNatClampNeg) ≤ l1 → (vp_in x3 366 ∧ (gX11_portionsOf M l2 ∧ (∀ x11 : Int32, x11 = (fX11_portionsOf M l2) → (∀ M12 : eg_H, M12 = (sI M (110, 0) x3.toNatClampNeg ((M.1 (110, 0) x3.toNatClampNeg) + x11)) → (vp_in (x3 + (1 : Int32)) 366 ∧ (∀ M14 : eg_H, M14 = (sI M12 (110, 0) (x3 + (1 : Int32)).toNatClampNeg (0 : Int32)) → (∀ M15 : eg_H, M15 = (sI M14 (110, 0) (x3 + (2 : Int32)).toNatClampNeg (-1 : Int32)) → (vp_in (x3 + (6 : Int32)) 366 ∧ (∀ M17 : eg_H, M17 = (sI M15 (110, 0) (x3 + (6 : Int32)).toNatClampNeg ((M15.1 (110, 0) (x3 + (6 : Int32)).toNatClampNeg) + (1 : Int32))) → (∀ x18 : Int32, x18 = (l2 + (1 : Int32)) → eg_W κ gM mtX11_second d (eQV κ gM post) 9 [(0, vR (60, 0)), (1, vI l1), (2, vI x18)] [] M17))))))))))) ∧ ((¬ (M.1 (110, 0) (x3 + (2 : Int32)).toNatClampNeg) ≤ l1) → (∀ x19 : Int32, x19 = (l2 + (1 : Int32)) → eg_W κ gM mtX11_second d (eQV κ gM post) 9 [(0, vR (60, 0)), (1, vI l1), (2, vI x19)] [] M))))))) : eg_W κ gM mtX11_second d (eQV κ gM post) 9 [(0, vR (60, 0)), (1, vI l1), (2, vI l2)] [] M := by
  refine eg_iload_n 2 dX11_second_9 rfl rfl ?_
  refine eg_aload_n 0 dX11_second_10 rfl rfl ?_
  refine eg_getI dX11_second_11 fl_11_209 rfl trivial (obM_60 z1) ?_
  refine eg_icmp_ge (tgt := 99) dX11_second_14 rfl (fun c1 => ?_) (fun c1 => ?_)
  · have h := h.1 c1
    refine eg_iconst dX11_second_99 ic_0 ?_
    refine eg_istore_n dX11_second_100 rfl (by decide) (ls1 := [(2, vI (0 : Int32)), (0, vR (60, 0)), (1, vI l1)]) rfl ?_
    refine eg_sub [1, 2, 0] rfl ?_
    exact h
  · have h := h.2 c1
    refine eg_iload_n 2 dX11_second_17 rfl rfl ?_
    refine eg_callSI (av := [vI l2]) (st := []) dX11_second_18 ml_11_377 rfl rfl (Nat.le_of_ble_eq_true rfl) (eg_dd (by omega)) (sX11_pan (by omega) M l2  ) (fun x3 M2 hp => ?_)
    obtain ⟨ex3, eM2⟩ := hp
    rw [eM2]
    have h := h x3 ex3
    refine eg_istore_n dX11_second_21 rfl (by decide) (ls1 := [(3, vI x3), (0, vR (60, 0)), (1, vI l1), (2, vI l2)]) rfl ?_
    refine eg_aload_n 1 dX11_second_22 rfl rfl ?_
    refine eg_getR dX11_second_23 fl_11_69 rfl rfl (obM_60 z1) ?_
    show eg_W κ gM mtX11_second d (eQV κ gM post) 26 [(3, vI x3), (0, vR (60, 0)), (1, vI l1), (2, vI l2)] [vR (110, 0)] M
    refine eg_iload_n 0 dX11_second_26 rfl rfl ?_
    refine eg_iconst dX11_second_27 ic_2 ?_
    refine eg_iadd dX11_second_28 ?_
    obtain ⟨g4, h⟩ := h
    refine eg_iaload dX11_second_29 (arM_110 z1 g4) ?_
    refine eg_if_lt (tgt := 93) dX11_second_30 rfl (fun c5 => ?_) (fun c5 => ?_)
    · have h := h.1 c5
      refine en_iinc (f := fun x6 => [(2, vI x6), (3, vI x3), (0, vR (60, 0)), (1, vI l1)]) 3 dX11_second_93 rfl rfl (by decide) rfl (fun x6 ex6 => ?_)
      have h := h x6 ex6
      refine eg_goto (tgt := 9) dX11_second_96 rfl ?_
      refine eg_sub [2, 3, 0] rfl ?_
      exact h
    · have h := h.2 c5
      refine eg_aload_n 1 dX11_second_33 rfl rfl ?_
      refine eg_getR dX11_second_34 fl_11_69 rfl rfl (obM_60 z1) ?_
      show eg_W κ gM mtX11_second d (eQV κ gM post) 37 [(3, vI x3), (0, vR (60, 0)), (1, vI l1), (2, vI l2)] [vR (110, 0)] M
      refine eg_iload_n 0 dX11_second_37 rfl rfl ?_
      refine eg_iconst dX11_second_38 ic_2 ?_
      refine eg_iadd dX11_second_39 ?_
      refine eg_iaload dX11_second_40 (arM_110 z1 g4) ?_
      refine eg_iload_n 2 dX11_second_41 rfl rfl ?_
      refine eg_icmp_le (tgt := 48) dX11_second_42 rfl (fun c7 => ?_) (fun c7 => ?_)
      · have h := h.1 c7
        refine eg_aload_n 1 dX11_second_48 rfl rfl ?_
        refine eg_getR dX11_second_49 fl_11_69 rfl rfl (obM_60 z1) ?_
        show eg_W κ gM mtX11_second d (eQV κ gM post) 52 [(3, vI x3), (0, vR (60, 0)), (1, vI l1), (2, vI l2)] [vR (110, 0)] M
        refine eg_iload_n 0 dX11_second_52 rfl rfl ?_
        refine eg_dup2 dX11_second_53 rfl rfl ?_
        obtain ⟨g8, h⟩ := h
        refine eg_iaload dX11_second_54 (arM_110 z1 g8) ?_
        refine eg_aload_n 1 dX11_second_55 rfl rfl ?_
        refine eg_iload_n 3 dX11_second_56 rfl rfl ?_
        obtain ⟨g9, h⟩ := h
        refine eg_callVI (av := [vI l2]) (st := [vI (M.1 (110, 0) x3.toNatClampNeg), vI x3, vR (110, 0)]) dX11_second_57 ml_11_380 rfl rfl (obM_60 z1) (by decide) rfl (Nat.le_of_ble_eq_true rfl) (eg_dd (by omega)) (sX11_portionsOf (by omega) M l2  g9) (fun x11 M10 hp => ?_)
        obtain ⟨ex11, eM10⟩ := hp
        rw [eM10]
        have h := h x11 ex11
        refine eg_iadd dX11_second_60 ?_
        refine en_iastore dX11_second_61 (arM_110 z1 g8) (fun M12 eM12 => ?_)
        have h := h M12 eM12
        refine eg_aload_n 1 dX11_second_62 rfl rfl ?_
        refine eg_getR dX11_second_63 fl_11_69 rfl rfl (obM_60 z1) ?_
        show eg_W κ gM mtX11_second d (eQV κ gM post) 66 [(3, vI x3), (0, vR (60, 0)), (1, vI l1), (2, vI l2)] [vR (110, 0)] M12
        refine eg_iload_n 0 dX11_second_66 rfl rfl ?_
        refine eg_iconst dX11_second_67 ic_1 ?_
        refine eg_iadd dX11_second_68 ?_
        refine eg_iconst dX11_second_69 ic_0 ?_
        obtain ⟨g13, h⟩ := h
        refine en_iastore dX11_second_70 (arM_110 z1 g13) (fun M14 eM14 => ?_)
        have h := h M14 eM14
        refine eg_aload_n 1 dX11_second_71 rfl rfl ?_
        refine eg_getR dX11_second_72 fl_11_69 rfl rfl (obM_60 z1) ?_
        show eg_W κ gM mtX11_second d (eQV κ gM post) 75 [(3, vI x3), (0, vR (60, 0)), (1, vI l1), (2, vI l2)] [vR (110, 0)] M14
        refine eg_iload_n 0 dX11_second_75 rfl rfl ?_
        refine eg_iconst dX11_second_76 ic_2 ?_
        refine eg_iadd dX11_second_77 ?_
        refine eg_iconst dX11_second_78 ic_m1 ?_
        refine en_iastore dX11_second_79 (arM_110 z1 g4) (fun M15 eM15 => ?_)
        have h := h M15 eM15
        refine eg_aload_n 1 dX11_second_80 rfl rfl ?_
        refine eg_getR dX11_second_81 fl_11_69 rfl rfl (obM_60 z1) ?_
        show eg_W κ gM mtX11_second d (eQV κ gM post) 84 [(3, vI x3), (0, vR (60, 0)), (1, vI l1), (2, vI l2)] [vR (110, 0)] M15
        refine eg_iload_n 0 dX11_second_84 rfl rfl ?_
        refine eg_bipush dX11_second_85 bp_6 ?_
        refine eg_iadd dX11_second_87 ?_
        refine eg_dup2 dX11_second_88 rfl rfl ?_
        obtain ⟨g16, h⟩ := h
        refine eg_iaload dX11_second_89 (arM_110 z1 g16) ?_
        refine eg_iconst dX11_second_90 ic_1 ?_
        refine eg_iadd dX11_second_91 ?_
        refine en_iastore dX11_second_92 (arM_110 z1 g16) (fun M17 eM17 => ?_)
        have h := h M17 eM17
        refine en_iinc (f := fun x18 => [(2, vI x18), (3, vI x3), (0, vR (60, 0)), (1, vI l1)]) 3 dX11_second_93 rfl rfl (by decide) rfl (fun x18 ex18 => ?_)
        have h := h x18 ex18
        refine eg_goto (tgt := 9) dX11_second_96 rfl ?_
        refine eg_sub [2, 3, 0] rfl ?_
        exact h
      · have h := h.2 c7
        refine eg_goto (tgt := 93) dX11_second_45 rfl ?_
        refine en_iinc (f := fun x19 => [(2, vI x19), (3, vI x3), (0, vR (60, 0)), (1, vI l1)]) 3 dX11_second_93 rfl rfl (by decide) rfl (fun x19 ex19 => ?_)
        have h := h x19 ex19
        refine eg_goto (tgt := 9) dX11_second_96 rfl ?_
        refine eg_sub [2, 3, 0] rfl ?_
        exact h
set_option maxRecDepth 10000 in
theorem vX11_second_101 {κ : eg_K} {d : Nat} (hd : 1 ≤ d) {post : eg_H → Prop} (M : eg_H) (l1 : Int32) (l2 : Int32) (h : (∀ x2 : Int32, x2 = (fX11_everybody M) → (x2 ≤ l2 → eg_W κ gM mtX11_second d (eQV κ gM post) 157 [(0, vR (60, 0)), (2, vI (0 : Int32))] [] M) ∧ ((¬ x2 ≤ l2) → (∀ x5 : Int32, x5 = (fX11_at M l2) → (vp_in x5 366 ∧ (∀ x7 : Int32, x7 = (M.1 (110, 0) x5.toNatClampNeg) → (x7 = 0 → eg_W κ gM mtX11_second d (eQV κ gM post) 128 [(0, vR (60, 0)), (1, vI l1), (2, vI l2)] [] M) ∧ ((¬ x7 = 0) → ((¬ x7 = (2 : Int32)) → (∀ x10 : Int32, x10 = (l2 + (1 : Int32)) → eg_W κ gM mtX11_second d (eQV κ gM post) 101 [(0, vR (60, 0)), (1, vI l1), (2, vI x10)] [] M)) ∧ (x7 = (2 : Int32) → eg_W κ gM mtX11_second d (eQV κ gM post) 128 [(0, vR (60, 0)), (1, vI l1), (2, vI l2)] [] M)))))))) : eg_W κ gM mtX11_second d (eQV κ gM post) 101 [(0, vR (60, 0)), (1, vI l1), (2, vI l2)] [] M := by
  refine eg_iload_n 2 dX11_second_101 rfl rfl ?_
  refine eg_aload_n 0 dX11_second_102 rfl rfl ?_
  refine eg_callVI (av := []) (st := [vI l2]) dX11_second_103 ml_11_369 rfl rfl (obM_60 z1) (by decide) rfl (Nat.le_of_ble_eq_true rfl) (eg_dd (by omega)) (sX11_everybody (by omega) M   ) (fun x2 M1 hp => ?_)
  obtain ⟨ex2, eM1⟩ := hp
  rw [eM1]
  have h := h x2 ex2
  refine eg_icmp_ge (tgt := 155) dX11_second_106 rfl (fun c3 => ?_) (fun c3 => ?_)
  · have h := h.1 c3
    refine eg_iconst dX11_second_155 ic_0 ?_
    refine eg_istore_n dX11_second_156 rfl (by decide) (ls1 := [(2, vI (0 : Int32)), (0, vR (60, 0)), (1, vI l1)]) rfl ?_
    refine eg_sub [1, 0] rfl ?_
    exact h
  · have h := h.2 c3
    refine eg_aload_n 0 dX11_second_109 rfl rfl ?_
    refine eg_getR dX11_second_110 fl_11_69 rfl rfl (obM_60 z1) ?_
    show eg_W κ gM mtX11_second d (eQV κ gM post) 113 [(0, vR (60, 0)), (1, vI l1), (2, vI l2)] [vR (110, 0)] M
    refine eg_iload_n 2 dX11_second_113 rfl rfl ?_
    refine eg_callSI (av := [vI l2]) (st := [vR (110, 0)]) dX11_second_114 ml_11_372 rfl rfl (Nat.le_of_ble_eq_true rfl) (eg_dd (by omega)) (sX11_at (by omega) M l2  ) (fun x5 M4 hp => ?_)
    obtain ⟨ex5, eM4⟩ := hp
    rw [eM4]
    have h := h x5 ex5
    obtain ⟨g6, h⟩ := h
    refine eg_iaload dX11_second_117 (arM_110 z1 g6) ?_
    refine en_istore_n (f := fun x7 => [(3, vI x7), (0, vR (60, 0)), (1, vI l1), (2, vI l2)]) dX11_second_118 rfl (by decide) rfl (fun x7 ex7 => ?_)
    have h := h x7 ex7
    refine eg_iload_n 0 dX11_second_119 rfl rfl ?_
    refine eg_if_eq (tgt := 128) dX11_second_120 rfl (fun c8 => ?_) (fun c8 => ?_)
    · have h := h.1 c8
      refine eg_sub [1, 2, 3] rfl ?_
      exact h
    · have h := h.2 c8
      refine eg_iload_n 0 dX11_second_123 rfl rfl ?_
      refine eg_iconst dX11_second_124 ic_2 ?_
      refine eg_icmp_ne (tgt := 149) dX11_second_125 rfl (fun c9 => ?_) (fun c9 => ?_)
      · have h := h.1 c9
        refine en_iinc (f := fun x10 => [(2, vI x10), (3, vI x7), (0, vR (60, 0)), (1, vI l1)]) 3 dX11_second_149 rfl rfl (by decide) rfl (fun x10 ex10 => ?_)
        have h := h x10 ex10
        refine eg_goto (tgt := 101) dX11_second_152 rfl ?_
        refine eg_sub [2, 3, 0] rfl ?_
        exact h
      · have h := h.2 c9
        refine eg_sub [1, 2, 3] rfl ?_
        exact h
set_option maxRecDepth 10000 in
theorem vX11_second_128 {κ : eg_K} {d : Nat} (hd : 2 ≤ d) {post : eg_H → Prop} (M : eg_H) (l1 : Int32) (l2 : Int32) (h : (∀ x2 : Int32, x2 = (fX11_at M l2) → (vp_in (x2 + (11 : Int32)) 366 ∧ ((¬ (M.1 (110, 0) (x2 + (11 : Int32)).toNatClampNeg) = l1) → (∀ x5 : Int32, x5 = (l2 + (1 : Int32)) → eg_W κ gM mtX11_second d (eQV κ gM post) 101 [(0, vR (60, 0)), (1, vI l1), (2, vI x5)] [] M)) ∧ ((M.1 (110, 0) (x2 + (11 : Int32)).toNatClampNeg) = l1 → (gX11_comesNow M l2 ∧ (∀ M7 : eg_H, M7 = (fX11_comesNow M l2) → (∀ x9 : Int32, x9 = (l2 + (1 : Int32)) → eg_W κ gM mtX11_second d (eQV κ gM post) 101 [(0, vR (60, 0)), (1, vI l1), (2, vI x9)] [] M7))))))) : eg_W κ gM mtX11_second d (eQV κ gM post) 128 [(0, vR (60, 0)), (1, vI l1), (2, vI l2)] [] M := by
  refine eg_aload_n 0 dX11_second_128 rfl rfl ?_
  refine eg_getR dX11_second_129 fl_11_69 rfl rfl (obM_60 z1) ?_
  show eg_W κ gM mtX11_second d (eQV κ gM post) 132 [(0, vR (60, 0)), (1, vI l1), (2, vI l2)] [vR (110, 0)] M
  refine eg_iload_n 2 dX11_second_132 rfl rfl ?_
  refine eg_callSI (av := [vI l2]) (st := [vR (110, 0)]) dX11_second_133 ml_11_372 rfl rfl (Nat.le_of_ble_eq_true rfl) (eg_dd (by omega)) (sX11_at (by omega) M l2  ) (fun x2 M1 hp => ?_)
  obtain ⟨ex2, eM1⟩ := hp
  rw [eM1]
  have h := h x2 ex2
  refine eg_bipush dX11_second_136 bp_11 ?_
  refine eg_iadd dX11_second_138 ?_
  obtain ⟨g3, h⟩ := h
  refine eg_iaload dX11_second_139 (arM_110 z1 g3) ?_
  refine eg_iload_n 1 dX11_second_140 rfl rfl ?_
  refine eg_icmp_ne (tgt := 149) dX11_second_141 rfl (fun c4 => ?_) (fun c4 => ?_)
  · have h := h.1 c4
    refine en_iinc (f := fun x5 => [(2, vI x5), (0, vR (60, 0)), (1, vI l1)]) 2 dX11_second_149 rfl rfl (by decide) rfl (fun x5 ex5 => ?_)
    have h := h x5 ex5
    refine eg_goto (tgt := 101) dX11_second_152 rfl ?_
    refine eg_sub [1, 2, 0] rfl ?_
    exact h
  · have h := h.2 c4
    refine eg_aload_n 0 dX11_second_144 rfl rfl ?_
    refine eg_iload_n 2 dX11_second_145 rfl rfl ?_
    obtain ⟨g6, h⟩ := h
    refine eg_callVV (av := [vI l2]) (st := []) dX11_second_146 ml_11_459 rfl rfl (obM_60 z1) (by decide) rfl (Nat.le_of_ble_eq_true rfl) (eg_dd (by omega)) (sX11_comesNow (by omega) M l2  g6) (fun M7 eM7 => ?_)
    have h := h M7 eM7
    refine en_iinc (f := fun x9 => [(2, vI x9), (0, vR (60, 0)), (1, vI l1)]) 2 dX11_second_149 rfl rfl (by decide) rfl (fun x9 ex9 => ?_)
    have h := h x9 ex9
    refine eg_goto (tgt := 101) dX11_second_152 rfl ?_
    refine eg_sub [1, 2, 0] rfl ?_
    exact h
set_option maxRecDepth 10000 in
theorem vX11_second_157 {κ : eg_K} {d : Nat} (hd : 1 ≤ d) {post : eg_H → Prop} (M : eg_H) (l2 : Int32) (h : (vp_in (1 : Int32) 366 ∧ ((M.1 (110, 0) (1 : Int32).toNatClampNeg) ≤ l2 → eg_W κ gM mtX11_second d (eQV κ gM post) 219 [(0, vR (60, 0)), (3, vI (0 : Int32))] [] M) ∧ ((¬ (M.1 (110, 0) (1 : Int32).toNatClampNeg) ≤ l2) → (vp_in ((2 : Int32) + l2) 366 ∧ (∀ x5 : Int32, x5 = (fX11_at M (M.1 (110, 0) ((2 : Int32) + l2).toNatClampNeg)) → (vp_in (x5 + (3 : Int32)) 366 ∧ ((¬ (M.1 (110, 0) (x5 + (3 : Int32)).toNatClampNeg) = 0) → (∀ x8 : Int32, x8 = ((if (0 : Int32) = 0 then (1 : Int32) else (0 : Int32))) → (∀ x9 : Int32, x9 = (l2 + x8) → eg_W κ gM mtX11_second d (eQV κ gM post) 157 [(0, vR (60, 0)), (2, vI x9)] [] M))) ∧ ((M.1 (110, 0) (x5 + (3 : Int32)).toNatClampNeg) = 0 → eCI κ gM mtX11_goes d [vR (60, 0), vI l2] M (fun x11 M12 => (∀ x14 : Int32, x14 = ((if x11 = 0 then (0 : Int32) else (1 : Int32))) → (∀ x15 : Int32, x15 = ((if x14 = 0 then (1 : Int32) else (0 : Int32))) → (∀ x16 : Int32, x16 = (l2 + x15) → eg_W κ gM mtX11_second d (eQV κ gM post) 157 [(0, vR (60, 0)), (2, vI x16)] [] M12))))))))))) : eg_W κ gM mtX11_second d (eQV κ gM post) 157 [(0, vR (60, 0)), (2, vI l2)] [] M := by
  refine eg_iload_n 1 dX11_second_157 rfl rfl ?_
  refine eg_aload_n 0 dX11_second_158 rfl rfl ?_
  refine eg_getR dX11_second_159 fl_11_69 rfl rfl (obM_60 z1) ?_
  show eg_W κ gM mtX11_second d (eQV κ gM post) 162 [(0, vR (60, 0)), (2, vI l2)] [vR (110, 0), vI l2] M
  refine eg_iconst dX11_second_162 ic_1 ?_
  obtain ⟨g1, h⟩ := h
  refine eg_iaload dX11_second_163 (arM_110 z1 g1) ?_
  refine eg_icmp_ge (tgt := 217) dX11_second_164 rfl (fun c2 => ?_) (fun c2 => ?_)
  · have h := h.1 c2
    refine eg_iconst dX11_second_217 ic_0 ?_
    refine eg_istore_n dX11_second_218 rfl (by decide) (ls1 := [(3, vI (0 : Int32)), (0, vR (60, 0)), (2, vI l2)]) rfl ?_
    refine eg_sub [1, 0] rfl ?_
    exact h
  · have h := h.2 c2
    refine eg_aload_n 0 dX11_second_167 rfl rfl ?_
    refine eg_getR dX11_second_168 fl_11_69 rfl rfl (obM_60 z1) ?_
    show eg_W κ gM mtX11_second d (eQV κ gM post) 171 [(0, vR (60, 0)), (2, vI l2)] [vR (110, 0)] M
    refine eg_aload_n 0 dX11_second_171 rfl rfl ?_
    refine eg_getR dX11_second_172 fl_11_69 rfl rfl (obM_60 z1) ?_
    show eg_W κ gM mtX11_second d (eQV κ gM post) 175 [(0, vR (60, 0)), (2, vI l2)] [vR (110, 0), vR (110, 0)] M
    refine eg_iconst dX11_second_175 ic_2 ?_
    refine eg_iload_n 1 dX11_second_176 rfl rfl ?_
    refine eg_iadd dX11_second_177 ?_
    obtain ⟨g3, h⟩ := h
    refine eg_iaload dX11_second_178 (arM_110 z1 g3) ?_
    refine eg_callSI (av := [vI (M.1 (110, 0) ((2 : Int32) + l2).toNatClampNeg)]) (st := [vR (110, 0)]) dX11_second_179 ml_11_372 rfl rfl (Nat.le_of_ble_eq_true rfl) (eg_dd (by omega)) (sX11_at (by omega) M (M.1 (110, 0) ((2 : Int32) + l2).toNatClampNeg)  ) (fun x5 M4 hp => ?_)
    obtain ⟨ex5, eM4⟩ := hp
    rw [eM4]
    have h := h x5 ex5
    refine eg_iconst dX11_second_182 ic_3 ?_
    refine eg_iadd dX11_second_183 ?_
    obtain ⟨g6, h⟩ := h
    refine eg_iaload dX11_second_184 (arM_110 z1 g6) ?_
    refine eg_if_ne (tgt := 200) dX11_second_185 rfl (fun c7 => ?_) (fun c7 => ?_)
    · have h := h.1 c7
      refine eg_iconst dX11_second_200 ic_0 ?_
      refine eg_istore_n dX11_second_201 rfl (by decide) (ls1 := [(3, vI (0 : Int32)), (0, vR (60, 0)), (2, vI l2)]) rfl ?_
      refine eg_iload_n 2 dX11_second_202 rfl rfl ?_
      refine eg_iload_n 0 dX11_second_203 rfl rfl ?_
      have J : ∀ x8 : Int32, x8 = (if (0 : Int32) = 0 then (1 : Int32) else (0 : Int32)) → eg_W κ gM mtX11_second d (eQV κ gM post) 212 [(3, vI (0 : Int32)), (0, vR (60, 0)), (2, vI l2)] [vI x8, vI l2] M := by
        intro x8 ex8
        have h := h x8 ex8
        refine eg_iadd dX11_second_212 ?_
        refine en_istore_n (f := fun x9 => [(2, vI x9), (3, vI (0 : Int32)), (0, vR (60, 0))]) dX11_second_213 rfl (by decide) rfl (fun x9 ex9 => ?_)
        have h := h x9 ex9
        refine eg_goto (tgt := 157) dX11_second_214 rfl ?_
        refine eg_sub [2, 0] rfl ?_
        exact h
      clear h
      refine eg_if_eq (tgt := 211) dX11_second_204 rfl (fun c10 => ?_) (fun c10 => ?_)
      · refine eg_iconst dX11_second_211 ic_1 ?_
        exact J _ (by rw [if_pos c10])
      · refine eg_iconst dX11_second_207 ic_0 ?_
        refine eg_goto (tgt := 212) dX11_second_208 rfl ?_
        exact J _ (by rw [if_neg c10])
    · have h := h.2 c7
      refine eg_aload_n 0 dX11_second_188 rfl rfl ?_
      refine eg_iload_n 1 dX11_second_189 rfl rfl ?_
      obtain ⟨q13, hq13, h⟩ := h
      refine eg_callVI (av := [vI l2]) (st := []) dX11_second_190 ml_11_462 rfl rfl (obM_60 z1) (by decide) rfl (Nat.le_of_ble_eq_true rfl) (eg_dd (by omega)) hq13 (fun x11 M12 hp => ?_)
      have h := h x11 M12 hp
      have J : ∀ x14 : Int32, x14 = (if x11 = 0 then (0 : Int32) else (1 : Int32)) → eg_W κ gM mtX11_second d (eQV κ gM post) 201 [(0, vR (60, 0)), (2, vI l2)] [vI x14] M12 := by
        intro x14 ex14
        have h := h x14 ex14
        refine eg_istore_n dX11_second_201 rfl (by decide) (ls1 := [(3, vI x14), (0, vR (60, 0)), (2, vI l2)]) rfl ?_
        refine eg_iload_n 2 dX11_second_202 rfl rfl ?_
        refine eg_iload_n 0 dX11_second_203 rfl rfl ?_
        have J : ∀ x15 : Int32, x15 = (if x14 = 0 then (1 : Int32) else (0 : Int32)) → eg_W κ gM mtX11_second d (eQV κ gM post) 212 [(3, vI x14), (0, vR (60, 0)), (2, vI l2)] [vI x15, vI l2] M12 := by
          intro x15 ex15
          have h := h x15 ex15
          refine eg_iadd dX11_second_212 ?_
          refine en_istore_n (f := fun x16 => [(2, vI x16), (3, vI x14), (0, vR (60, 0))]) dX11_second_213 rfl (by decide) rfl (fun x16 ex16 => ?_)
          have h := h x16 ex16
          refine eg_goto (tgt := 157) dX11_second_214 rfl ?_
          refine eg_sub [2, 0] rfl ?_
          exact h
        clear h
        refine eg_if_eq (tgt := 211) dX11_second_204 rfl (fun c17 => ?_) (fun c17 => ?_)
        · refine eg_iconst dX11_second_211 ic_1 ?_
          exact J _ (by rw [if_pos c17])
        · refine eg_iconst dX11_second_207 ic_0 ?_
          refine eg_goto (tgt := 212) dX11_second_208 rfl ?_
          exact J _ (by rw [if_neg c17])
      clear h
      refine eg_if_eq (tgt := 200) dX11_second_193 rfl (fun c18 => ?_) (fun c18 => ?_)
      · refine eg_iconst dX11_second_200 ic_0 ?_
        exact J _ (by rw [if_pos c18])
      · refine eg_iconst dX11_second_196 ic_1 ?_
        refine eg_goto (tgt := 201) dX11_second_197 rfl ?_
        exact J _ (by rw [if_neg c18])
set_option maxRecDepth 10000 in
theorem vX11_second_219 {κ : eg_K} {d : Nat} (hd : 1 ≤ d) {post : eg_H → Prop} (M : eg_H) (l3 : Int32) (h : (vp_in (1 : Int32) 366 ∧ ((M.1 (110, 0) (1 : Int32).toNatClampNeg) ≤ l3 → eCV κ gM mtX11_pansGo d [vR (60, 0)] M (fun M3 => (vp_in (0 : Int32) 366 ∧ (∀ M6 : eg_H, M6 = (sI M3 (110, 0) (0 : Int32).toNatClampNeg ((M3.1 (110, 0) (0 : Int32).toNatClampNeg) + (1 : Int32))) → post M6)))) ∧ ((¬ (M.1 (110, 0) (1 : Int32).toNatClampNeg) ≤ l3) → (vp_in ((2 : Int32) + l3) 366 ∧ (∀ x9 : Int32, x9 = (fX11_at M (M.1 (110, 0) ((2 : Int32) + l3).toNatClampNeg)) → (vp_in (x9 + (3 : Int32)) 366 ∧ (∀ x11 : Int32, x11 = ((if (M.1 (110, 0) (x9 + (3 : Int32)).toNatClampNeg) ≤ 0 then (0 : Int32) else (1 : Int32))) → (∀ M12 : eg_H, M12 = (sI M (110, 0) (x9 + (3 : Int32)).toNatClampNeg ((M.1 (110, 0) (x9 + (3 : Int32)).toNatClampNeg) - x11)) → (∀ x13 : Int32, x13 = (l3 + (1 : Int32)) → eg_W κ gM mtX11_second d (eQV κ gM post) 219 [(0, vR (60, 0)), (3, vI x13)] [] M12))))))))) : eg_W κ gM mtX11_second d (eQV κ gM post) 219 [(0, vR (60, 0)), (3, vI l3)] [] M := by
  refine eg_iload_n 1 dX11_second_219 rfl rfl ?_
  refine eg_aload_n 0 dX11_second_220 rfl rfl ?_
  refine eg_getR dX11_second_221 fl_11_69 rfl rfl (obM_60 z1) ?_
  show eg_W κ gM mtX11_second d (eQV κ gM post) 224 [(0, vR (60, 0)), (3, vI l3)] [vR (110, 0), vI l3] M
  refine eg_iconst dX11_second_224 ic_1 ?_
  obtain ⟨g1, h⟩ := h
  refine eg_iaload dX11_second_225 (arM_110 z1 g1) ?_
  refine eg_icmp_ge (tgt := 277) dX11_second_226 rfl (fun c2 => ?_) (fun c2 => ?_)
  · have h := h.1 c2
    refine eg_aload_n 0 dX11_second_277 rfl rfl ?_
    obtain ⟨q4, hq4, h⟩ := h
    refine eg_callVV (av := []) (st := []) dX11_second_278 ml_11_465 rfl rfl (obM_60 z1) (by decide) rfl (Nat.le_of_ble_eq_true rfl) (eg_dd (by omega)) hq4 (fun M3 hp => ?_)
    have h := h M3 hp
    refine eg_aload_n 0 dX11_second_281 rfl rfl ?_
    refine eg_getR dX11_second_282 fl_11_69 rfl rfl (obM_60 z1) ?_
    show eg_W κ gM mtX11_second d (eQV κ gM post) 285 [(0, vR (60, 0)), (3, vI l3)] [vR (110, 0)] M3
    refine eg_iconst dX11_second_285 ic_0 ?_
    refine eg_dup2 dX11_second_286 rfl rfl ?_
    obtain ⟨g5, h⟩ := h
    refine eg_iaload dX11_second_287 (arM_110 z1 g5) ?_
    refine eg_iconst dX11_second_288 ic_1 ?_
    refine eg_iadd dX11_second_289 ?_
    refine en_iastore dX11_second_290 (arM_110 z1 g5) (fun M6 eM6 => ?_)
    have h := h M6 eM6
    exact eg_vreturn dX11_second_291 rfl h
  · have h := h.2 c2
    refine eg_aload_n 0 dX11_second_229 rfl rfl ?_
    refine eg_getR dX11_second_230 fl_11_69 rfl rfl (obM_60 z1) ?_
    show eg_W κ gM mtX11_second d (eQV κ gM post) 233 [(0, vR (60, 0)), (3, vI l3)] [vR (110, 0)] M
    refine eg_iconst dX11_second_233 ic_2 ?_
    refine eg_iload_n 1 dX11_second_234 rfl rfl ?_
    refine eg_iadd dX11_second_235 ?_
    obtain ⟨g7, h⟩ := h
    refine eg_iaload dX11_second_236 (arM_110 z1 g7) ?_
    refine eg_callSI (av := [vI (M.1 (110, 0) ((2 : Int32) + l3).toNatClampNeg)]) (st := []) dX11_second_237 ml_11_372 rfl rfl (Nat.le_of_ble_eq_true rfl) (eg_dd (by omega)) (sX11_at (by omega) M (M.1 (110, 0) ((2 : Int32) + l3).toNatClampNeg)  ) (fun x9 M8 hp => ?_)
    obtain ⟨ex9, eM8⟩ := hp
    rw [eM8]
    have h := h x9 ex9
    refine eg_istore dX11_second_240 (by decide) (ls1 := [(4, vI x9), (0, vR (60, 0)), (3, vI l3)]) rfl ?_
    refine eg_aload_n 1 dX11_second_242 rfl rfl ?_
    refine eg_getR dX11_second_243 fl_11_69 rfl rfl (obM_60 z1) ?_
    show eg_W κ gM mtX11_second d (eQV κ gM post) 246 [(4, vI x9), (0, vR (60, 0)), (3, vI l3)] [vR (110, 0)] M
    refine eg_iload 0 dX11_second_246 rfl ?_
    refine eg_iconst dX11_second_248 ic_3 ?_
    refine eg_iadd dX11_second_249 ?_
    refine eg_dup2 dX11_second_250 rfl rfl ?_
    obtain ⟨g10, h⟩ := h
    refine eg_iaload dX11_second_251 (arM_110 z1 g10) ?_
    refine eg_aload_n 1 dX11_second_252 rfl rfl ?_
    refine eg_getR dX11_second_253 fl_11_69 rfl rfl (obM_60 z1) ?_
    show eg_W κ gM mtX11_second d (eQV κ gM post) 256 [(4, vI x9), (0, vR (60, 0)), (3, vI l3)] [vR (110, 0), vI (M.1 (110, 0) (x9 + (3 : Int32)).toNatClampNeg), vI (x9 + (3 : Int32)), vR (110, 0)] M
    refine eg_iload 0 dX11_second_256 rfl ?_
    refine eg_iconst dX11_second_258 ic_3 ?_
    refine eg_iadd dX11_second_259 ?_
    refine eg_iaload dX11_second_260 (arM_110 z1 g10) ?_
    have J : ∀ x11 : Int32, x11 = (if (M.1 (110, 0) (x9 + (3 : Int32)).toNatClampNeg) ≤ 0 then (0 : Int32) else (1 : Int32)) → eg_W κ gM mtX11_second d (eQV κ gM post) 269 [(4, vI x9), (0, vR (60, 0)), (3, vI l3)] [vI x11, vI (M.1 (110, 0) (x9 + (3 : Int32)).toNatClampNeg), vI (x9 + (3 : Int32)), vR (110, 0)] M := by
      intro x11 ex11
      have h := h x11 ex11
      refine eg_isub dX11_second_269 ?_
      refine en_iastore dX11_second_270 (arM_110 z1 g10) (fun M12 eM12 => ?_)
      have h := h M12 eM12
      refine en_iinc (f := fun x13 => [(3, vI x13), (4, vI x9), (0, vR (60, 0))]) 2 dX11_second_271 rfl rfl (by decide) rfl (fun x13 ex13 => ?_)
      have h := h x13 ex13
      refine eg_goto (tgt := 219) dX11_second_274 rfl ?_
      refine eg_sub [2, 0] rfl ?_
      exact h
    clear h
    refine eg_if_le (tgt := 268) dX11_second_261 rfl (fun c14 => ?_) (fun c14 => ?_)
    · refine eg_iconst dX11_second_268 ic_0 ?_
      exact J _ (by rw [if_pos c14])
    · refine eg_iconst dX11_second_264 ic_1 ?_
      refine eg_goto (tgt := 269) dX11_second_265 rfl ?_
      exact J _ (by rw [if_neg c14])
theorem dX11_runs_0 : decode cX11_runs 0 = .ok (.aload_n 0, 1) := by decide +kernel
theorem dX11_runs_1 : decode cX11_runs 1 = .ok (.invokevirtual 246, 3) := by decide +kernel
theorem dX11_runs_4 : decode cX11_runs 4 = .ok (.aload_n 0, 1) := by decide +kernel
theorem dX11_runs_5 : decode cX11_runs 5 = .ok (.getfield 69, 3) := by decide +kernel
theorem dX11_runs_8 : decode cX11_runs 8 = .ok (.iconst 0, 1) := by decide +kernel
theorem dX11_runs_9 : decode cX11_runs 9 = .ok (.iaload, 1) := by decide +kernel
theorem dX11_runs_10 : decode cX11_runs 10 = .ok (.iload_n 1, 1) := by decide +kernel
theorem dX11_runs_11 : decode cX11_runs 11 = .ok (.if_icmp .ge 10, 3) := by decide +kernel
theorem dX11_runs_14 : decode cX11_runs 14 = .ok (.aload_n 0, 1) := by decide +kernel
theorem dX11_runs_15 : decode cX11_runs 15 = .ok (.invokevirtual 468, 3) := by decide +kernel
theorem dX11_runs_18 : decode cX11_runs 18 = .ok (.goto (-14), 3) := by decide +kernel
theorem dX11_runs_21 : decode cX11_runs 21 = .ok (.return_, 1) := by decide +kernel
set_option maxRecDepth 10000 in
theorem vX11_runs_0 {κ : eg_K} {d : Nat} (hd : 1 ≤ d) {post : eg_H → Prop} (M : eg_H) (l1 : Int32) (h : eCV κ gM mtX11_begins d [vR (60, 0)] M (fun M1 => eg_W κ gM mtX11_runs d (eQV κ gM post) 4 [(0, vR (60, 0)), (1, vI l1)] [] M1)) : eg_W κ gM mtX11_runs d (eQV κ gM post) 0 [(0, vR (60, 0)), (1, vI l1)] [] M := by
  refine eg_aload_n 0 dX11_runs_0 rfl rfl ?_
  obtain ⟨q2, hq2, h⟩ := h
  refine eg_callVV (av := []) (st := []) dX11_runs_1 ml_11_246 rfl rfl (obM_60 z1) (by decide) rfl (Nat.le_of_ble_eq_true rfl) (eg_dd (by omega)) hq2 (fun M1 hp => ?_)
  have h := h M1 hp
  exact h
set_option maxRecDepth 10000 in
theorem vX11_runs_4 {κ : eg_K} {d : Nat} (hd : 1 ≤ d) {post : eg_H → Prop} (M : eg_H) (l1 : Int32) (h : (vp_in (0 : Int32) 366 ∧ (l1 ≤ (M.1 (110, 0) (0 : Int32).toNatClampNeg) → post M) ∧ ((¬ l1 ≤ (M.1 (110, 0) (0 : Int32).toNatClampNeg)) → eCV κ gM mtX11_second d [vR (60, 0)] M (fun M3 => eg_W κ gM mtX11_runs d (eQV κ gM post) 4 [(0, vR (60, 0)), (1, vI l1)] [] M3)))) : eg_W κ gM mtX11_runs d (eQV κ gM post) 4 [(0, vR (60, 0)), (1, vI l1)] [] M := by
  refine eg_aload_n 0 dX11_runs_4 rfl rfl ?_
  refine eg_getR dX11_runs_5 fl_11_69 rfl rfl (obM_60 z1) ?_
  show eg_W κ gM mtX11_runs d (eQV κ gM post) 8 [(0, vR (60, 0)), (1, vI l1)] [vR (110, 0)] M
  refine eg_iconst dX11_runs_8 ic_0 ?_
  obtain ⟨g1, h⟩ := h
  refine eg_iaload dX11_runs_9 (arM_110 z1 g1) ?_
  refine eg_iload_n 1 dX11_runs_10 rfl rfl ?_
  refine eg_icmp_ge (tgt := 21) dX11_runs_11 rfl (fun c2 => ?_) (fun c2 => ?_)
  · have h := h.1 c2
    exact eg_vreturn dX11_runs_21 rfl h
  · have h := h.2 c2
    refine eg_aload_n 0 dX11_runs_14 rfl rfl ?_
    obtain ⟨q4, hq4, h⟩ := h
    refine eg_callVV (av := []) (st := []) dX11_runs_15 ml_11_468 rfl rfl (obM_60 z1) (by decide) rfl (Nat.le_of_ble_eq_true rfl) (eg_dd (by omega)) hq4 (fun M3 hp => ?_)
    have h := h M3 hp
    refine eg_goto (tgt := 4) dX11_runs_18 rfl ?_
    exact h
