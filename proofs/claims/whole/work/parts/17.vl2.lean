theorem dX11_valueOf_0 : decode cX11_valueOf 0 = .ok (.aload_n 0, 1) := by decide +kernel
theorem dX11_valueOf_1 : decode cX11_valueOf 1 = .ok (.getfield 54, 3) := by decide +kernel
theorem dX11_valueOf_4 : decode cX11_valueOf 4 = .ok (.iload_n 1, 1) := by decide +kernel
theorem dX11_valueOf_5 : decode cX11_valueOf 5 = .ok (.iaload, 1) := by decide +kernel
theorem dX11_valueOf_6 : decode cX11_valueOf 6 = .ok (.ifCond .ne 11, 3) := by decide +kernel
theorem dX11_valueOf_9 : decode cX11_valueOf 9 = .ok (.aload_n 0, 1) := by decide +kernel
theorem dX11_valueOf_10 : decode cX11_valueOf 10 = .ok (.getfield 57, 3) := by decide +kernel
theorem dX11_valueOf_13 : decode cX11_valueOf 13 = .ok (.iload_n 1, 1) := by decide +kernel
theorem dX11_valueOf_14 : decode cX11_valueOf 14 = .ok (.iaload, 1) := by decide +kernel
theorem dX11_valueOf_15 : decode cX11_valueOf 15 = .ok (.i2l, 1) := by decide +kernel
theorem dX11_valueOf_16 : decode cX11_valueOf 16 = .ok (.lreturn, 1) := by decide +kernel
theorem dX11_valueOf_17 : decode cX11_valueOf 17 = .ok (.aload_n 0, 1) := by decide +kernel
theorem dX11_valueOf_18 : decode cX11_valueOf 18 = .ok (.getfield 54, 3) := by decide +kernel
theorem dX11_valueOf_21 : decode cX11_valueOf 21 = .ok (.iload_n 1, 1) := by decide +kernel
theorem dX11_valueOf_22 : decode cX11_valueOf 22 = .ok (.iaload, 1) := by decide +kernel
theorem dX11_valueOf_23 : decode cX11_valueOf 23 = .ok (.iconst 1, 1) := by decide +kernel
theorem dX11_valueOf_24 : decode cX11_valueOf 24 = .ok (.if_icmp .ne 15, 3) := by decide +kernel
theorem dX11_valueOf_27 : decode cX11_valueOf 27 = .ok (.aload_n 0, 1) := by decide +kernel
theorem dX11_valueOf_28 : decode cX11_valueOf 28 = .ok (.getfield 84, 3) := by decide +kernel
theorem dX11_valueOf_31 : decode cX11_valueOf 31 = .ok (.aload_n 0, 1) := by decide +kernel
theorem dX11_valueOf_32 : decode cX11_valueOf 32 = .ok (.getfield 57, 3) := by decide +kernel
theorem dX11_valueOf_35 : decode cX11_valueOf 35 = .ok (.iload_n 1, 1) := by decide +kernel
theorem dX11_valueOf_36 : decode cX11_valueOf 36 = .ok (.iaload, 1) := by decide +kernel
theorem dX11_valueOf_37 : decode cX11_valueOf 37 = .ok (.laload, 1) := by decide +kernel
theorem dX11_valueOf_38 : decode cX11_valueOf 38 = .ok (.lreturn, 1) := by decide +kernel
theorem dX11_valueOf_39 : decode cX11_valueOf 39 = .ok (.aload_n 0, 1) := by decide +kernel
theorem dX11_valueOf_40 : decode cX11_valueOf 40 = .ok (.getfield 88, 3) := by decide +kernel
theorem dX11_valueOf_43 : decode cX11_valueOf 43 = .ok (.aload_n 0, 1) := by decide +kernel
theorem dX11_valueOf_44 : decode cX11_valueOf 44 = .ok (.getfield 57, 3) := by decide +kernel
theorem dX11_valueOf_47 : decode cX11_valueOf 47 = .ok (.iload_n 1, 1) := by decide +kernel
theorem dX11_valueOf_48 : decode cX11_valueOf 48 = .ok (.iaload, 1) := by decide +kernel
theorem dX11_valueOf_49 : decode cX11_valueOf 49 = .ok (.laload, 1) := by decide +kernel
theorem dX11_valueOf_50 : decode cX11_valueOf 50 = .ok (.lstore_n 2, 1) := by decide +kernel
theorem dX11_valueOf_51 : decode cX11_valueOf 51 = .ok (.aload_n 0, 1) := by decide +kernel
theorem dX11_valueOf_52 : decode cX11_valueOf 52 = .ok (.getfield 54, 3) := by decide +kernel
theorem dX11_valueOf_55 : decode cX11_valueOf 55 = .ok (.iload_n 1, 1) := by decide +kernel
theorem dX11_valueOf_56 : decode cX11_valueOf 56 = .ok (.iaload, 1) := by decide +kernel
theorem dX11_valueOf_57 : decode cX11_valueOf 57 = .ok (.iconst 2, 1) := by decide +kernel
theorem dX11_valueOf_58 : decode cX11_valueOf 58 = .ok (.if_icmp .ne 15, 3) := by decide +kernel
theorem dX11_valueOf_61 : decode cX11_valueOf 61 = .ok (.lload_n 2, 1) := by decide +kernel
theorem dX11_valueOf_62 : decode cX11_valueOf 62 = .ok (.lconst 0, 1) := by decide +kernel
theorem dX11_valueOf_63 : decode cX11_valueOf 63 = .ok (.lcmp, 1) := by decide +kernel
theorem dX11_valueOf_64 : decode cX11_valueOf 64 = .ok (.ifCond .ne 7, 3) := by decide +kernel
theorem dX11_valueOf_67 : decode cX11_valueOf 67 = .ok (.lconst 1, 1) := by decide +kernel
theorem dX11_valueOf_68 : decode cX11_valueOf 68 = .ok (.goto 4, 3) := by decide +kernel
theorem dX11_valueOf_71 : decode cX11_valueOf 71 = .ok (.lconst 0, 1) := by decide +kernel
theorem dX11_valueOf_72 : decode cX11_valueOf 72 = .ok (.lreturn, 1) := by decide +kernel
theorem dX11_valueOf_73 : decode cX11_valueOf 73 = .ok (.aload_n 0, 1) := by decide +kernel
theorem dX11_valueOf_74 : decode cX11_valueOf 74 = .ok (.getfield 88, 3) := by decide +kernel
theorem dX11_valueOf_77 : decode cX11_valueOf 77 = .ok (.aload_n 0, 1) := by decide +kernel
theorem dX11_valueOf_78 : decode cX11_valueOf 78 = .ok (.getfield 60, 3) := by decide +kernel
theorem dX11_valueOf_81 : decode cX11_valueOf 81 = .ok (.iload_n 1, 1) := by decide +kernel
theorem dX11_valueOf_82 : decode cX11_valueOf 82 = .ok (.iaload, 1) := by decide +kernel
theorem dX11_valueOf_83 : decode cX11_valueOf 83 = .ok (.laload, 1) := by decide +kernel
theorem dX11_valueOf_84 : decode cX11_valueOf 84 = .ok (.lstore 4, 2) := by decide +kernel
theorem dX11_valueOf_86 : decode cX11_valueOf 86 = .ok (.aload_n 0, 1) := by decide +kernel
theorem dX11_valueOf_87 : decode cX11_valueOf 87 = .ok (.getfield 54, 3) := by decide +kernel
theorem dX11_valueOf_90 : decode cX11_valueOf 90 = .ok (.iload_n 1, 1) := by decide +kernel
theorem dX11_valueOf_91 : decode cX11_valueOf 91 = .ok (.iaload, 1) := by decide +kernel
theorem dX11_valueOf_92 : decode cX11_valueOf 92 = .ok (.tableswitch 167 3 14 #[64, 83, 167, 167, 167, 167, 167, 167, 102, 111, 120, 128], 64) := by decide +kernel
theorem dX11_valueOf_156 : decode cX11_valueOf 156 = .ok (.lload_n 2, 1) := by decide +kernel
theorem dX11_valueOf_157 : decode cX11_valueOf 157 = .ok (.lconst 0, 1) := by decide +kernel
theorem dX11_valueOf_158 : decode cX11_valueOf 158 = .ok (.lcmp, 1) := by decide +kernel
theorem dX11_valueOf_159 : decode cX11_valueOf 159 = .ok (.ifCond .eq 14, 3) := by decide +kernel
theorem dX11_valueOf_162 : decode cX11_valueOf 162 = .ok (.lload 4, 2) := by decide +kernel
theorem dX11_valueOf_164 : decode cX11_valueOf 164 = .ok (.lconst 0, 1) := by decide +kernel
theorem dX11_valueOf_165 : decode cX11_valueOf 165 = .ok (.lcmp, 1) := by decide +kernel
theorem dX11_valueOf_166 : decode cX11_valueOf 166 = .ok (.ifCond .eq 7, 3) := by decide +kernel
theorem dX11_valueOf_169 : decode cX11_valueOf 169 = .ok (.lconst 1, 1) := by decide +kernel
theorem dX11_valueOf_170 : decode cX11_valueOf 170 = .ok (.goto 4, 3) := by decide +kernel
theorem dX11_valueOf_173 : decode cX11_valueOf 173 = .ok (.lconst 0, 1) := by decide +kernel
theorem dX11_valueOf_174 : decode cX11_valueOf 174 = .ok (.lreturn, 1) := by decide +kernel
theorem dX11_valueOf_175 : decode cX11_valueOf 175 = .ok (.lload_n 2, 1) := by decide +kernel
theorem dX11_valueOf_176 : decode cX11_valueOf 176 = .ok (.lconst 0, 1) := by decide +kernel
theorem dX11_valueOf_177 : decode cX11_valueOf 177 = .ok (.lcmp, 1) := by decide +kernel
theorem dX11_valueOf_178 : decode cX11_valueOf 178 = .ok (.ifCond .ne 10, 3) := by decide +kernel
theorem dX11_valueOf_181 : decode cX11_valueOf 181 = .ok (.lload 4, 2) := by decide +kernel
theorem dX11_valueOf_183 : decode cX11_valueOf 183 = .ok (.lconst 0, 1) := by decide +kernel
theorem dX11_valueOf_184 : decode cX11_valueOf 184 = .ok (.lcmp, 1) := by decide +kernel
theorem dX11_valueOf_185 : decode cX11_valueOf 185 = .ok (.ifCond .eq 7, 3) := by decide +kernel
theorem dX11_valueOf_188 : decode cX11_valueOf 188 = .ok (.lconst 1, 1) := by decide +kernel
theorem dX11_valueOf_189 : decode cX11_valueOf 189 = .ok (.goto 4, 3) := by decide +kernel
theorem dX11_valueOf_192 : decode cX11_valueOf 192 = .ok (.lconst 0, 1) := by decide +kernel
theorem dX11_valueOf_193 : decode cX11_valueOf 193 = .ok (.lreturn, 1) := by decide +kernel
theorem dX11_valueOf_194 : decode cX11_valueOf 194 = .ok (.aload_n 0, 1) := by decide +kernel
theorem dX11_valueOf_195 : decode cX11_valueOf 195 = .ok (.lload_n 2, 1) := by decide +kernel
theorem dX11_valueOf_196 : decode cX11_valueOf 196 = .ok (.lload 4, 2) := by decide +kernel
theorem dX11_valueOf_198 : decode cX11_valueOf 198 = .ok (.ladd, 1) := by decide +kernel
theorem dX11_valueOf_199 : decode cX11_valueOf 199 = .ok (.invokevirtual 390, 3) := by decide +kernel
theorem dX11_valueOf_202 : decode cX11_valueOf 202 = .ok (.lreturn, 1) := by decide +kernel
theorem dX11_valueOf_203 : decode cX11_valueOf 203 = .ok (.aload_n 0, 1) := by decide +kernel
theorem dX11_valueOf_204 : decode cX11_valueOf 204 = .ok (.lload_n 2, 1) := by decide +kernel
theorem dX11_valueOf_205 : decode cX11_valueOf 205 = .ok (.lload 4, 2) := by decide +kernel
theorem dX11_valueOf_207 : decode cX11_valueOf 207 = .ok (.lsub, 1) := by decide +kernel
theorem dX11_valueOf_208 : decode cX11_valueOf 208 = .ok (.invokevirtual 390, 3) := by decide +kernel
theorem dX11_valueOf_211 : decode cX11_valueOf 211 = .ok (.lreturn, 1) := by decide +kernel
theorem dX11_valueOf_212 : decode cX11_valueOf 212 = .ok (.aload_n 0, 1) := by decide +kernel
theorem dX11_valueOf_213 : decode cX11_valueOf 213 = .ok (.lload_n 2, 1) := by decide +kernel
theorem dX11_valueOf_214 : decode cX11_valueOf 214 = .ok (.lload 4, 2) := by decide +kernel
theorem dX11_valueOf_216 : decode cX11_valueOf 216 = .ok (.invokevirtual 394, 3) := by decide +kernel
theorem dX11_valueOf_219 : decode cX11_valueOf 219 = .ok (.lreturn, 1) := by decide +kernel
theorem dX11_valueOf_220 : decode cX11_valueOf 220 = .ok (.aload_n 0, 1) := by decide +kernel
theorem dX11_valueOf_221 : decode cX11_valueOf 221 = .ok (.aload_n 0, 1) := by decide +kernel
theorem dX11_valueOf_222 : decode cX11_valueOf 222 = .ok (.getfield 383, 3) := by decide +kernel
theorem dX11_valueOf_225 : decode cX11_valueOf 225 = .ok (.ifCond .ne 10, 3) := by decide +kernel
theorem dX11_valueOf_228 : decode cX11_valueOf 228 = .ok (.lload 4, 2) := by decide +kernel
theorem dX11_valueOf_230 : decode cX11_valueOf 230 = .ok (.lconst 0, 1) := by decide +kernel
theorem dX11_valueOf_231 : decode cX11_valueOf 231 = .ok (.lcmp, 1) := by decide +kernel
theorem dX11_valueOf_232 : decode cX11_valueOf 232 = .ok (.ifCond .ne 7, 3) := by decide +kernel
theorem dX11_valueOf_235 : decode cX11_valueOf 235 = .ok (.iconst 1, 1) := by decide +kernel
theorem dX11_valueOf_236 : decode cX11_valueOf 236 = .ok (.goto 4, 3) := by decide +kernel
theorem dX11_valueOf_239 : decode cX11_valueOf 239 = .ok (.iconst 0, 1) := by decide +kernel
theorem dX11_valueOf_240 : decode cX11_valueOf 240 = .ok (.putfield 383, 3) := by decide +kernel
theorem dX11_valueOf_243 : decode cX11_valueOf 243 = .ok (.aload_n 0, 1) := by decide +kernel
theorem dX11_valueOf_244 : decode cX11_valueOf 244 = .ok (.getfield 383, 3) := by decide +kernel
theorem dX11_valueOf_247 : decode cX11_valueOf 247 = .ok (.ifCond .eq 7, 3) := by decide +kernel
theorem dX11_valueOf_250 : decode cX11_valueOf 250 = .ok (.lconst 0, 1) := by decide +kernel
theorem dX11_valueOf_251 : decode cX11_valueOf 251 = .ok (.goto 7, 3) := by decide +kernel
theorem dX11_valueOf_254 : decode cX11_valueOf 254 = .ok (.lload_n 2, 1) := by decide +kernel
theorem dX11_valueOf_255 : decode cX11_valueOf 255 = .ok (.lload 4, 2) := by decide +kernel
theorem dX11_valueOf_257 : decode cX11_valueOf 257 = .ok (.ldiv, 1) := by decide +kernel
theorem dX11_valueOf_258 : decode cX11_valueOf 258 = .ok (.lreturn, 1) := by decide +kernel
theorem dX11_valueOf_259 : decode cX11_valueOf 259 = .ok (.aload_n 0, 1) := by decide +kernel
theorem dX11_valueOf_260 : decode cX11_valueOf 260 = .ok (.getfield 54, 3) := by decide +kernel
theorem dX11_valueOf_263 : decode cX11_valueOf 263 = .ok (.iload_n 1, 1) := by decide +kernel
theorem dX11_valueOf_264 : decode cX11_valueOf 264 = .ok (.iaload, 1) := by decide +kernel
theorem dX11_valueOf_265 : decode cX11_valueOf 265 = .ok (.lload_n 2, 1) := by decide +kernel
theorem dX11_valueOf_266 : decode cX11_valueOf 266 = .ok (.lload 4, 2) := by decide +kernel
theorem dX11_valueOf_268 : decode cX11_valueOf 268 = .ok (.invokestatic 398, 3) := by decide +kernel
theorem dX11_valueOf_271 : decode cX11_valueOf 271 = .ok (.ifCond .eq 7, 3) := by decide +kernel
theorem dX11_valueOf_274 : decode cX11_valueOf 274 = .ok (.lconst 1, 1) := by decide +kernel
theorem dX11_valueOf_275 : decode cX11_valueOf 275 = .ok (.goto 4, 3) := by decide +kernel
theorem dX11_valueOf_278 : decode cX11_valueOf 278 = .ok (.lconst 0, 1) := by decide +kernel
theorem dX11_valueOf_279 : decode cX11_valueOf 279 = .ok (.lreturn, 1) := by decide +kernel
set_option maxRecDepth 10000 in
theorem vX11_valueOf_0 {κ : eg_K} {d : Nat} (hd : 1 ≤ d) {post : Int64 → eg_H → Prop} (M : eg_H) (l1 : Int32) (h : (vp_in l1 128 ∧ ((¬ (M.1 (99, 0) l1.toNatClampNeg) = 0) → ((¬ (M.1 (99, 0) l1.toNatClampNeg) = (1 : Int32)) → (vp_in (M.1 (100, 0) l1.toNatClampNeg) 64 ∧ (∀ x5 : Int64, x5 = (M.2.1 (128, 0) (M.1 (100, 0) l1.toNatClampNeg).toNatClampNeg) → ((¬ (M.1 (99, 0) l1.toNatClampNeg) = (2 : Int32)) → (vp_in (M.1 (101, 0) l1.toNatClampNeg) 64 ∧ (∀ x8 : Int64, x8 = (M.2.1 (128, 0) (M.1 (101, 0) l1.toNatClampNeg).toNatClampNeg) → ((¬ (M.1 (99, 0) l1.toNatClampNeg) = (3 : Int32)) → (¬ (M.1 (99, 0) l1.toNatClampNeg) = (4 : Int32)) → (¬ (M.1 (99, 0) l1.toNatClampNeg) = (11 : Int32)) → (¬ (M.1 (99, 0) l1.toNatClampNeg) = (12 : Int32)) → (¬ (M.1 (99, 0) l1.toNatClampNeg) = (13 : Int32)) → (¬ (M.1 (99, 0) l1.toNatClampNeg) = (14 : Int32)) → eg_W κ gM mtX11_valueOf d (eQL κ gM post) 259 [(0, vR (60, 0)), (1, vI l1), (2, vL x5), (4, vL x8)] [] M) ∧ ((M.1 (99, 0) l1.toNatClampNeg) = (3 : Int32) → (∀ x9 : Int64, x9 = ((if (lg_cmp x5 (0 : Int64)) = 0 then (0 : Int64) else (if (lg_cmp x8 (0 : Int64)) = 0 then (0 : Int64) else (1 : Int64)))) → post x9 M)) ∧ ((M.1 (99, 0) l1.toNatClampNeg) = (4 : Int32) → (∀ x12 : Int64, x12 = ((if (¬ (lg_cmp x5 (0 : Int64)) = 0) then (1 : Int64) else (if (lg_cmp x8 (0 : Int64)) = 0 then (0 : Int64) else (1 : Int64)))) → post x12 M)) ∧ ((M.1 (99, 0) l1.toNatClampNeg) = (11 : Int32) → (∀ (x17 : Int64) (M16 : eg_H), (x17, M16) = fX11_bounded M (x5 + x8) → post x17 M16)) ∧ ((M.1 (99, 0) l1.toNatClampNeg) = (12 : Int32) → (∀ (x19 : Int64) (M18 : eg_H), (x19, M18) = fX11_bounded M (x5 - x8) → post x19 M18)) ∧ ((M.1 (99, 0) l1.toNatClampNeg) = (13 : Int32) → (∀ (x21 : Int64) (M20 : eg_H), (x21, M20) = fX11_times M x5 x8 → post x21 M20)) ∧ ((M.1 (99, 0) l1.toNatClampNeg) = (14 : Int32) → (∀ x22 : Int32, x22 = ((if (¬ (M.1 (60, 0) 68) = 0) then (1 : Int32) else (if (¬ (lg_cmp x8 (0 : Int64)) = 0) then (0 : Int32) else (1 : Int32)))) → (∀ M23 : eg_H, M23 = (sI M (60, 0) 68 x22) → ((M23.1 (60, 0) 68) = 0 → ((¬ x8 = 0) ∧ post (x5 / x8) M23)) ∧ ((¬ (M23.1 (60, 0) 68) = 0) → post (0 : Int64) M23))))))) ∧ ((M.1 (99, 0) l1.toNatClampNeg) = (2 : Int32) → (∀ x30 : Int64, x30 = ((if (¬ (lg_cmp x5 (0 : Int64)) = 0) then (0 : Int64) else (1 : Int64))) → post x30 M))))) ∧ ((M.1 (99, 0) l1.toNatClampNeg) = (1 : Int32) → (vp_in (M.1 (100, 0) l1.toNatClampNeg) 8 ∧ post (M.2.1 (127, 0) (M.1 (100, 0) l1.toNatClampNeg).toNatClampNeg) M))) ∧ ((M.1 (99, 0) l1.toNatClampNeg) = 0 → post ((M.1 (100, 0) l1.toNatClampNeg).toInt64) M))) : eg_W κ gM mtX11_valueOf d (eQL κ gM post) 0 [(0, vR (60, 0)), (1, vI l1)] [] M := by
  refine eg_aload_n 0 dX11_valueOf_0 rfl rfl ?_
  refine eg_getR dX11_valueOf_1 fl_11_54 rfl rfl (obM_60 z1) ?_
  show eg_W κ gM mtX11_valueOf d (eQL κ gM post) 4 [(0, vR (60, 0)), (1, vI l1)] [vR (99, 0)] M
  refine eg_iload_n 1 dX11_valueOf_4 rfl rfl ?_
  obtain ⟨g1, h⟩ := h
  refine eg_iaload dX11_valueOf_5 (arM_99 z1 g1) ?_
  refine eg_if_ne (tgt := 17) dX11_valueOf_6 rfl (fun c2 => ?_) (fun c2 => ?_)
  · have h := h.1 c2
    refine eg_aload_n 0 dX11_valueOf_17 rfl rfl ?_
    refine eg_getR dX11_valueOf_18 fl_11_54 rfl rfl (obM_60 z1) ?_
    show eg_W κ gM mtX11_valueOf d (eQL κ gM post) 21 [(0, vR (60, 0)), (1, vI l1)] [vR (99, 0)] M
    refine eg_iload_n 1 dX11_valueOf_21 rfl rfl ?_
    refine eg_iaload dX11_valueOf_22 (arM_99 z1 g1) ?_
    refine eg_iconst dX11_valueOf_23 ic_1 ?_
    refine eg_icmp_ne (tgt := 39) dX11_valueOf_24 rfl (fun c3 => ?_) (fun c3 => ?_)
    · have h := h.1 c3
      refine eg_aload_n 0 dX11_valueOf_39 rfl rfl ?_
      refine eg_getR dX11_valueOf_40 fl_11_88 rfl rfl (obM_60 z1) ?_
      show eg_W κ gM mtX11_valueOf d (eQL κ gM post) 43 [(0, vR (60, 0)), (1, vI l1)] [vR (128, 0)] M
      refine eg_aload_n 0 dX11_valueOf_43 rfl rfl ?_
      refine eg_getR dX11_valueOf_44 fl_11_57 rfl rfl (obM_60 z1) ?_
      show eg_W κ gM mtX11_valueOf d (eQL κ gM post) 47 [(0, vR (60, 0)), (1, vI l1)] [vR (100, 0), vR (128, 0)] M
      refine eg_iload_n 1 dX11_valueOf_47 rfl rfl ?_
      refine eg_iaload dX11_valueOf_48 (arM_100 z1 g1) ?_
      obtain ⟨g4, h⟩ := h
      refine eg_laload dX11_valueOf_49 (arM_128 z1 g4) ?_
      refine en_lstore_n (f := fun x5 => [(2, vL x5), (0, vR (60, 0)), (1, vI l1)]) dX11_valueOf_50 rfl (by decide) rfl (fun x5 ex5 => ?_)
      have h := h x5 ex5
      refine eg_aload_n 1 dX11_valueOf_51 rfl rfl ?_
      refine eg_getR dX11_valueOf_52 fl_11_54 rfl rfl (obM_60 z1) ?_
      show eg_W κ gM mtX11_valueOf d (eQL κ gM post) 55 [(2, vL x5), (0, vR (60, 0)), (1, vI l1)] [vR (99, 0)] M
      refine eg_iload_n 2 dX11_valueOf_55 rfl rfl ?_
      refine eg_iaload dX11_valueOf_56 (arM_99 z1 g1) ?_
      refine eg_iconst dX11_valueOf_57 ic_2 ?_
      refine eg_icmp_ne (tgt := 73) dX11_valueOf_58 rfl (fun c6 => ?_) (fun c6 => ?_)
      · have h := h.1 c6
        refine eg_aload_n 1 dX11_valueOf_73 rfl rfl ?_
        refine eg_getR dX11_valueOf_74 fl_11_88 rfl rfl (obM_60 z1) ?_
        show eg_W κ gM mtX11_valueOf d (eQL κ gM post) 77 [(2, vL x5), (0, vR (60, 0)), (1, vI l1)] [vR (128, 0)] M
        refine eg_aload_n 1 dX11_valueOf_77 rfl rfl ?_
        refine eg_getR dX11_valueOf_78 fl_11_60 rfl rfl (obM_60 z1) ?_
        show eg_W κ gM mtX11_valueOf d (eQL κ gM post) 81 [(2, vL x5), (0, vR (60, 0)), (1, vI l1)] [vR (101, 0), vR (128, 0)] M
        refine eg_iload_n 2 dX11_valueOf_81 rfl rfl ?_
        refine eg_iaload dX11_valueOf_82 (arM_101 z1 g1) ?_
        obtain ⟨g7, h⟩ := h
        refine eg_laload dX11_valueOf_83 (arM_128 z1 g7) ?_
        refine en_lstore (f := fun x8 => [(4, vL x8), (2, vL x5), (0, vR (60, 0)), (1, vI l1)]) dX11_valueOf_84 (by decide) rfl (fun x8 ex8 => ?_)
        have h := h x8 ex8
        refine eg_aload_n 2 dX11_valueOf_86 rfl rfl ?_
        refine eg_getR dX11_valueOf_87 fl_11_54 rfl rfl (obM_60 z1) ?_
        show eg_W κ gM mtX11_valueOf d (eQL κ gM post) 90 [(4, vL x8), (2, vL x5), (0, vR (60, 0)), (1, vI l1)] [vR (99, 0)] M
        refine eg_iload_n 3 dX11_valueOf_90 rfl rfl ?_
        refine eg_iaload dX11_valueOf_91 (arM_99 z1 g1) ?_
        have J : (¬ (M.1 (99, 0) l1.toNatClampNeg) = (3 : Int32)) → (¬ (M.1 (99, 0) l1.toNatClampNeg) = (4 : Int32)) → (¬ (M.1 (99, 0) l1.toNatClampNeg) = (11 : Int32)) → (¬ (M.1 (99, 0) l1.toNatClampNeg) = (12 : Int32)) → (¬ (M.1 (99, 0) l1.toNatClampNeg) = (13 : Int32)) → (¬ (M.1 (99, 0) l1.toNatClampNeg) = (14 : Int32)) → eg_W κ gM mtX11_valueOf d (eQL κ gM post) 259 [(4, vL x8), (2, vL x5), (0, vR (60, 0)), (1, vI l1)] [] M := by
          intro c0_ c1_ c8_ c9_ c10_ c11_
          have h := h.1 c0_ c1_ c8_ c9_ c10_ c11_
          refine eg_sub [2, 3, 1, 0] rfl ?_
          exact h
        by_cases c0_ : (M.1 (99, 0) l1.toNatClampNeg) = (3 : Int32)
        · refine eg_tabI (tgt := 156) dX11_valueOf_92 (by rw [c0_]; decide) (by rw [c0_]; decide) (off := 64) (by rw [c0_]; rfl) rfl ?_
          have h := h.2.1 c0_
          refine eg_lload_n 1 dX11_valueOf_156 rfl rfl ?_
          refine eg_lconst dX11_valueOf_157 lc_0 ?_
          refine eg_lcmp dX11_valueOf_158 ?_
          have J : ∀ x9 : Int64, x9 = (if (lg_cmp x5 (0 : Int64)) = 0 then (0 : Int64) else (if (lg_cmp x8 (0 : Int64)) = 0 then (0 : Int64) else (1 : Int64))) → eg_W κ gM mtX11_valueOf d (eQL κ gM post) 174 [(4, vL x8), (2, vL x5), (0, vR (60, 0)), (1, vI l1)] [vL x9] M := by
            intro x9 ex9
            have h := h x9 ex9
            exact eg_lreturn dX11_valueOf_174 rfl h
          clear h
          refine eg_if_eq (tgt := 173) dX11_valueOf_159 rfl (fun c10 => ?_) (fun c10 => ?_)
          · refine eg_lconst dX11_valueOf_173 lc_0 ?_
            exact J _ (by rw [if_pos c10])
          · refine eg_lload 0 dX11_valueOf_162 rfl ?_
            refine eg_lconst dX11_valueOf_164 lc_0 ?_
            refine eg_lcmp dX11_valueOf_165 ?_
            refine eg_if_eq (tgt := 173) dX11_valueOf_166 rfl (fun c11 => ?_) (fun c11 => ?_)
            · refine eg_lconst dX11_valueOf_173 lc_0 ?_
              exact J _ (by rw [if_neg c10, if_pos c11])
            · refine eg_lconst dX11_valueOf_169 lc_1 ?_
              refine eg_goto (tgt := 174) dX11_valueOf_170 rfl ?_
              exact J _ (by rw [if_neg c10, if_neg c11])
        by_cases c1_ : (M.1 (99, 0) l1.toNatClampNeg) = (4 : Int32)
        · refine eg_tabI (tgt := 175) dX11_valueOf_92 (by rw [c1_]; decide) (by rw [c1_]; decide) (off := 83) (by rw [c1_]; rfl) rfl ?_
          have h := h.2.2.1 c1_
          refine eg_lload_n 1 dX11_valueOf_175 rfl rfl ?_
          refine eg_lconst dX11_valueOf_176 lc_0 ?_
          refine eg_lcmp dX11_valueOf_177 ?_
          have J : ∀ x12 : Int64, x12 = (if (¬ (lg_cmp x5 (0 : Int64)) = 0) then (1 : Int64) else (if (lg_cmp x8 (0 : Int64)) = 0 then (0 : Int64) else (1 : Int64))) → eg_W κ gM mtX11_valueOf d (eQL κ gM post) 193 [(4, vL x8), (2, vL x5), (0, vR (60, 0)), (1, vI l1)] [vL x12] M := by
            intro x12 ex12
            have h := h x12 ex12
            exact eg_lreturn dX11_valueOf_193 rfl h
          clear h
          refine eg_if_ne (tgt := 188) dX11_valueOf_178 rfl (fun c13 => ?_) (fun c13 => ?_)
          · refine eg_lconst dX11_valueOf_188 lc_1 ?_
            refine eg_goto (tgt := 193) dX11_valueOf_189 rfl ?_
            exact J _ (by rw [if_pos c13])
          · have c14 : ¬ (¬ (lg_cmp x5 (0 : Int64)) = 0) := fun z => z c13
            refine eg_lload 0 dX11_valueOf_181 rfl ?_
            refine eg_lconst dX11_valueOf_183 lc_0 ?_
            refine eg_lcmp dX11_valueOf_184 ?_
            refine eg_if_eq (tgt := 192) dX11_valueOf_185 rfl (fun c15 => ?_) (fun c15 => ?_)
            · refine eg_lconst dX11_valueOf_192 lc_0 ?_
              exact J _ (by rw [if_neg c14, if_pos c15])
            · refine eg_lconst dX11_valueOf_188 lc_1 ?_
              refine eg_goto (tgt := 193) dX11_valueOf_189 rfl ?_
              exact J _ (by rw [if_neg c14, if_neg c15])
        by_cases c2_ : (M.1 (99, 0) l1.toNatClampNeg) = (5 : Int32)
        · refine eg_tabI (tgt := 259) dX11_valueOf_92 (by rw [c2_]; decide) (by rw [c2_]; decide) (off := 167) (by rw [c2_]; rfl) rfl ?_
          exact J (by rw [c2_]; decide) (by rw [c2_]; decide) (by rw [c2_]; decide) (by rw [c2_]; decide) (by rw [c2_]; decide) (by rw [c2_]; decide)
        by_cases c3_ : (M.1 (99, 0) l1.toNatClampNeg) = (6 : Int32)
        · refine eg_tabI (tgt := 259) dX11_valueOf_92 (by rw [c3_]; decide) (by rw [c3_]; decide) (off := 167) (by rw [c3_]; rfl) rfl ?_
          exact J (by rw [c3_]; decide) (by rw [c3_]; decide) (by rw [c3_]; decide) (by rw [c3_]; decide) (by rw [c3_]; decide) (by rw [c3_]; decide)
        by_cases c4_ : (M.1 (99, 0) l1.toNatClampNeg) = (7 : Int32)
        · refine eg_tabI (tgt := 259) dX11_valueOf_92 (by rw [c4_]; decide) (by rw [c4_]; decide) (off := 167) (by rw [c4_]; rfl) rfl ?_
          exact J (by rw [c4_]; decide) (by rw [c4_]; decide) (by rw [c4_]; decide) (by rw [c4_]; decide) (by rw [c4_]; decide) (by rw [c4_]; decide)
        by_cases c5_ : (M.1 (99, 0) l1.toNatClampNeg) = (8 : Int32)
        · refine eg_tabI (tgt := 259) dX11_valueOf_92 (by rw [c5_]; decide) (by rw [c5_]; decide) (off := 167) (by rw [c5_]; rfl) rfl ?_
          exact J (by rw [c5_]; decide) (by rw [c5_]; decide) (by rw [c5_]; decide) (by rw [c5_]; decide) (by rw [c5_]; decide) (by rw [c5_]; decide)
        by_cases c6_ : (M.1 (99, 0) l1.toNatClampNeg) = (9 : Int32)
        · refine eg_tabI (tgt := 259) dX11_valueOf_92 (by rw [c6_]; decide) (by rw [c6_]; decide) (off := 167) (by rw [c6_]; rfl) rfl ?_
          exact J (by rw [c6_]; decide) (by rw [c6_]; decide) (by rw [c6_]; decide) (by rw [c6_]; decide) (by rw [c6_]; decide) (by rw [c6_]; decide)
        by_cases c7_ : (M.1 (99, 0) l1.toNatClampNeg) = (10 : Int32)
        · refine eg_tabI (tgt := 259) dX11_valueOf_92 (by rw [c7_]; decide) (by rw [c7_]; decide) (off := 167) (by rw [c7_]; rfl) rfl ?_
          exact J (by rw [c7_]; decide) (by rw [c7_]; decide) (by rw [c7_]; decide) (by rw [c7_]; decide) (by rw [c7_]; decide) (by rw [c7_]; decide)
        by_cases c8_ : (M.1 (99, 0) l1.toNatClampNeg) = (11 : Int32)
        · refine eg_tabI (tgt := 194) dX11_valueOf_92 (by rw [c8_]; decide) (by rw [c8_]; decide) (off := 102) (by rw [c8_]; rfl) rfl ?_
          have h := h.2.2.2.1 c8_
          refine eg_aload_n 2 dX11_valueOf_194 rfl rfl ?_
          refine eg_lload_n 1 dX11_valueOf_195 rfl rfl ?_
          refine eg_lload 0 dX11_valueOf_196 rfl ?_
          refine eg_ladd dX11_valueOf_198 ?_
          refine eg_callVL (av := [vL (x5 + x8)]) (st := []) dX11_valueOf_199 ml_11_390 rfl rfl (obM_60 z1) (by decide) rfl (Nat.le_of_ble_eq_true rfl) (eg_dd (by omega)) (sX11_bounded (by omega) M (x5 + x8)  ) (fun x17 M16 eM16 => ?_)
          have h := h x17 M16 eM16
          exact eg_lreturn dX11_valueOf_202 rfl h
        by_cases c9_ : (M.1 (99, 0) l1.toNatClampNeg) = (12 : Int32)
        · refine eg_tabI (tgt := 203) dX11_valueOf_92 (by rw [c9_]; decide) (by rw [c9_]; decide) (off := 111) (by rw [c9_]; rfl) rfl ?_
          have h := h.2.2.2.2.1 c9_
          refine eg_aload_n 2 dX11_valueOf_203 rfl rfl ?_
          refine eg_lload_n 1 dX11_valueOf_204 rfl rfl ?_
          refine eg_lload 0 dX11_valueOf_205 rfl ?_
          refine eg_lsub dX11_valueOf_207 ?_
          refine eg_callVL (av := [vL (x5 - x8)]) (st := []) dX11_valueOf_208 ml_11_390 rfl rfl (obM_60 z1) (by decide) rfl (Nat.le_of_ble_eq_true rfl) (eg_dd (by omega)) (sX11_bounded (by omega) M (x5 - x8)  ) (fun x19 M18 eM18 => ?_)
          have h := h x19 M18 eM18
          exact eg_lreturn dX11_valueOf_211 rfl h
        by_cases c10_ : (M.1 (99, 0) l1.toNatClampNeg) = (13 : Int32)
        · refine eg_tabI (tgt := 212) dX11_valueOf_92 (by rw [c10_]; decide) (by rw [c10_]; decide) (off := 120) (by rw [c10_]; rfl) rfl ?_
          have h := h.2.2.2.2.2.1 c10_
          refine eg_aload_n 2 dX11_valueOf_212 rfl rfl ?_
          refine eg_lload_n 1 dX11_valueOf_213 rfl rfl ?_
          refine eg_lload 0 dX11_valueOf_214 rfl ?_
          refine eg_callVL (av := [vL x5, vL x8]) (st := []) dX11_valueOf_216 ml_11_394 rfl rfl (obM_60 z1) (by decide) rfl (Nat.le_of_ble_eq_true rfl) (eg_dd (by omega)) (sX11_times (by omega) M x5 x8  ) (fun x21 M20 eM20 => ?_)
          have h := h x21 M20 eM20
          exact eg_lreturn dX11_valueOf_219 rfl h
        by_cases c11_ : (M.1 (99, 0) l1.toNatClampNeg) = (14 : Int32)
        · refine eg_tabI (tgt := 220) dX11_valueOf_92 (by rw [c11_]; decide) (by rw [c11_]; decide) (off := 128) (by rw [c11_]; rfl) rfl ?_
          have h := h.2.2.2.2.2.2 c11_
          refine eg_aload_n 2 dX11_valueOf_220 rfl rfl ?_
          refine eg_aload_n 2 dX11_valueOf_221 rfl rfl ?_
          refine eg_getI dX11_valueOf_222 fl_11_383 rfl trivial (obM_60 z1) ?_
          have J : ∀ x22 : Int32, x22 = (if (¬ (M.1 (60, 0) 68) = 0) then (1 : Int32) else (if (¬ (lg_cmp x8 (0 : Int64)) = 0) then (0 : Int32) else (1 : Int32))) → eg_W κ gM mtX11_valueOf d (eQL κ gM post) 240 [(4, vL x8), (2, vL x5), (0, vR (60, 0)), (1, vI l1)] [vI x22, vR (60, 0)] M := by
            intro x22 ex22
            have h := h x22 ex22
            refine en_putZ dX11_valueOf_240 fl_11_383 rfl rfl (show x22 = 0 ∨ x22 = 1 from by rw [ex22]; exact (eg_zi (Or.inr rfl) (eg_zi (Or.inl rfl) (Or.inr rfl)))) (obM_60 z1) (fun M23 eM23 => ?_)
            have h := h M23 eM23
            refine eg_aload_n 2 dX11_valueOf_243 rfl rfl ?_
            refine eg_getI dX11_valueOf_244 fl_11_383 rfl trivial (obM_60 z1) ?_
            refine eg_if_eq (tgt := 254) dX11_valueOf_247 rfl (fun c24 => ?_) (fun c24 => ?_)
            · have h := h.1 c24
              refine eg_lload_n 1 dX11_valueOf_254 rfl rfl ?_
              refine eg_lload 0 dX11_valueOf_255 rfl ?_
              obtain ⟨g25, h⟩ := h
              refine eg_ldiv dX11_valueOf_257 g25 ?_
              exact eg_lreturn dX11_valueOf_258 rfl h
            · have h := h.2 c24
              refine eg_lconst dX11_valueOf_250 lc_0 ?_
              refine eg_goto (tgt := 258) dX11_valueOf_251 rfl ?_
              exact eg_lreturn dX11_valueOf_258 rfl h
          clear h
          refine eg_if_ne (tgt := 235) dX11_valueOf_225 rfl (fun c26 => ?_) (fun c26 => ?_)
          · refine eg_iconst dX11_valueOf_235 ic_1 ?_
            refine eg_goto (tgt := 240) dX11_valueOf_236 rfl ?_
            exact J _ (by rw [if_pos c26])
          · have c27 : ¬ (¬ (M.1 (60, 0) 68) = 0) := fun z => z c26
            refine eg_lload 0 dX11_valueOf_228 rfl ?_
            refine eg_lconst dX11_valueOf_230 lc_0 ?_
            refine eg_lcmp dX11_valueOf_231 ?_
            refine eg_if_ne (tgt := 239) dX11_valueOf_232 rfl (fun c28 => ?_) (fun c28 => ?_)
            · refine eg_iconst dX11_valueOf_239 ic_0 ?_
              exact J _ (by rw [if_neg c27, if_pos c28])
            · have c29 : ¬ (¬ (lg_cmp x8 (0 : Int64)) = 0) := fun z => z c28
              refine eg_iconst dX11_valueOf_235 ic_1 ?_
              refine eg_goto (tgt := 240) dX11_valueOf_236 rfl ?_
              exact J _ (by rw [if_neg c27, if_neg c29])
        refine eg_tabO (tgt := 259) dX11_valueOf_92 ?_ rfl (J c0_ c1_ c8_ c9_ c10_ c11_)
        have t0_ := eg_ti 3 (by decide) c0_
        have t1_ := eg_ti 4 (by decide) c1_
        have t2_ := eg_ti 5 (by decide) c2_
        have t3_ := eg_ti 6 (by decide) c3_
        have t4_ := eg_ti 7 (by decide) c4_
        have t5_ := eg_ti 8 (by decide) c5_
        have t6_ := eg_ti 9 (by decide) c6_
        have t7_ := eg_ti 10 (by decide) c7_
        have t8_ := eg_ti 11 (by decide) c8_
        have t9_ := eg_ti 12 (by decide) c9_
        have t10_ := eg_ti 13 (by decide) c10_
        have t11_ := eg_ti 14 (by decide) c11_
        omega
      · have h := h.2 c6
        refine eg_lload_n 0 dX11_valueOf_61 rfl rfl ?_
        refine eg_lconst dX11_valueOf_62 lc_0 ?_
        refine eg_lcmp dX11_valueOf_63 ?_
        have J : ∀ x30 : Int64, x30 = (if (¬ (lg_cmp x5 (0 : Int64)) = 0) then (0 : Int64) else (1 : Int64)) → eg_W κ gM mtX11_valueOf d (eQL κ gM post) 72 [(2, vL x5), (0, vR (60, 0)), (1, vI l1)] [vL x30] M := by
          intro x30 ex30
          have h := h x30 ex30
          exact eg_lreturn dX11_valueOf_72 rfl h
        clear h
        refine eg_if_ne (tgt := 71) dX11_valueOf_64 rfl (fun c31 => ?_) (fun c31 => ?_)
        · refine eg_lconst dX11_valueOf_71 lc_0 ?_
          exact J _ (by rw [if_pos c31])
        · have c32 : ¬ (¬ (lg_cmp x5 (0 : Int64)) = 0) := fun z => z c31
          refine eg_lconst dX11_valueOf_67 lc_1 ?_
          refine eg_goto (tgt := 72) dX11_valueOf_68 rfl ?_
          exact J _ (by rw [if_neg c32])
    · have h := h.2 c3
      refine eg_aload_n 0 dX11_valueOf_27 rfl rfl ?_
      refine eg_getR dX11_valueOf_28 fl_11_84 rfl rfl (obM_60 z1) ?_
      show eg_W κ gM mtX11_valueOf d (eQL κ gM post) 31 [(0, vR (60, 0)), (1, vI l1)] [vR (127, 0)] M
      refine eg_aload_n 0 dX11_valueOf_31 rfl rfl ?_
      refine eg_getR dX11_valueOf_32 fl_11_57 rfl rfl (obM_60 z1) ?_
      show eg_W κ gM mtX11_valueOf d (eQL κ gM post) 35 [(0, vR (60, 0)), (1, vI l1)] [vR (100, 0), vR (127, 0)] M
      refine eg_iload_n 1 dX11_valueOf_35 rfl rfl ?_
      refine eg_iaload dX11_valueOf_36 (arM_100 z1 g1) ?_
      obtain ⟨g33, h⟩ := h
      refine eg_laload dX11_valueOf_37 (arM_127 z1 g33) ?_
      exact eg_lreturn dX11_valueOf_38 rfl h
  · have h := h.2 c2
    refine eg_aload_n 0 dX11_valueOf_9 rfl rfl ?_
    refine eg_getR dX11_valueOf_10 fl_11_57 rfl rfl (obM_60 z1) ?_
    show eg_W κ gM mtX11_valueOf d (eQL κ gM post) 13 [(0, vR (60, 0)), (1, vI l1)] [vR (100, 0)] M
    refine eg_iload_n 1 dX11_valueOf_13 rfl rfl ?_
    refine eg_iaload dX11_valueOf_14 (arM_100 z1 g1) ?_
    refine eg_i2l dX11_valueOf_15 ?_
    exact eg_lreturn dX11_valueOf_16 rfl h
set_option maxRecDepth 10000 in
theorem vX11_valueOf_259 {κ : eg_K} {d : Nat} (hd : 1 ≤ d) {post : Int64 → eg_H → Prop} (M : eg_H) (l1 : Int32) (l2 : Int64) (l4 : Int64) (h : (vp_in l1 128 ∧ (∀ x3 : Int32, x3 = (fX11_compares M (M.1 (99, 0) l1.toNatClampNeg) l2 l4) → (∀ x4 : Int64, x4 = ((if x3 = 0 then (0 : Int64) else (1 : Int64))) → post x4 M)))) : eg_W κ gM mtX11_valueOf d (eQL κ gM post) 259 [(0, vR (60, 0)), (1, vI l1), (2, vL l2), (4, vL l4)] [] M := by
  refine eg_aload_n 0 dX11_valueOf_259 rfl rfl ?_
  refine eg_getR dX11_valueOf_260 fl_11_54 rfl rfl (obM_60 z1) ?_
  show eg_W κ gM mtX11_valueOf d (eQL κ gM post) 263 [(0, vR (60, 0)), (1, vI l1), (2, vL l2), (4, vL l4)] [vR (99, 0)] M
  refine eg_iload_n 1 dX11_valueOf_263 rfl rfl ?_
  obtain ⟨g1, h⟩ := h
  refine eg_iaload dX11_valueOf_264 (arM_99 z1 g1) ?_
  refine eg_lload_n 2 dX11_valueOf_265 rfl rfl ?_
  refine eg_lload 3 dX11_valueOf_266 rfl ?_
  refine eg_callSI (av := [vI (M.1 (99, 0) l1.toNatClampNeg), vL l2, vL l4]) (st := []) dX11_valueOf_268 ml_11_398 rfl rfl (Nat.le_of_ble_eq_true rfl) (eg_dd (by omega)) (sX11_compares (by omega) M (M.1 (99, 0) l1.toNatClampNeg) l2 l4  ) (fun x3 M2 hp => ?_)
  obtain ⟨ex3, eM2⟩ := hp
  rw [eM2]
  have h := h x3 ex3
  have J : ∀ x4 : Int64, x4 = (if x3 = 0 then (0 : Int64) else (1 : Int64)) → eg_W κ gM mtX11_valueOf d (eQL κ gM post) 279 [(0, vR (60, 0)), (1, vI l1), (2, vL l2), (4, vL l4)] [vL x4] M := by
    intro x4 ex4
    have h := h x4 ex4
    exact eg_lreturn dX11_valueOf_279 rfl h
  clear h
  refine eg_if_eq (tgt := 278) dX11_valueOf_271 rfl (fun c5 => ?_) (fun c5 => ?_)
  · refine eg_lconst dX11_valueOf_278 lc_0 ?_
    exact J _ (by rw [if_pos c5])
  · refine eg_lconst dX11_valueOf_274 lc_1 ?_
    refine eg_goto (tgt := 279) dX11_valueOf_275 rfl ?_
    exact J _ (by rw [if_neg c5])
theorem dX11_sumOf_0 : decode cX11_sumOf 0 = .ok (.aload_n 0, 1) := by decide +kernel
theorem dX11_sumOf_1 : decode cX11_sumOf 1 = .ok (.iconst 0, 1) := by decide +kernel
theorem dX11_sumOf_2 : decode cX11_sumOf 2 = .ok (.putfield 383, 3) := by decide +kernel
theorem dX11_sumOf_5 : decode cX11_sumOf 5 = .ok (.aload_n 0, 1) := by decide +kernel
theorem dX11_sumOf_6 : decode cX11_sumOf 6 = .ok (.getfield 44, 3) := by decide +kernel
theorem dX11_sumOf_9 : decode cX11_sumOf 9 = .ok (.iload_n 1, 1) := by decide +kernel
theorem dX11_sumOf_10 : decode cX11_sumOf 10 = .ok (.iaload, 1) := by decide +kernel
theorem dX11_sumOf_11 : decode cX11_sumOf 11 = .ok (.istore_n 2, 1) := by decide +kernel
theorem dX11_sumOf_12 : decode cX11_sumOf 12 = .ok (.iload_n 2, 1) := by decide +kernel
theorem dX11_sumOf_13 : decode cX11_sumOf 13 = .ok (.aload_n 0, 1) := by decide +kernel
theorem dX11_sumOf_14 : decode cX11_sumOf 14 = .ok (.getfield 47, 3) := by decide +kernel
theorem dX11_sumOf_17 : decode cX11_sumOf 17 = .ok (.iload_n 1, 1) := by decide +kernel
theorem dX11_sumOf_18 : decode cX11_sumOf 18 = .ok (.iaload, 1) := by decide +kernel
theorem dX11_sumOf_19 : decode cX11_sumOf 19 = .ok (.if_icmp .ge 20, 3) := by decide +kernel
theorem dX11_sumOf_22 : decode cX11_sumOf 22 = .ok (.aload_n 0, 1) := by decide +kernel
theorem dX11_sumOf_23 : decode cX11_sumOf 23 = .ok (.getfield 88, 3) := by decide +kernel
theorem dX11_sumOf_26 : decode cX11_sumOf 26 = .ok (.iload_n 2, 1) := by decide +kernel
theorem dX11_sumOf_27 : decode cX11_sumOf 27 = .ok (.aload_n 0, 1) := by decide +kernel
theorem dX11_sumOf_28 : decode cX11_sumOf 28 = .ok (.iload_n 2, 1) := by decide +kernel
theorem dX11_sumOf_29 : decode cX11_sumOf 29 = .ok (.invokevirtual 402, 3) := by decide +kernel
theorem dX11_sumOf_32 : decode cX11_sumOf 32 = .ok (.lastore, 1) := by decide +kernel
theorem dX11_sumOf_33 : decode cX11_sumOf 33 = .ok (.iinc 2 1, 3) := by decide +kernel
theorem dX11_sumOf_36 : decode cX11_sumOf 36 = .ok (.goto (-24), 3) := by decide +kernel
theorem dX11_sumOf_39 : decode cX11_sumOf 39 = .ok (.aload_n 0, 1) := by decide +kernel
theorem dX11_sumOf_40 : decode cX11_sumOf 40 = .ok (.getfield 383, 3) := by decide +kernel
theorem dX11_sumOf_43 : decode cX11_sumOf 43 = .ok (.ifCond .eq 7, 3) := by decide +kernel
theorem dX11_sumOf_46 : decode cX11_sumOf 46 = .ok (.lconst 0, 1) := by decide +kernel
theorem dX11_sumOf_47 : decode cX11_sumOf 47 = .ok (.goto 16, 3) := by decide +kernel
theorem dX11_sumOf_50 : decode cX11_sumOf 50 = .ok (.aload_n 0, 1) := by decide +kernel
theorem dX11_sumOf_51 : decode cX11_sumOf 51 = .ok (.getfield 88, 3) := by decide +kernel
theorem dX11_sumOf_54 : decode cX11_sumOf 54 = .ok (.aload_n 0, 1) := by decide +kernel
theorem dX11_sumOf_55 : decode cX11_sumOf 55 = .ok (.getfield 47, 3) := by decide +kernel
theorem dX11_sumOf_58 : decode cX11_sumOf 58 = .ok (.iload_n 1, 1) := by decide +kernel
theorem dX11_sumOf_59 : decode cX11_sumOf 59 = .ok (.iaload, 1) := by decide +kernel
theorem dX11_sumOf_60 : decode cX11_sumOf 60 = .ok (.iconst 1, 1) := by decide +kernel
theorem dX11_sumOf_61 : decode cX11_sumOf 61 = .ok (.isub, 1) := by decide +kernel
theorem dX11_sumOf_62 : decode cX11_sumOf 62 = .ok (.laload, 1) := by decide +kernel
theorem dX11_sumOf_63 : decode cX11_sumOf 63 = .ok (.lreturn, 1) := by decide +kernel
set_option maxRecDepth 10000 in
theorem vX11_sumOf_0 {κ : eg_K} {d : Nat} {post : Int64 → eg_H → Prop} (M : eg_H) (l1 : Int32) (h : (∀ M1 : eg_H, M1 = (sI M (60, 0) 68 (0 : Int32)) → (vp_in l1 14 ∧ (∀ x3 : Int32, x3 = (M1.1 (96, 0) l1.toNatClampNeg) → eg_W κ gM mtX11_sumOf d (eQL κ gM post) 12 [(0, vR (60, 0)), (1, vI l1), (2, vI x3)] [] M1)))) : eg_W κ gM mtX11_sumOf d (eQL κ gM post) 0 [(0, vR (60, 0)), (1, vI l1)] [] M := by
  refine eg_aload_n 0 dX11_sumOf_0 rfl rfl ?_
  refine eg_iconst dX11_sumOf_1 ic_0 ?_
  refine en_putZ dX11_sumOf_2 fl_11_383 rfl rfl (Or.inl rfl) (obM_60 z1) (fun M1 eM1 => ?_)
  have h := h M1 eM1
  refine eg_aload_n 0 dX11_sumOf_5 rfl rfl ?_
  refine eg_getR dX11_sumOf_6 fl_11_44 rfl rfl (obM_60 z1) ?_
  show eg_W κ gM mtX11_sumOf d (eQL κ gM post) 9 [(0, vR (60, 0)), (1, vI l1)] [vR (96, 0)] M1
  refine eg_iload_n 1 dX11_sumOf_9 rfl rfl ?_
  obtain ⟨g2, h⟩ := h
  refine eg_iaload dX11_sumOf_10 (arM_96 z1 g2) ?_
  refine en_istore_n (f := fun x3 => [(2, vI x3), (0, vR (60, 0)), (1, vI l1)]) dX11_sumOf_11 rfl (by decide) rfl (fun x3 ex3 => ?_)
  have h := h x3 ex3
  refine eg_sub [1, 2, 0] rfl ?_
  exact h
set_option maxRecDepth 10000 in
theorem vX11_sumOf_12 {κ : eg_K} {d : Nat} (hd : 1 ≤ d) {post : Int64 → eg_H → Prop} (M : eg_H) (l1 : Int32) (l2 : Int32) (h : (vp_in l1 14 ∧ ((M.1 (97, 0) l1.toNatClampNeg) ≤ l2 → (((M.1 (60, 0) 68) = 0 → vp_in ((M.1 (97, 0) l1.toNatClampNeg) - (1 : Int32)) 64) ∧ (∀ x4 : Int64, x4 = ((if (M.1 (60, 0) 68) = 0 then (M.2.1 (128, 0) ((M.1 (97, 0) l1.toNatClampNeg) - (1 : Int32)).toNatClampNeg) else (0 : Int64))) → post x4 M))) ∧ ((¬ (M.1 (97, 0) l1.toNatClampNeg) ≤ l2) → eCL κ gM mtX11_valueOf d [vR (60, 0), vI l2] M (fun x6 M7 => (vp_in l2 64 ∧ (∀ M10 : eg_H, M10 = (sL M7 (128, 0) l2.toNatClampNeg x6) → (∀ x11 : Int32, x11 = (l2 + (1 : Int32)) → eg_W κ gM mtX11_sumOf d (eQL κ gM post) 12 [(0, vR (60, 0)), (1, vI l1), (2, vI x11)] [] M10))))))) : eg_W κ gM mtX11_sumOf d (eQL κ gM post) 12 [(0, vR (60, 0)), (1, vI l1), (2, vI l2)] [] M := by
  refine eg_iload_n 2 dX11_sumOf_12 rfl rfl ?_
  refine eg_aload_n 0 dX11_sumOf_13 rfl rfl ?_
  refine eg_getR dX11_sumOf_14 fl_11_47 rfl rfl (obM_60 z1) ?_
  show eg_W κ gM mtX11_sumOf d (eQL κ gM post) 17 [(0, vR (60, 0)), (1, vI l1), (2, vI l2)] [vR (97, 0), vI l2] M
  refine eg_iload_n 1 dX11_sumOf_17 rfl rfl ?_
  obtain ⟨g1, h⟩ := h
  refine eg_iaload dX11_sumOf_18 (arM_97 z1 g1) ?_
  refine eg_icmp_ge (tgt := 39) dX11_sumOf_19 rfl (fun c2 => ?_) (fun c2 => ?_)
  · have h := h.1 c2
    refine eg_aload_n 0 dX11_sumOf_39 rfl rfl ?_
    refine eg_getI dX11_sumOf_40 fl_11_383 rfl trivial (obM_60 z1) ?_
    obtain ⟨g3, h⟩ := h
    have J : ∀ x4 : Int64, x4 = (if (M.1 (60, 0) 68) = 0 then (M.2.1 (128, 0) ((M.1 (97, 0) l1.toNatClampNeg) - (1 : Int32)).toNatClampNeg) else (0 : Int64)) → eg_W κ gM mtX11_sumOf d (eQL κ gM post) 63 [(0, vR (60, 0)), (1, vI l1), (2, vI l2)] [vL x4] M := by
      intro x4 ex4
      have h := h x4 ex4
      exact eg_lreturn dX11_sumOf_63 rfl h
    clear h
    refine eg_if_eq (tgt := 50) dX11_sumOf_43 rfl (fun c5 => ?_) (fun c5 => ?_)
    · refine eg_aload_n 0 dX11_sumOf_50 rfl rfl ?_
      refine eg_getR dX11_sumOf_51 fl_11_88 rfl rfl (obM_60 z1) ?_
      show eg_W κ gM mtX11_sumOf d (eQL κ gM post) 54 [(0, vR (60, 0)), (1, vI l1), (2, vI l2)] [vR (128, 0)] M
      refine eg_aload_n 0 dX11_sumOf_54 rfl rfl ?_
      refine eg_getR dX11_sumOf_55 fl_11_47 rfl rfl (obM_60 z1) ?_
      show eg_W κ gM mtX11_sumOf d (eQL κ gM post) 58 [(0, vR (60, 0)), (1, vI l1), (2, vI l2)] [vR (97, 0), vR (128, 0)] M
      refine eg_iload_n 1 dX11_sumOf_58 rfl rfl ?_
      refine eg_iaload dX11_sumOf_59 (arM_97 z1 g1) ?_
      refine eg_iconst dX11_sumOf_60 ic_1 ?_
      refine eg_isub dX11_sumOf_61 ?_
      refine eg_laload dX11_sumOf_62 (arM_128 z1 (g3 c5)) ?_
      exact J _ (by rw [if_pos c5])
    · refine eg_lconst dX11_sumOf_46 lc_0 ?_
      refine eg_goto (tgt := 63) dX11_sumOf_47 rfl ?_
      exact J _ (by rw [if_neg c5])
  · have h := h.2 c2
    refine eg_aload_n 0 dX11_sumOf_22 rfl rfl ?_
    refine eg_getR dX11_sumOf_23 fl_11_88 rfl rfl (obM_60 z1) ?_
    show eg_W κ gM mtX11_sumOf d (eQL κ gM post) 26 [(0, vR (60, 0)), (1, vI l1), (2, vI l2)] [vR (128, 0)] M
    refine eg_iload_n 2 dX11_sumOf_26 rfl rfl ?_
    refine eg_aload_n 0 dX11_sumOf_27 rfl rfl ?_
    refine eg_iload_n 2 dX11_sumOf_28 rfl rfl ?_
    obtain ⟨q8, hq8, h⟩ := h
    refine eg_callVL (av := [vI l2]) (st := [vI l2, vR (128, 0)]) dX11_sumOf_29 ml_11_402 rfl rfl (obM_60 z1) (by decide) rfl (Nat.le_of_ble_eq_true rfl) (eg_dd (by omega)) hq8 (fun x6 M7 hp => ?_)
    have h := h x6 M7 hp
    obtain ⟨g9, h⟩ := h
    refine en_lastore dX11_sumOf_32 (arM_128 z1 g9) (fun M10 eM10 => ?_)
    have h := h M10 eM10
    refine en_iinc (f := fun x11 => [(2, vI x11), (0, vR (60, 0)), (1, vI l1)]) 2 dX11_sumOf_33 rfl rfl (by decide) rfl (fun x11 ex11 => ?_)
    have h := h x11 ex11
    refine eg_goto (tgt := 12) dX11_sumOf_36 rfl ?_
    refine eg_sub [1, 2, 0] rfl ?_
    exact h
