theorem dX3_combined_0 : decode cX3_combined 0 = .ok (.iload_n 0, 1) := by decide +kernel
theorem dX3_combined_1 : decode cX3_combined 1 = .ok (.tableswitch 291 13 33 #[99, 117, 291, 291, 291, 291, 291, 291, 291, 291, 291, 207, 215, 223, 273, 135, 147, 159, 171, 183, 195], 99) := by decide +kernel
theorem dX3_combined_100 : decode cX3_combined 100 = .ok (.lload_n 1, 1) := by decide +kernel
theorem dX3_combined_101 : decode cX3_combined 101 = .ok (.lconst 0, 1) := by decide +kernel
theorem dX3_combined_102 : decode cX3_combined 102 = .ok (.lcmp, 1) := by decide +kernel
theorem dX3_combined_103 : decode cX3_combined 103 = .ok (.ifCond .ne 9, 3) := by decide +kernel
theorem dX3_combined_106 : decode cX3_combined 106 = .ok (.lload_n 3, 1) := by decide +kernel
theorem dX3_combined_107 : decode cX3_combined 107 = .ok (.lconst 0, 1) := by decide +kernel
theorem dX3_combined_108 : decode cX3_combined 108 = .ok (.lcmp, 1) := by decide +kernel
theorem dX3_combined_109 : decode cX3_combined 109 = .ok (.ifCond .eq 7, 3) := by decide +kernel
theorem dX3_combined_112 : decode cX3_combined 112 = .ok (.lconst 1, 1) := by decide +kernel
theorem dX3_combined_113 : decode cX3_combined 113 = .ok (.goto 4, 3) := by decide +kernel
theorem dX3_combined_116 : decode cX3_combined 116 = .ok (.lconst 0, 1) := by decide +kernel
theorem dX3_combined_117 : decode cX3_combined 117 = .ok (.lreturn, 1) := by decide +kernel
theorem dX3_combined_118 : decode cX3_combined 118 = .ok (.lload_n 1, 1) := by decide +kernel
theorem dX3_combined_119 : decode cX3_combined 119 = .ok (.lconst 0, 1) := by decide +kernel
theorem dX3_combined_120 : decode cX3_combined 120 = .ok (.lcmp, 1) := by decide +kernel
theorem dX3_combined_121 : decode cX3_combined 121 = .ok (.ifCond .eq 13, 3) := by decide +kernel
theorem dX3_combined_124 : decode cX3_combined 124 = .ok (.lload_n 3, 1) := by decide +kernel
theorem dX3_combined_125 : decode cX3_combined 125 = .ok (.lconst 0, 1) := by decide +kernel
theorem dX3_combined_126 : decode cX3_combined 126 = .ok (.lcmp, 1) := by decide +kernel
theorem dX3_combined_127 : decode cX3_combined 127 = .ok (.ifCond .eq 7, 3) := by decide +kernel
theorem dX3_combined_130 : decode cX3_combined 130 = .ok (.lconst 1, 1) := by decide +kernel
theorem dX3_combined_131 : decode cX3_combined 131 = .ok (.goto 4, 3) := by decide +kernel
theorem dX3_combined_134 : decode cX3_combined 134 = .ok (.lconst 0, 1) := by decide +kernel
theorem dX3_combined_135 : decode cX3_combined 135 = .ok (.lreturn, 1) := by decide +kernel
theorem dX3_combined_136 : decode cX3_combined 136 = .ok (.lload_n 1, 1) := by decide +kernel
theorem dX3_combined_137 : decode cX3_combined 137 = .ok (.lload_n 3, 1) := by decide +kernel
theorem dX3_combined_138 : decode cX3_combined 138 = .ok (.lcmp, 1) := by decide +kernel
theorem dX3_combined_139 : decode cX3_combined 139 = .ok (.ifCond .ge 7, 3) := by decide +kernel
theorem dX3_combined_142 : decode cX3_combined 142 = .ok (.lconst 1, 1) := by decide +kernel
theorem dX3_combined_143 : decode cX3_combined 143 = .ok (.goto 4, 3) := by decide +kernel
theorem dX3_combined_146 : decode cX3_combined 146 = .ok (.lconst 0, 1) := by decide +kernel
theorem dX3_combined_147 : decode cX3_combined 147 = .ok (.lreturn, 1) := by decide +kernel
theorem dX3_combined_148 : decode cX3_combined 148 = .ok (.lload_n 1, 1) := by decide +kernel
theorem dX3_combined_149 : decode cX3_combined 149 = .ok (.lload_n 3, 1) := by decide +kernel
theorem dX3_combined_150 : decode cX3_combined 150 = .ok (.lcmp, 1) := by decide +kernel
theorem dX3_combined_151 : decode cX3_combined 151 = .ok (.ifCond .gt 7, 3) := by decide +kernel
theorem dX3_combined_154 : decode cX3_combined 154 = .ok (.lconst 1, 1) := by decide +kernel
theorem dX3_combined_155 : decode cX3_combined 155 = .ok (.goto 4, 3) := by decide +kernel
theorem dX3_combined_158 : decode cX3_combined 158 = .ok (.lconst 0, 1) := by decide +kernel
theorem dX3_combined_159 : decode cX3_combined 159 = .ok (.lreturn, 1) := by decide +kernel
theorem dX3_combined_160 : decode cX3_combined 160 = .ok (.lload_n 1, 1) := by decide +kernel
theorem dX3_combined_161 : decode cX3_combined 161 = .ok (.lload_n 3, 1) := by decide +kernel
theorem dX3_combined_162 : decode cX3_combined 162 = .ok (.lcmp, 1) := by decide +kernel
theorem dX3_combined_163 : decode cX3_combined 163 = .ok (.ifCond .ne 7, 3) := by decide +kernel
theorem dX3_combined_166 : decode cX3_combined 166 = .ok (.lconst 1, 1) := by decide +kernel
theorem dX3_combined_167 : decode cX3_combined 167 = .ok (.goto 4, 3) := by decide +kernel
theorem dX3_combined_170 : decode cX3_combined 170 = .ok (.lconst 0, 1) := by decide +kernel
theorem dX3_combined_171 : decode cX3_combined 171 = .ok (.lreturn, 1) := by decide +kernel
theorem dX3_combined_172 : decode cX3_combined 172 = .ok (.lload_n 1, 1) := by decide +kernel
theorem dX3_combined_173 : decode cX3_combined 173 = .ok (.lload_n 3, 1) := by decide +kernel
theorem dX3_combined_174 : decode cX3_combined 174 = .ok (.lcmp, 1) := by decide +kernel
theorem dX3_combined_175 : decode cX3_combined 175 = .ok (.ifCond .eq 7, 3) := by decide +kernel
theorem dX3_combined_178 : decode cX3_combined 178 = .ok (.lconst 1, 1) := by decide +kernel
theorem dX3_combined_179 : decode cX3_combined 179 = .ok (.goto 4, 3) := by decide +kernel
theorem dX3_combined_182 : decode cX3_combined 182 = .ok (.lconst 0, 1) := by decide +kernel
theorem dX3_combined_183 : decode cX3_combined 183 = .ok (.lreturn, 1) := by decide +kernel
theorem dX3_combined_184 : decode cX3_combined 184 = .ok (.lload_n 1, 1) := by decide +kernel
theorem dX3_combined_185 : decode cX3_combined 185 = .ok (.lload_n 3, 1) := by decide +kernel
theorem dX3_combined_186 : decode cX3_combined 186 = .ok (.lcmp, 1) := by decide +kernel
theorem dX3_combined_187 : decode cX3_combined 187 = .ok (.ifCond .lt 7, 3) := by decide +kernel
theorem dX3_combined_190 : decode cX3_combined 190 = .ok (.lconst 1, 1) := by decide +kernel
theorem dX3_combined_191 : decode cX3_combined 191 = .ok (.goto 4, 3) := by decide +kernel
theorem dX3_combined_194 : decode cX3_combined 194 = .ok (.lconst 0, 1) := by decide +kernel
theorem dX3_combined_195 : decode cX3_combined 195 = .ok (.lreturn, 1) := by decide +kernel
theorem dX3_combined_196 : decode cX3_combined 196 = .ok (.lload_n 1, 1) := by decide +kernel
theorem dX3_combined_197 : decode cX3_combined 197 = .ok (.lload_n 3, 1) := by decide +kernel
theorem dX3_combined_198 : decode cX3_combined 198 = .ok (.lcmp, 1) := by decide +kernel
theorem dX3_combined_199 : decode cX3_combined 199 = .ok (.ifCond .le 7, 3) := by decide +kernel
theorem dX3_combined_202 : decode cX3_combined 202 = .ok (.lconst 1, 1) := by decide +kernel
theorem dX3_combined_203 : decode cX3_combined 203 = .ok (.goto 4, 3) := by decide +kernel
theorem dX3_combined_206 : decode cX3_combined 206 = .ok (.lconst 0, 1) := by decide +kernel
theorem dX3_combined_207 : decode cX3_combined 207 = .ok (.lreturn, 1) := by decide +kernel
theorem dX3_combined_208 : decode cX3_combined 208 = .ok (.lload_n 1, 1) := by decide +kernel
theorem dX3_combined_209 : decode cX3_combined 209 = .ok (.lload_n 3, 1) := by decide +kernel
theorem dX3_combined_210 : decode cX3_combined 210 = .ok (.ladd, 1) := by decide +kernel
theorem dX3_combined_211 : decode cX3_combined 211 = .ok (.lstore 5, 2) := by decide +kernel
theorem dX3_combined_213 : decode cX3_combined 213 = .ok (.goto 83, 3) := by decide +kernel
theorem dX3_combined_216 : decode cX3_combined 216 = .ok (.lload_n 1, 1) := by decide +kernel
theorem dX3_combined_217 : decode cX3_combined 217 = .ok (.lload_n 3, 1) := by decide +kernel
theorem dX3_combined_218 : decode cX3_combined 218 = .ok (.lsub, 1) := by decide +kernel
theorem dX3_combined_219 : decode cX3_combined 219 = .ok (.lstore 5, 2) := by decide +kernel
theorem dX3_combined_221 : decode cX3_combined 221 = .ok (.goto 75, 3) := by decide +kernel
theorem dX3_combined_224 : decode cX3_combined 224 = .ok (.lload_n 1, 1) := by decide +kernel
theorem dX3_combined_225 : decode cX3_combined 225 = .ok (.lconst 0, 1) := by decide +kernel
theorem dX3_combined_226 : decode cX3_combined 226 = .ok (.lcmp, 1) := by decide +kernel
theorem dX3_combined_227 : decode cX3_combined 227 = .ok (.ifCond .eq 39, 3) := by decide +kernel
theorem dX3_combined_230 : decode cX3_combined 230 = .ok (.lload_n 3, 1) := by decide +kernel
theorem dX3_combined_231 : decode cX3_combined 231 = .ok (.lconst 0, 1) := by decide +kernel
theorem dX3_combined_232 : decode cX3_combined 232 = .ok (.lcmp, 1) := by decide +kernel
theorem dX3_combined_233 : decode cX3_combined 233 = .ok (.ifCond .ge 8, 3) := by decide +kernel
theorem dX3_combined_236 : decode cX3_combined 236 = .ok (.lload_n 3, 1) := by decide +kernel
theorem dX3_combined_237 : decode cX3_combined 237 = .ok (.lneg, 1) := by decide +kernel
theorem dX3_combined_238 : decode cX3_combined 238 = .ok (.goto 4, 3) := by decide +kernel
theorem dX3_combined_241 : decode cX3_combined 241 = .ok (.lload_n 3, 1) := by decide +kernel
theorem dX3_combined_242 : decode cX3_combined 242 = .ok (.ldc2_w 47, 3) := by decide +kernel
theorem dX3_combined_245 : decode cX3_combined 245 = .ok (.lload_n 1, 1) := by decide +kernel
theorem dX3_combined_246 : decode cX3_combined 246 = .ok (.lconst 0, 1) := by decide +kernel
theorem dX3_combined_247 : decode cX3_combined 247 = .ok (.lcmp, 1) := by decide +kernel
theorem dX3_combined_248 : decode cX3_combined 248 = .ok (.ifCond .ge 8, 3) := by decide +kernel
theorem dX3_combined_251 : decode cX3_combined 251 = .ok (.lload_n 1, 1) := by decide +kernel
theorem dX3_combined_252 : decode cX3_combined 252 = .ok (.lneg, 1) := by decide +kernel
theorem dX3_combined_253 : decode cX3_combined 253 = .ok (.goto 4, 3) := by decide +kernel
theorem dX3_combined_256 : decode cX3_combined 256 = .ok (.lload_n 1, 1) := by decide +kernel
theorem dX3_combined_257 : decode cX3_combined 257 = .ok (.ldiv, 1) := by decide +kernel
theorem dX3_combined_258 : decode cX3_combined 258 = .ok (.lcmp, 1) := by decide +kernel
theorem dX3_combined_259 : decode cX3_combined 259 = .ok (.ifCond .le 7, 3) := by decide +kernel
theorem dX3_combined_262 : decode cX3_combined 262 = .ok (.ldc2_w 41, 3) := by decide +kernel
theorem dX3_combined_265 : decode cX3_combined 265 = .ok (.lreturn, 1) := by decide +kernel
theorem dX3_combined_266 : decode cX3_combined 266 = .ok (.lload_n 1, 1) := by decide +kernel
theorem dX3_combined_267 : decode cX3_combined 267 = .ok (.lload_n 3, 1) := by decide +kernel
theorem dX3_combined_268 : decode cX3_combined 268 = .ok (.lmul, 1) := by decide +kernel
theorem dX3_combined_269 : decode cX3_combined 269 = .ok (.lstore 5, 2) := by decide +kernel
theorem dX3_combined_271 : decode cX3_combined 271 = .ok (.goto 25, 3) := by decide +kernel
theorem dX3_combined_274 : decode cX3_combined 274 = .ok (.lload_n 3, 1) := by decide +kernel
theorem dX3_combined_275 : decode cX3_combined 275 = .ok (.lconst 0, 1) := by decide +kernel
theorem dX3_combined_276 : decode cX3_combined 276 = .ok (.lcmp, 1) := by decide +kernel
theorem dX3_combined_277 : decode cX3_combined 277 = .ok (.ifCond .ne 7, 3) := by decide +kernel
theorem dX3_combined_280 : decode cX3_combined 280 = .ok (.ldc2_w 41, 3) := by decide +kernel
theorem dX3_combined_283 : decode cX3_combined 283 = .ok (.lreturn, 1) := by decide +kernel
theorem dX3_combined_284 : decode cX3_combined 284 = .ok (.lload_n 1, 1) := by decide +kernel
theorem dX3_combined_285 : decode cX3_combined 285 = .ok (.lload_n 3, 1) := by decide +kernel
theorem dX3_combined_286 : decode cX3_combined 286 = .ok (.ldiv, 1) := by decide +kernel
theorem dX3_combined_287 : decode cX3_combined 287 = .ok (.lstore 5, 2) := by decide +kernel
theorem dX3_combined_289 : decode cX3_combined 289 = .ok (.goto 7, 3) := by decide +kernel
theorem dX3_combined_292 : decode cX3_combined 292 = .ok (.ldc2_w 41, 3) := by decide +kernel
theorem dX3_combined_295 : decode cX3_combined 295 = .ok (.lreturn, 1) := by decide +kernel
theorem dX3_combined_296 : decode cX3_combined 296 = .ok (.lload 5, 2) := by decide +kernel
theorem dX3_combined_298 : decode cX3_combined 298 = .ok (.ldc2_w 47, 3) := by decide +kernel
theorem dX3_combined_301 : decode cX3_combined 301 = .ok (.lcmp, 1) := by decide +kernel
theorem dX3_combined_302 : decode cX3_combined 302 = .ok (.ifCond .gt 12, 3) := by decide +kernel
theorem dX3_combined_305 : decode cX3_combined 305 = .ok (.lload 5, 2) := by decide +kernel
theorem dX3_combined_307 : decode cX3_combined 307 = .ok (.ldc2_w 49, 3) := by decide +kernel
theorem dX3_combined_310 : decode cX3_combined 310 = .ok (.lcmp, 1) := by decide +kernel
theorem dX3_combined_311 : decode cX3_combined 311 = .ok (.ifCond .ge 9, 3) := by decide +kernel
theorem dX3_combined_314 : decode cX3_combined 314 = .ok (.ldc2_w 41, 3) := by decide +kernel
theorem dX3_combined_317 : decode cX3_combined 317 = .ok (.goto 5, 3) := by decide +kernel
theorem dX3_combined_320 : decode cX3_combined 320 = .ok (.lload 5, 2) := by decide +kernel
theorem dX3_combined_322 : decode cX3_combined 322 = .ok (.lreturn, 1) := by decide +kernel
set_option maxRecDepth 10000 in
theorem vX3_combined_0 {κ : eg_K} {d : Nat} {post : Int64 → eg_H → Prop} (M : eg_H) (l0 : Int32) (l1 : Int64) (l3 : Int64) (h : ((¬ l0 = (13 : Int32)) → (¬ l0 = (14 : Int32)) → (¬ l0 = (24 : Int32)) → (¬ l0 = (25 : Int32)) → (¬ l0 = (26 : Int32)) → (¬ l0 = (27 : Int32)) → (¬ l0 = (28 : Int32)) → (¬ l0 = (29 : Int32)) → (¬ l0 = (30 : Int32)) → (¬ l0 = (31 : Int32)) → (¬ l0 = (32 : Int32)) → (¬ l0 = (33 : Int32)) → eg_W κ gC mtX3_combined d (eQL κ gC post) 292 [] [] M) ∧ (l0 = (13 : Int32) → (∀ x1 : Int64, x1 = ((if (¬ (lg_cmp l1 (0 : Int64)) = 0) then (1 : Int64) else (if (lg_cmp l3 (0 : Int64)) = 0 then (0 : Int64) else (1 : Int64)))) → post x1 M)) ∧ (l0 = (14 : Int32) → (∀ x5 : Int64, x5 = ((if (lg_cmp l1 (0 : Int64)) = 0 then (0 : Int64) else (if (lg_cmp l3 (0 : Int64)) = 0 then (0 : Int64) else (1 : Int64)))) → post x5 M)) ∧ (l0 = (24 : Int32) → (∀ x8 : Int64, x8 = (l1 + l3) → eg_W κ gC mtX3_combined d (eQL κ gC post) 296 [(5, vL x8)] [] M)) ∧ (l0 = (25 : Int32) → (∀ x9 : Int64, x9 = (l1 - l3) → eg_W κ gC mtX3_combined d (eQL κ gC post) 296 [(5, vL x9)] [] M)) ∧ (l0 = (26 : Int32) → ((lg_cmp l1 (0 : Int64)) = 0 → eg_W κ gC mtX3_combined d (eQL κ gC post) 266 [(1, vL l1), (3, vL l3)] [] M) ∧ ((¬ (lg_cmp l1 (0 : Int64)) = 0) → (∀ x11 : Int64, x11 = ((if 0 ≤ (lg_cmp l3 (0 : Int64)) then l3 else (-l3))) → (∀ x12 : Int64, x12 = ((if 0 ≤ (lg_cmp l1 (0 : Int64)) then l1 else (-l1))) → ((¬ x12 = 0) ∧ ((lg_cmp x11 ((1000000000000 : Int64) / x12)) ≤ 0 → eg_W κ gC mtX3_combined d (eQL κ gC post) 266 [(1, vL l1), (3, vL l3)] [] M) ∧ ((¬ (lg_cmp x11 ((1000000000000 : Int64) / x12)) ≤ 0) → post (-9223372036854775808 : Int64) M)))))) ∧ (l0 = (27 : Int32) → ((¬ (lg_cmp l3 (0 : Int64)) = 0) → ((¬ l3 = 0) ∧ (∀ x19 : Int64, x19 = (l1 / l3) → eg_W κ gC mtX3_combined d (eQL κ gC post) 296 [(5, vL x19)] [] M))) ∧ ((lg_cmp l3 (0 : Int64)) = 0 → post (-9223372036854775808 : Int64) M)) ∧ (l0 = (28 : Int32) → (∀ x20 : Int64, x20 = ((if 0 ≤ (lg_cmp l1 l3) then (0 : Int64) else (1 : Int64))) → post x20 M)) ∧ (l0 = (29 : Int32) → (∀ x22 : Int64, x22 = ((if 0 < (lg_cmp l1 l3) then (0 : Int64) else (1 : Int64))) → post x22 M)) ∧ (l0 = (30 : Int32) → (∀ x24 : Int64, x24 = ((if (¬ (lg_cmp l1 l3) = 0) then (0 : Int64) else (1 : Int64))) → post x24 M)) ∧ (l0 = (31 : Int32) → (∀ x27 : Int64, x27 = ((if (lg_cmp l1 l3) = 0 then (0 : Int64) else (1 : Int64))) → post x27 M)) ∧ (l0 = (32 : Int32) → (∀ x29 : Int64, x29 = ((if (lg_cmp l1 l3) < 0 then (0 : Int64) else (1 : Int64))) → post x29 M)) ∧ (l0 = (33 : Int32) → (∀ x31 : Int64, x31 = ((if (lg_cmp l1 l3) ≤ 0 then (0 : Int64) else (1 : Int64))) → post x31 M))) : eg_W κ gC mtX3_combined d (eQL κ gC post) 0 [(0, vI l0), (1, vL l1), (3, vL l3)] [] M := by
  refine eg_iload_n 0 dX3_combined_0 rfl rfl ?_
  have J : (¬ l0 = (13 : Int32)) → (¬ l0 = (14 : Int32)) → (¬ l0 = (24 : Int32)) → (¬ l0 = (25 : Int32)) → (¬ l0 = (26 : Int32)) → (¬ l0 = (27 : Int32)) → (¬ l0 = (28 : Int32)) → (¬ l0 = (29 : Int32)) → (¬ l0 = (30 : Int32)) → (¬ l0 = (31 : Int32)) → (¬ l0 = (32 : Int32)) → (¬ l0 = (33 : Int32)) → eg_W κ gC mtX3_combined d (eQL κ gC post) 292 [(0, vI l0), (1, vL l1), (3, vL l3)] [] M := by
    intro c0_ c1_ c11_ c12_ c13_ c14_ c15_ c16_ c17_ c18_ c19_ c20_
    have h := h.1 c0_ c1_ c11_ c12_ c13_ c14_ c15_ c16_ c17_ c18_ c19_ c20_
    refine eg_sub [] rfl ?_
    exact h
  by_cases c0_ : l0 = (13 : Int32)
  · refine eg_tabI (tgt := 100) dX3_combined_1 (by rw [c0_]; decide) (by rw [c0_]; decide) (off := 99) (by rw [c0_]; rfl) rfl ?_
    have h := h.2.1 c0_
    refine eg_lload_n 1 dX3_combined_100 rfl rfl ?_
    refine eg_lconst dX3_combined_101 lc_0 ?_
    refine eg_lcmp dX3_combined_102 ?_
    have J : ∀ x1 : Int64, x1 = (if (¬ (lg_cmp l1 (0 : Int64)) = 0) then (1 : Int64) else (if (lg_cmp l3 (0 : Int64)) = 0 then (0 : Int64) else (1 : Int64))) → eg_W κ gC mtX3_combined d (eQL κ gC post) 117 [(0, vI l0), (1, vL l1), (3, vL l3)] [vL x1] M := by
      intro x1 ex1
      have h := h x1 ex1
      exact eg_lreturn dX3_combined_117 rfl h
    clear h
    refine eg_if_ne (tgt := 112) dX3_combined_103 rfl (fun c2 => ?_) (fun c2 => ?_)
    · refine eg_lconst dX3_combined_112 lc_1 ?_
      refine eg_goto (tgt := 117) dX3_combined_113 rfl ?_
      exact J _ (by rw [if_pos c2])
    · have c3 : ¬ (¬ (lg_cmp l1 (0 : Int64)) = 0) := fun z => z c2
      refine eg_lload_n 2 dX3_combined_106 rfl rfl ?_
      refine eg_lconst dX3_combined_107 lc_0 ?_
      refine eg_lcmp dX3_combined_108 ?_
      refine eg_if_eq (tgt := 116) dX3_combined_109 rfl (fun c4 => ?_) (fun c4 => ?_)
      · refine eg_lconst dX3_combined_116 lc_0 ?_
        exact J _ (by rw [if_neg c3, if_pos c4])
      · refine eg_lconst dX3_combined_112 lc_1 ?_
        refine eg_goto (tgt := 117) dX3_combined_113 rfl ?_
        exact J _ (by rw [if_neg c3, if_neg c4])
  by_cases c1_ : l0 = (14 : Int32)
  · refine eg_tabI (tgt := 118) dX3_combined_1 (by rw [c1_]; decide) (by rw [c1_]; decide) (off := 117) (by rw [c1_]; rfl) rfl ?_
    have h := h.2.2.1 c1_
    refine eg_lload_n 1 dX3_combined_118 rfl rfl ?_
    refine eg_lconst dX3_combined_119 lc_0 ?_
    refine eg_lcmp dX3_combined_120 ?_
    have J : ∀ x5 : Int64, x5 = (if (lg_cmp l1 (0 : Int64)) = 0 then (0 : Int64) else (if (lg_cmp l3 (0 : Int64)) = 0 then (0 : Int64) else (1 : Int64))) → eg_W κ gC mtX3_combined d (eQL κ gC post) 135 [(0, vI l0), (1, vL l1), (3, vL l3)] [vL x5] M := by
      intro x5 ex5
      have h := h x5 ex5
      exact eg_lreturn dX3_combined_135 rfl h
    clear h
    refine eg_if_eq (tgt := 134) dX3_combined_121 rfl (fun c6 => ?_) (fun c6 => ?_)
    · refine eg_lconst dX3_combined_134 lc_0 ?_
      exact J _ (by rw [if_pos c6])
    · refine eg_lload_n 2 dX3_combined_124 rfl rfl ?_
      refine eg_lconst dX3_combined_125 lc_0 ?_
      refine eg_lcmp dX3_combined_126 ?_
      refine eg_if_eq (tgt := 134) dX3_combined_127 rfl (fun c7 => ?_) (fun c7 => ?_)
      · refine eg_lconst dX3_combined_134 lc_0 ?_
        exact J _ (by rw [if_neg c6, if_pos c7])
      · refine eg_lconst dX3_combined_130 lc_1 ?_
        refine eg_goto (tgt := 135) dX3_combined_131 rfl ?_
        exact J _ (by rw [if_neg c6, if_neg c7])
  by_cases c2_ : l0 = (15 : Int32)
  · refine eg_tabI (tgt := 292) dX3_combined_1 (by rw [c2_]; decide) (by rw [c2_]; decide) (off := 291) (by rw [c2_]; rfl) rfl ?_
    exact J (by rw [c2_]; decide) (by rw [c2_]; decide) (by rw [c2_]; decide) (by rw [c2_]; decide) (by rw [c2_]; decide) (by rw [c2_]; decide) (by rw [c2_]; decide) (by rw [c2_]; decide) (by rw [c2_]; decide) (by rw [c2_]; decide) (by rw [c2_]; decide) (by rw [c2_]; decide)
  by_cases c3_ : l0 = (16 : Int32)
  · refine eg_tabI (tgt := 292) dX3_combined_1 (by rw [c3_]; decide) (by rw [c3_]; decide) (off := 291) (by rw [c3_]; rfl) rfl ?_
    exact J (by rw [c3_]; decide) (by rw [c3_]; decide) (by rw [c3_]; decide) (by rw [c3_]; decide) (by rw [c3_]; decide) (by rw [c3_]; decide) (by rw [c3_]; decide) (by rw [c3_]; decide) (by rw [c3_]; decide) (by rw [c3_]; decide) (by rw [c3_]; decide) (by rw [c3_]; decide)
  by_cases c4_ : l0 = (17 : Int32)
  · refine eg_tabI (tgt := 292) dX3_combined_1 (by rw [c4_]; decide) (by rw [c4_]; decide) (off := 291) (by rw [c4_]; rfl) rfl ?_
    exact J (by rw [c4_]; decide) (by rw [c4_]; decide) (by rw [c4_]; decide) (by rw [c4_]; decide) (by rw [c4_]; decide) (by rw [c4_]; decide) (by rw [c4_]; decide) (by rw [c4_]; decide) (by rw [c4_]; decide) (by rw [c4_]; decide) (by rw [c4_]; decide) (by rw [c4_]; decide)
  by_cases c5_ : l0 = (18 : Int32)
  · refine eg_tabI (tgt := 292) dX3_combined_1 (by rw [c5_]; decide) (by rw [c5_]; decide) (off := 291) (by rw [c5_]; rfl) rfl ?_
    exact J (by rw [c5_]; decide) (by rw [c5_]; decide) (by rw [c5_]; decide) (by rw [c5_]; decide) (by rw [c5_]; decide) (by rw [c5_]; decide) (by rw [c5_]; decide) (by rw [c5_]; decide) (by rw [c5_]; decide) (by rw [c5_]; decide) (by rw [c5_]; decide) (by rw [c5_]; decide)
  by_cases c6_ : l0 = (19 : Int32)
  · refine eg_tabI (tgt := 292) dX3_combined_1 (by rw [c6_]; decide) (by rw [c6_]; decide) (off := 291) (by rw [c6_]; rfl) rfl ?_
    exact J (by rw [c6_]; decide) (by rw [c6_]; decide) (by rw [c6_]; decide) (by rw [c6_]; decide) (by rw [c6_]; decide) (by rw [c6_]; decide) (by rw [c6_]; decide) (by rw [c6_]; decide) (by rw [c6_]; decide) (by rw [c6_]; decide) (by rw [c6_]; decide) (by rw [c6_]; decide)
  by_cases c7_ : l0 = (20 : Int32)
  · refine eg_tabI (tgt := 292) dX3_combined_1 (by rw [c7_]; decide) (by rw [c7_]; decide) (off := 291) (by rw [c7_]; rfl) rfl ?_
    exact J (by rw [c7_]; decide) (by rw [c7_]; decide) (by rw [c7_]; decide) (by rw [c7_]; decide) (by rw [c7_]; decide) (by rw [c7_]; decide) (by rw [c7_]; decide) (by rw [c7_]; decide) (by rw [c7_]; decide) (by rw [c7_]; decide) (by rw [c7_]; decide) (by rw [c7_]; decide)
  by_cases c8_ : l0 = (21 : Int32)
  · refine eg_tabI (tgt := 292) dX3_combined_1 (by rw [c8_]; decide) (by rw [c8_]; decide) (off := 291) (by rw [c8_]; rfl) rfl ?_
    exact J (by rw [c8_]; decide) (by rw [c8_]; decide) (by rw [c8_]; decide) (by rw [c8_]; decide) (by rw [c8_]; decide) (by rw [c8_]; decide) (by rw [c8_]; decide) (by rw [c8_]; decide) (by rw [c8_]; decide) (by rw [c8_]; decide) (by rw [c8_]; decide) (by rw [c8_]; decide)
  by_cases c9_ : l0 = (22 : Int32)
  · refine eg_tabI (tgt := 292) dX3_combined_1 (by rw [c9_]; decide) (by rw [c9_]; decide) (off := 291) (by rw [c9_]; rfl) rfl ?_
    exact J (by rw [c9_]; decide) (by rw [c9_]; decide) (by rw [c9_]; decide) (by rw [c9_]; decide) (by rw [c9_]; decide) (by rw [c9_]; decide) (by rw [c9_]; decide) (by rw [c9_]; decide) (by rw [c9_]; decide) (by rw [c9_]; decide) (by rw [c9_]; decide) (by rw [c9_]; decide)
  by_cases c10_ : l0 = (23 : Int32)
  · refine eg_tabI (tgt := 292) dX3_combined_1 (by rw [c10_]; decide) (by rw [c10_]; decide) (off := 291) (by rw [c10_]; rfl) rfl ?_
    exact J (by rw [c10_]; decide) (by rw [c10_]; decide) (by rw [c10_]; decide) (by rw [c10_]; decide) (by rw [c10_]; decide) (by rw [c10_]; decide) (by rw [c10_]; decide) (by rw [c10_]; decide) (by rw [c10_]; decide) (by rw [c10_]; decide) (by rw [c10_]; decide) (by rw [c10_]; decide)
  by_cases c11_ : l0 = (24 : Int32)
  · refine eg_tabI (tgt := 208) dX3_combined_1 (by rw [c11_]; decide) (by rw [c11_]; decide) (off := 207) (by rw [c11_]; rfl) rfl ?_
    have h := h.2.2.2.1 c11_
    refine eg_lload_n 1 dX3_combined_208 rfl rfl ?_
    refine eg_lload_n 2 dX3_combined_209 rfl rfl ?_
    refine eg_ladd dX3_combined_210 ?_
    refine en_lstore (f := fun x8 => [(5, vL x8), (0, vI l0), (1, vL l1), (3, vL l3)]) dX3_combined_211 (by decide) rfl (fun x8 ex8 => ?_)
    have h := h x8 ex8
    refine eg_goto (tgt := 296) dX3_combined_213 rfl ?_
    refine eg_sub [0] rfl ?_
    exact h
  by_cases c12_ : l0 = (25 : Int32)
  · refine eg_tabI (tgt := 216) dX3_combined_1 (by rw [c12_]; decide) (by rw [c12_]; decide) (off := 215) (by rw [c12_]; rfl) rfl ?_
    have h := h.2.2.2.2.1 c12_
    refine eg_lload_n 1 dX3_combined_216 rfl rfl ?_
    refine eg_lload_n 2 dX3_combined_217 rfl rfl ?_
    refine eg_lsub dX3_combined_218 ?_
    refine en_lstore (f := fun x9 => [(5, vL x9), (0, vI l0), (1, vL l1), (3, vL l3)]) dX3_combined_219 (by decide) rfl (fun x9 ex9 => ?_)
    have h := h x9 ex9
    refine eg_goto (tgt := 296) dX3_combined_221 rfl ?_
    refine eg_sub [0] rfl ?_
    exact h
  by_cases c13_ : l0 = (26 : Int32)
  · refine eg_tabI (tgt := 224) dX3_combined_1 (by rw [c13_]; decide) (by rw [c13_]; decide) (off := 223) (by rw [c13_]; rfl) rfl ?_
    have h := h.2.2.2.2.2.1 c13_
    refine eg_lload_n 1 dX3_combined_224 rfl rfl ?_
    refine eg_lconst dX3_combined_225 lc_0 ?_
    refine eg_lcmp dX3_combined_226 ?_
    refine eg_if_eq (tgt := 266) dX3_combined_227 rfl (fun c10 => ?_) (fun c10 => ?_)
    · have h := h.1 c10
      refine eg_sub [1, 2] rfl ?_
      exact h
    · have h := h.2 c10
      refine eg_lload_n 2 dX3_combined_230 rfl rfl ?_
      refine eg_lconst dX3_combined_231 lc_0 ?_
      refine eg_lcmp dX3_combined_232 ?_
      have J : ∀ x11 : Int64, x11 = (if 0 ≤ (lg_cmp l3 (0 : Int64)) then l3 else (-l3)) → eg_W κ gC mtX3_combined d (eQL κ gC post) 242 [(0, vI l0), (1, vL l1), (3, vL l3)] [vL x11] M := by
        intro x11 ex11
        have h := h x11 ex11
        refine eg_ldc2 dX3_combined_242 kc_3_47 ?_
        refine eg_lload_n 1 dX3_combined_245 rfl rfl ?_
        refine eg_lconst dX3_combined_246 lc_0 ?_
        refine eg_lcmp dX3_combined_247 ?_
        have J : ∀ x12 : Int64, x12 = (if 0 ≤ (lg_cmp l1 (0 : Int64)) then l1 else (-l1)) → eg_W κ gC mtX3_combined d (eQL κ gC post) 257 [(0, vI l0), (1, vL l1), (3, vL l3)] [vL x12, vL (1000000000000 : Int64), vL x11] M := by
          intro x12 ex12
          have h := h x12 ex12
          obtain ⟨g13, h⟩ := h
          refine eg_ldiv dX3_combined_257 g13 ?_
          refine eg_lcmp dX3_combined_258 ?_
          refine eg_if_le (tgt := 266) dX3_combined_259 rfl (fun c14 => ?_) (fun c14 => ?_)
          · have h := h.1 c14
            refine eg_sub [1, 2] rfl ?_
            exact h
          · have h := h.2 c14
            refine eg_ldc2 dX3_combined_262 kc_3_41 ?_
            exact eg_lreturn dX3_combined_265 rfl h
        clear h
        refine eg_if_ge (tgt := 256) dX3_combined_248 rfl (fun c15 => ?_) (fun c15 => ?_)
        · refine eg_lload_n 1 dX3_combined_256 rfl rfl ?_
          exact J _ (by rw [if_pos c15])
        · refine eg_lload_n 1 dX3_combined_251 rfl rfl ?_
          refine eg_lneg dX3_combined_252 ?_
          refine eg_goto (tgt := 257) dX3_combined_253 rfl ?_
          exact J _ (by rw [if_neg c15])
      clear h
      refine eg_if_ge (tgt := 241) dX3_combined_233 rfl (fun c16 => ?_) (fun c16 => ?_)
      · refine eg_lload_n 2 dX3_combined_241 rfl rfl ?_
        exact J _ (by rw [if_pos c16])
      · refine eg_lload_n 2 dX3_combined_236 rfl rfl ?_
        refine eg_lneg dX3_combined_237 ?_
        refine eg_goto (tgt := 242) dX3_combined_238 rfl ?_
        exact J _ (by rw [if_neg c16])
  by_cases c14_ : l0 = (27 : Int32)
  · refine eg_tabI (tgt := 274) dX3_combined_1 (by rw [c14_]; decide) (by rw [c14_]; decide) (off := 273) (by rw [c14_]; rfl) rfl ?_
    have h := h.2.2.2.2.2.2.1 c14_
    refine eg_lload_n 2 dX3_combined_274 rfl rfl ?_
    refine eg_lconst dX3_combined_275 lc_0 ?_
    refine eg_lcmp dX3_combined_276 ?_
    refine eg_if_ne (tgt := 284) dX3_combined_277 rfl (fun c17 => ?_) (fun c17 => ?_)
    · have h := h.1 c17
      refine eg_lload_n 1 dX3_combined_284 rfl rfl ?_
      refine eg_lload_n 2 dX3_combined_285 rfl rfl ?_
      obtain ⟨g18, h⟩ := h
      refine eg_ldiv dX3_combined_286 g18 ?_
      refine en_lstore (f := fun x19 => [(5, vL x19), (0, vI l0), (1, vL l1), (3, vL l3)]) dX3_combined_287 (by decide) rfl (fun x19 ex19 => ?_)
      have h := h x19 ex19
      refine eg_goto (tgt := 296) dX3_combined_289 rfl ?_
      refine eg_sub [0] rfl ?_
      exact h
    · have h := h.2 c17
      refine eg_ldc2 dX3_combined_280 kc_3_41 ?_
      exact eg_lreturn dX3_combined_283 rfl h
  by_cases c15_ : l0 = (28 : Int32)
  · refine eg_tabI (tgt := 136) dX3_combined_1 (by rw [c15_]; decide) (by rw [c15_]; decide) (off := 135) (by rw [c15_]; rfl) rfl ?_
    have h := h.2.2.2.2.2.2.2.1 c15_
    refine eg_lload_n 1 dX3_combined_136 rfl rfl ?_
    refine eg_lload_n 2 dX3_combined_137 rfl rfl ?_
    refine eg_lcmp dX3_combined_138 ?_
    have J : ∀ x20 : Int64, x20 = (if 0 ≤ (lg_cmp l1 l3) then (0 : Int64) else (1 : Int64)) → eg_W κ gC mtX3_combined d (eQL κ gC post) 147 [(0, vI l0), (1, vL l1), (3, vL l3)] [vL x20] M := by
      intro x20 ex20
      have h := h x20 ex20
      exact eg_lreturn dX3_combined_147 rfl h
    clear h
    refine eg_if_ge (tgt := 146) dX3_combined_139 rfl (fun c21 => ?_) (fun c21 => ?_)
    · refine eg_lconst dX3_combined_146 lc_0 ?_
      exact J _ (by rw [if_pos c21])
    · refine eg_lconst dX3_combined_142 lc_1 ?_
      refine eg_goto (tgt := 147) dX3_combined_143 rfl ?_
      exact J _ (by rw [if_neg c21])
  by_cases c16_ : l0 = (29 : Int32)
  · refine eg_tabI (tgt := 148) dX3_combined_1 (by rw [c16_]; decide) (by rw [c16_]; decide) (off := 147) (by rw [c16_]; rfl) rfl ?_
    have h := h.2.2.2.2.2.2.2.2.1 c16_
    refine eg_lload_n 1 dX3_combined_148 rfl rfl ?_
    refine eg_lload_n 2 dX3_combined_149 rfl rfl ?_
    refine eg_lcmp dX3_combined_150 ?_
    have J : ∀ x22 : Int64, x22 = (if 0 < (lg_cmp l1 l3) then (0 : Int64) else (1 : Int64)) → eg_W κ gC mtX3_combined d (eQL κ gC post) 159 [(0, vI l0), (1, vL l1), (3, vL l3)] [vL x22] M := by
      intro x22 ex22
      have h := h x22 ex22
      exact eg_lreturn dX3_combined_159 rfl h
    clear h
    refine eg_if_gt (tgt := 158) dX3_combined_151 rfl (fun c23 => ?_) (fun c23 => ?_)
    · refine eg_lconst dX3_combined_158 lc_0 ?_
      exact J _ (by rw [if_pos c23])
    · refine eg_lconst dX3_combined_154 lc_1 ?_
      refine eg_goto (tgt := 159) dX3_combined_155 rfl ?_
      exact J _ (by rw [if_neg c23])
  by_cases c17_ : l0 = (30 : Int32)
  · refine eg_tabI (tgt := 160) dX3_combined_1 (by rw [c17_]; decide) (by rw [c17_]; decide) (off := 159) (by rw [c17_]; rfl) rfl ?_
    have h := h.2.2.2.2.2.2.2.2.2.1 c17_
    refine eg_lload_n 1 dX3_combined_160 rfl rfl ?_
    refine eg_lload_n 2 dX3_combined_161 rfl rfl ?_
    refine eg_lcmp dX3_combined_162 ?_
    have J : ∀ x24 : Int64, x24 = (if (¬ (lg_cmp l1 l3) = 0) then (0 : Int64) else (1 : Int64)) → eg_W κ gC mtX3_combined d (eQL κ gC post) 171 [(0, vI l0), (1, vL l1), (3, vL l3)] [vL x24] M := by
      intro x24 ex24
      have h := h x24 ex24
      exact eg_lreturn dX3_combined_171 rfl h
    clear h
    refine eg_if_ne (tgt := 170) dX3_combined_163 rfl (fun c25 => ?_) (fun c25 => ?_)
    · refine eg_lconst dX3_combined_170 lc_0 ?_
      exact J _ (by rw [if_pos c25])
    · have c26 : ¬ (¬ (lg_cmp l1 l3) = 0) := fun z => z c25
      refine eg_lconst dX3_combined_166 lc_1 ?_
      refine eg_goto (tgt := 171) dX3_combined_167 rfl ?_
      exact J _ (by rw [if_neg c26])
  by_cases c18_ : l0 = (31 : Int32)
  · refine eg_tabI (tgt := 172) dX3_combined_1 (by rw [c18_]; decide) (by rw [c18_]; decide) (off := 171) (by rw [c18_]; rfl) rfl ?_
    have h := h.2.2.2.2.2.2.2.2.2.2.1 c18_
    refine eg_lload_n 1 dX3_combined_172 rfl rfl ?_
    refine eg_lload_n 2 dX3_combined_173 rfl rfl ?_
    refine eg_lcmp dX3_combined_174 ?_
    have J : ∀ x27 : Int64, x27 = (if (lg_cmp l1 l3) = 0 then (0 : Int64) else (1 : Int64)) → eg_W κ gC mtX3_combined d (eQL κ gC post) 183 [(0, vI l0), (1, vL l1), (3, vL l3)] [vL x27] M := by
      intro x27 ex27
      have h := h x27 ex27
      exact eg_lreturn dX3_combined_183 rfl h
    clear h
    refine eg_if_eq (tgt := 182) dX3_combined_175 rfl (fun c28 => ?_) (fun c28 => ?_)
    · refine eg_lconst dX3_combined_182 lc_0 ?_
      exact J _ (by rw [if_pos c28])
    · refine eg_lconst dX3_combined_178 lc_1 ?_
      refine eg_goto (tgt := 183) dX3_combined_179 rfl ?_
      exact J _ (by rw [if_neg c28])
  by_cases c19_ : l0 = (32 : Int32)
  · refine eg_tabI (tgt := 184) dX3_combined_1 (by rw [c19_]; decide) (by rw [c19_]; decide) (off := 183) (by rw [c19_]; rfl) rfl ?_
    have h := h.2.2.2.2.2.2.2.2.2.2.2.1 c19_
    refine eg_lload_n 1 dX3_combined_184 rfl rfl ?_
    refine eg_lload_n 2 dX3_combined_185 rfl rfl ?_
    refine eg_lcmp dX3_combined_186 ?_
    have J : ∀ x29 : Int64, x29 = (if (lg_cmp l1 l3) < 0 then (0 : Int64) else (1 : Int64)) → eg_W κ gC mtX3_combined d (eQL κ gC post) 195 [(0, vI l0), (1, vL l1), (3, vL l3)] [vL x29] M := by
      intro x29 ex29
      have h := h x29 ex29
      exact eg_lreturn dX3_combined_195 rfl h
    clear h
    refine eg_if_lt (tgt := 194) dX3_combined_187 rfl (fun c30 => ?_) (fun c30 => ?_)
    · refine eg_lconst dX3_combined_194 lc_0 ?_
      exact J _ (by rw [if_pos c30])
    · refine eg_lconst dX3_combined_190 lc_1 ?_
      refine eg_goto (tgt := 195) dX3_combined_191 rfl ?_
      exact J _ (by rw [if_neg c30])
  by_cases c20_ : l0 = (33 : Int32)
  · refine eg_tabI (tgt := 196) dX3_combined_1 (by rw [c20_]; decide) (by rw [c20_]; decide) (off := 195) (by rw [c20_]; rfl) rfl ?_
    have h := h.2.2.2.2.2.2.2.2.2.2.2.2 c20_
    refine eg_lload_n 1 dX3_combined_196 rfl rfl ?_
    refine eg_lload_n 2 dX3_combined_197 rfl rfl ?_
    refine eg_lcmp dX3_combined_198 ?_
    have J : ∀ x31 : Int64, x31 = (if (lg_cmp l1 l3) ≤ 0 then (0 : Int64) else (1 : Int64)) → eg_W κ gC mtX3_combined d (eQL κ gC post) 207 [(0, vI l0), (1, vL l1), (3, vL l3)] [vL x31] M := by
      intro x31 ex31
      have h := h x31 ex31
      exact eg_lreturn dX3_combined_207 rfl h
    clear h
    refine eg_if_le (tgt := 206) dX3_combined_199 rfl (fun c32 => ?_) (fun c32 => ?_)
    · refine eg_lconst dX3_combined_206 lc_0 ?_
      exact J _ (by rw [if_pos c32])
    · refine eg_lconst dX3_combined_202 lc_1 ?_
      refine eg_goto (tgt := 207) dX3_combined_203 rfl ?_
      exact J _ (by rw [if_neg c32])
  refine eg_tabO (tgt := 292) dX3_combined_1 ?_ rfl (J c0_ c1_ c11_ c12_ c13_ c14_ c15_ c16_ c17_ c18_ c19_ c20_)
  have t0_ := eg_ti 13 (by decide) c0_
  have t1_ := eg_ti 14 (by decide) c1_
  have t2_ := eg_ti 15 (by decide) c2_
  have t3_ := eg_ti 16 (by decide) c3_
  have t4_ := eg_ti 17 (by decide) c4_
  have t5_ := eg_ti 18 (by decide) c5_
  have t6_ := eg_ti 19 (by decide) c6_
  have t7_ := eg_ti 20 (by decide) c7_
  have t8_ := eg_ti 21 (by decide) c8_
  have t9_ := eg_ti 22 (by decide) c9_
  have t10_ := eg_ti 23 (by decide) c10_
  have t11_ := eg_ti 24 (by decide) c11_
  have t12_ := eg_ti 25 (by decide) c12_
  have t13_ := eg_ti 26 (by decide) c13_
  have t14_ := eg_ti 27 (by decide) c14_
  have t15_ := eg_ti 28 (by decide) c15_
  have t16_ := eg_ti 29 (by decide) c16_
  have t17_ := eg_ti 30 (by decide) c17_
  have t18_ := eg_ti 31 (by decide) c18_
  have t19_ := eg_ti 32 (by decide) c19_
  have t20_ := eg_ti 33 (by decide) c20_
  omega
set_option maxRecDepth 10000 in
theorem vX3_combined_266 {κ : eg_K} {d : Nat} {post : Int64 → eg_H → Prop} (M : eg_H) (l1 : Int64) (l3 : Int64) (h : (∀ x1 : Int64, x1 = (l1 * l3) → eg_W κ gC mtX3_combined d (eQL κ gC post) 296 [(5, vL x1)] [] M)) : eg_W κ gC mtX3_combined d (eQL κ gC post) 266 [(1, vL l1), (3, vL l3)] [] M := by
  refine eg_lload_n 0 dX3_combined_266 rfl rfl ?_
  refine eg_lload_n 1 dX3_combined_267 rfl rfl ?_
  refine eg_lmul dX3_combined_268 ?_
  refine en_lstore (f := fun x1 => [(5, vL x1), (1, vL l1), (3, vL l3)]) dX3_combined_269 (by decide) rfl (fun x1 ex1 => ?_)
  have h := h x1 ex1
  refine eg_goto (tgt := 296) dX3_combined_271 rfl ?_
  refine eg_sub [0] rfl ?_
  exact h
set_option maxRecDepth 10000 in
theorem vX3_combined_292 {κ : eg_K} {d : Nat} {post : Int64 → eg_H → Prop} (M : eg_H)  (h : post (-9223372036854775808 : Int64) M) : eg_W κ gC mtX3_combined d (eQL κ gC post) 292 [] [] M := by
  refine eg_ldc2 dX3_combined_292 kc_3_41 ?_
  exact eg_lreturn dX3_combined_295 rfl h
set_option maxRecDepth 10000 in
theorem vX3_combined_296 {κ : eg_K} {d : Nat} {post : Int64 → eg_H → Prop} (M : eg_H) (l5 : Int64) (h : (∀ x1 : Int64, x1 = ((if 0 < (lg_cmp l5 (1000000000000 : Int64)) then (-9223372036854775808 : Int64) else (if 0 ≤ (lg_cmp l5 (-1000000000000 : Int64)) then l5 else (-9223372036854775808 : Int64)))) → post x1 M)) : eg_W κ gC mtX3_combined d (eQL κ gC post) 296 [(5, vL l5)] [] M := by
  refine eg_lload 0 dX3_combined_296 rfl ?_
  refine eg_ldc2 dX3_combined_298 kc_3_47 ?_
  refine eg_lcmp dX3_combined_301 ?_
  have J : ∀ x1 : Int64, x1 = (if 0 < (lg_cmp l5 (1000000000000 : Int64)) then (-9223372036854775808 : Int64) else (if 0 ≤ (lg_cmp l5 (-1000000000000 : Int64)) then l5 else (-9223372036854775808 : Int64))) → eg_W κ gC mtX3_combined d (eQL κ gC post) 322 [(5, vL l5)] [vL x1] M := by
    intro x1 ex1
    have h := h x1 ex1
    exact eg_lreturn dX3_combined_322 rfl h
  clear h
  refine eg_if_gt (tgt := 314) dX3_combined_302 rfl (fun c2 => ?_) (fun c2 => ?_)
  · refine eg_ldc2 dX3_combined_314 kc_3_41 ?_
    refine eg_goto (tgt := 322) dX3_combined_317 rfl ?_
    exact J _ (by rw [if_pos c2])
  · refine eg_lload 0 dX3_combined_305 rfl ?_
    refine eg_ldc2 dX3_combined_307 kc_3_49 ?_
    refine eg_lcmp dX3_combined_310 ?_
    refine eg_if_ge (tgt := 320) dX3_combined_311 rfl (fun c3 => ?_) (fun c3 => ?_)
    · refine eg_lload 0 dX3_combined_320 rfl ?_
      exact J _ (by rw [if_neg c2, if_pos c3])
    · refine eg_ldc2 dX3_combined_314 kc_3_41 ?_
      refine eg_goto (tgt := 322) dX3_combined_317 rfl ?_
      exact J _ (by rw [if_neg c2, if_neg c3])
theorem dX3_value_0 : decode cX3_value 0 = .ok (.iload_n 1, 1) := by decide +kernel
theorem dX3_value_1 : decode cX3_value 1 = .ok (.ifCond .lt 11, 3) := by decide +kernel
theorem dX3_value_4 : decode cX3_value 4 = .ok (.iload_n 1, 1) := by decide +kernel
theorem dX3_value_5 : decode cX3_value 5 = .ok (.aload_n 0, 1) := by decide +kernel
theorem dX3_value_6 : decode cX3_value 6 = .ok (.getfield 32, 3) := by decide +kernel
theorem dX3_value_9 : decode cX3_value 9 = .ok (.if_icmp .lt 7, 3) := by decide +kernel
theorem dX3_value_12 : decode cX3_value 12 = .ok (.ldc2_w 41, 3) := by decide +kernel
theorem dX3_value_15 : decode cX3_value 15 = .ok (.lreturn, 1) := by decide +kernel
theorem dX3_value_16 : decode cX3_value 16 = .ok (.iconst 0, 1) := by decide +kernel
theorem dX3_value_17 : decode cX3_value 17 = .ok (.istore_n 2, 1) := by decide +kernel
theorem dX3_value_18 : decode cX3_value 18 = .ok (.aload_n 0, 1) := by decide +kernel
theorem dX3_value_19 : decode cX3_value 19 = .ok (.getfield 15, 3) := by decide +kernel
theorem dX3_value_22 : decode cX3_value 22 = .ok (.iload_n 1, 1) := by decide +kernel
theorem dX3_value_23 : decode cX3_value 23 = .ok (.iaload, 1) := by decide +kernel
theorem dX3_value_24 : decode cX3_value 24 = .ok (.istore_n 3, 1) := by decide +kernel
theorem dX3_value_25 : decode cX3_value 25 = .ok (.iload_n 3, 1) := by decide +kernel
theorem dX3_value_26 : decode cX3_value 26 = .ok (.aload_n 0, 1) := by decide +kernel
theorem dX3_value_27 : decode cX3_value 27 = .ok (.getfield 18, 3) := by decide +kernel
theorem dX3_value_30 : decode cX3_value 30 = .ok (.iload_n 1, 1) := by decide +kernel
theorem dX3_value_31 : decode cX3_value 31 = .ok (.iaload, 1) := by decide +kernel
theorem dX3_value_32 : decode cX3_value 32 = .ok (.if_icmp .ge 194, 3) := by decide +kernel
theorem dX3_value_35 : decode cX3_value 35 = .ok (.iload_n 3, 1) := by decide +kernel
theorem dX3_value_36 : decode cX3_value 36 = .ok (.bipush 64, 2) := by decide +kernel
theorem dX3_value_38 : decode cX3_value 38 = .ok (.if_icmp .ge 188, 3) := by decide +kernel
theorem dX3_value_41 : decode cX3_value 41 = .ok (.aload_n 0, 1) := by decide +kernel
theorem dX3_value_42 : decode cX3_value 42 = .ok (.getfield 9, 3) := by decide +kernel
theorem dX3_value_45 : decode cX3_value 45 = .ok (.iload_n 3, 1) := by decide +kernel
theorem dX3_value_46 : decode cX3_value 46 = .ok (.iaload, 1) := by decide +kernel
theorem dX3_value_47 : decode cX3_value 47 = .ok (.istore 4, 2) := by decide +kernel
theorem dX3_value_49 : decode cX3_value 49 = .ok (.iload 4, 2) := by decide +kernel
theorem dX3_value_51 : decode cX3_value 51 = .ok (.sipush 10000, 3) := by decide +kernel
theorem dX3_value_54 : decode cX3_value 54 = .ok (.isub, 1) := by decide +kernel
theorem dX3_value_55 : decode cX3_value 55 = .ok (.istore 5, 2) := by decide +kernel
theorem dX3_value_57 : decode cX3_value 57 = .ok (.iload_n 2, 1) := by decide +kernel
theorem dX3_value_58 : decode cX3_value 58 = .ok (.bipush 64, 2) := by decide +kernel
theorem dX3_value_60 : decode cX3_value 60 = .ok (.if_icmp .lt 7, 3) := by decide +kernel
theorem dX3_value_63 : decode cX3_value 63 = .ok (.ldc2_w 41, 3) := by decide +kernel
theorem dX3_value_66 : decode cX3_value 66 = .ok (.lreturn, 1) := by decide +kernel
theorem dX3_value_67 : decode cX3_value 67 = .ok (.iload 4, 2) := by decide +kernel
theorem dX3_value_69 : decode cX3_value 69 = .ok (.sipush 10000, 3) := by decide +kernel
theorem dX3_value_72 : decode cX3_value 72 = .ok (.if_icmp .ge 18, 3) := by decide +kernel
theorem dX3_value_75 : decode cX3_value 75 = .ok (.aload_n 0, 1) := by decide +kernel
theorem dX3_value_76 : decode cX3_value 76 = .ok (.getfield 25, 3) := by decide +kernel
theorem dX3_value_79 : decode cX3_value 79 = .ok (.iload_n 2, 1) := by decide +kernel
theorem dX3_value_80 : decode cX3_value 80 = .ok (.iload 4, 2) := by decide +kernel
theorem dX3_value_82 : decode cX3_value 82 = .ok (.i2l, 1) := by decide +kernel
theorem dX3_value_83 : decode cX3_value 83 = .ok (.lastore, 1) := by decide +kernel
theorem dX3_value_84 : decode cX3_value 84 = .ok (.iinc 2 1, 3) := by decide +kernel
theorem dX3_value_87 : decode cX3_value 87 = .ok (.goto 133, 3) := by decide +kernel
theorem dX3_value_90 : decode cX3_value 90 = .ok (.iload 5, 2) := by decide +kernel
theorem dX3_value_92 : decode cX3_value 92 = .ok (.bipush 16, 2) := by decide +kernel
theorem dX3_value_94 : decode cX3_value 94 = .ok (.if_icmp .lt 32, 3) := by decide +kernel
theorem dX3_value_97 : decode cX3_value 97 = .ok (.iload 5, 2) := by decide +kernel
theorem dX3_value_99 : decode cX3_value 99 = .ok (.bipush 23, 2) := by decide +kernel
theorem dX3_value_101 : decode cX3_value 101 = .ok (.if_icmp .gt 25, 3) := by decide +kernel
theorem dX3_value_104 : decode cX3_value 104 = .ok (.aload_n 0, 1) := by decide +kernel
theorem dX3_value_105 : decode cX3_value 105 = .ok (.getfield 25, 3) := by decide +kernel
theorem dX3_value_108 : decode cX3_value 108 = .ok (.iload_n 2, 1) := by decide +kernel
theorem dX3_value_109 : decode cX3_value 109 = .ok (.aload_n 0, 1) := by decide +kernel
theorem dX3_value_110 : decode cX3_value 110 = .ok (.getfield 21, 3) := by decide +kernel
theorem dX3_value_113 : decode cX3_value 113 = .ok (.iload 5, 2) := by decide +kernel
theorem dX3_value_115 : decode cX3_value 115 = .ok (.bipush 16, 2) := by decide +kernel
theorem dX3_value_117 : decode cX3_value 117 = .ok (.isub, 1) := by decide +kernel
theorem dX3_value_118 : decode cX3_value 118 = .ok (.laload, 1) := by decide +kernel
theorem dX3_value_119 : decode cX3_value 119 = .ok (.lastore, 1) := by decide +kernel
theorem dX3_value_120 : decode cX3_value 120 = .ok (.iinc 2 1, 3) := by decide +kernel
theorem dX3_value_123 : decode cX3_value 123 = .ok (.goto 97, 3) := by decide +kernel
theorem dX3_value_126 : decode cX3_value 126 = .ok (.iload 5, 2) := by decide +kernel
theorem dX3_value_128 : decode cX3_value 128 = .ok (.bipush 15, 2) := by decide +kernel
theorem dX3_value_130 : decode cX3_value 130 = .ok (.if_icmp .ne 36, 3) := by decide +kernel
theorem dX3_value_133 : decode cX3_value 133 = .ok (.iload_n 2, 1) := by decide +kernel
theorem dX3_value_134 : decode cX3_value 134 = .ok (.ifCond .le 32, 3) := by decide +kernel
theorem dX3_value_137 : decode cX3_value 137 = .ok (.aload_n 0, 1) := by decide +kernel
theorem dX3_value_138 : decode cX3_value 138 = .ok (.getfield 25, 3) := by decide +kernel
theorem dX3_value_141 : decode cX3_value 141 = .ok (.iload_n 2, 1) := by decide +kernel
theorem dX3_value_142 : decode cX3_value 142 = .ok (.iconst 1, 1) := by decide +kernel
theorem dX3_value_143 : decode cX3_value 143 = .ok (.isub, 1) := by decide +kernel
theorem dX3_value_144 : decode cX3_value 144 = .ok (.aload_n 0, 1) := by decide +kernel
theorem dX3_value_145 : decode cX3_value 145 = .ok (.getfield 25, 3) := by decide +kernel
theorem dX3_value_148 : decode cX3_value 148 = .ok (.iload_n 2, 1) := by decide +kernel
theorem dX3_value_149 : decode cX3_value 149 = .ok (.iconst 1, 1) := by decide +kernel
theorem dX3_value_150 : decode cX3_value 150 = .ok (.isub, 1) := by decide +kernel
theorem dX3_value_151 : decode cX3_value 151 = .ok (.laload, 1) := by decide +kernel
theorem dX3_value_152 : decode cX3_value 152 = .ok (.lconst 0, 1) := by decide +kernel
theorem dX3_value_153 : decode cX3_value 153 = .ok (.lcmp, 1) := by decide +kernel
theorem dX3_value_154 : decode cX3_value 154 = .ok (.ifCond .ne 7, 3) := by decide +kernel
theorem dX3_value_157 : decode cX3_value 157 = .ok (.lconst 1, 1) := by decide +kernel
theorem dX3_value_158 : decode cX3_value 158 = .ok (.goto 4, 3) := by decide +kernel
theorem dX3_value_161 : decode cX3_value 161 = .ok (.lconst 0, 1) := by decide +kernel
theorem dX3_value_162 : decode cX3_value 162 = .ok (.lastore, 1) := by decide +kernel
theorem dX3_value_163 : decode cX3_value 163 = .ok (.goto 57, 3) := by decide +kernel
theorem dX3_value_166 : decode cX3_value 166 = .ok (.iload_n 2, 1) := by decide +kernel
theorem dX3_value_167 : decode cX3_value 167 = .ok (.iconst 1, 1) := by decide +kernel
theorem dX3_value_168 : decode cX3_value 168 = .ok (.if_icmp .le 52, 3) := by decide +kernel
theorem dX3_value_171 : decode cX3_value 171 = .ok (.iinc 2 (-1), 3) := by decide +kernel
theorem dX3_value_174 : decode cX3_value 174 = .ok (.aload_n 0, 1) := by decide +kernel
theorem dX3_value_175 : decode cX3_value 175 = .ok (.getfield 25, 3) := by decide +kernel
theorem dX3_value_178 : decode cX3_value 178 = .ok (.iload_n 2, 1) := by decide +kernel
theorem dX3_value_179 : decode cX3_value 179 = .ok (.iconst 1, 1) := by decide +kernel
theorem dX3_value_180 : decode cX3_value 180 = .ok (.isub, 1) := by decide +kernel
theorem dX3_value_181 : decode cX3_value 181 = .ok (.iload 5, 2) := by decide +kernel
theorem dX3_value_183 : decode cX3_value 183 = .ok (.aload_n 0, 1) := by decide +kernel
theorem dX3_value_184 : decode cX3_value 184 = .ok (.getfield 25, 3) := by decide +kernel
theorem dX3_value_187 : decode cX3_value 187 = .ok (.iload_n 2, 1) := by decide +kernel
theorem dX3_value_188 : decode cX3_value 188 = .ok (.iconst 1, 1) := by decide +kernel
theorem dX3_value_189 : decode cX3_value 189 = .ok (.isub, 1) := by decide +kernel
theorem dX3_value_190 : decode cX3_value 190 = .ok (.laload, 1) := by decide +kernel
theorem dX3_value_191 : decode cX3_value 191 = .ok (.aload_n 0, 1) := by decide +kernel
theorem dX3_value_192 : decode cX3_value 192 = .ok (.getfield 25, 3) := by decide +kernel
theorem dX3_value_195 : decode cX3_value 195 = .ok (.iload_n 2, 1) := by decide +kernel
theorem dX3_value_196 : decode cX3_value 196 = .ok (.laload, 1) := by decide +kernel
theorem dX3_value_197 : decode cX3_value 197 = .ok (.invokestatic 43, 3) := by decide +kernel
theorem dX3_value_200 : decode cX3_value 200 = .ok (.lastore, 1) := by decide +kernel
theorem dX3_value_201 : decode cX3_value 201 = .ok (.aload_n 0, 1) := by decide +kernel
theorem dX3_value_202 : decode cX3_value 202 = .ok (.getfield 25, 3) := by decide +kernel
theorem dX3_value_205 : decode cX3_value 205 = .ok (.iload_n 2, 1) := by decide +kernel
theorem dX3_value_206 : decode cX3_value 206 = .ok (.iconst 1, 1) := by decide +kernel
theorem dX3_value_207 : decode cX3_value 207 = .ok (.isub, 1) := by decide +kernel
theorem dX3_value_208 : decode cX3_value 208 = .ok (.laload, 1) := by decide +kernel
theorem dX3_value_209 : decode cX3_value 209 = .ok (.ldc2_w 41, 3) := by decide +kernel
theorem dX3_value_212 : decode cX3_value 212 = .ok (.lcmp, 1) := by decide +kernel
theorem dX3_value_213 : decode cX3_value 213 = .ok (.ifCond .ne 7, 3) := by decide +kernel
theorem dX3_value_216 : decode cX3_value 216 = .ok (.ldc2_w 41, 3) := by decide +kernel
theorem dX3_value_219 : decode cX3_value 219 = .ok (.lreturn, 1) := by decide +kernel
theorem dX3_value_220 : decode cX3_value 220 = .ok (.iinc 3 1, 3) := by decide +kernel
theorem dX3_value_223 : decode cX3_value 223 = .ok (.goto (-198), 3) := by decide +kernel
theorem dX3_value_226 : decode cX3_value 226 = .ok (.iload_n 2, 1) := by decide +kernel
theorem dX3_value_227 : decode cX3_value 227 = .ok (.iconst 1, 1) := by decide +kernel
theorem dX3_value_228 : decode cX3_value 228 = .ok (.if_icmp .ne 12, 3) := by decide +kernel
theorem dX3_value_231 : decode cX3_value 231 = .ok (.aload_n 0, 1) := by decide +kernel
theorem dX3_value_232 : decode cX3_value 232 = .ok (.getfield 25, 3) := by decide +kernel
theorem dX3_value_235 : decode cX3_value 235 = .ok (.iconst 0, 1) := by decide +kernel
theorem dX3_value_236 : decode cX3_value 236 = .ok (.laload, 1) := by decide +kernel
theorem dX3_value_237 : decode cX3_value 237 = .ok (.goto 6, 3) := by decide +kernel
theorem dX3_value_240 : decode cX3_value 240 = .ok (.ldc2_w 41, 3) := by decide +kernel
theorem dX3_value_243 : decode cX3_value 243 = .ok (.lreturn, 1) := by decide +kernel
set_option maxRecDepth 10000 in
theorem vX3_value_0 {κ : eg_K} {d : Nat} {post : Int64 → eg_H → Prop} (M : eg_H) {l0 : Nat} (hl0 : l0 < 2) (l1 : Int32) (h : (l1 < 0 → post (-9223372036854775808 : Int64) M) ∧ ((¬ l1 < 0) → (l1 < (M.1 (3, l0) 4) → (vp_in l1 7 ∧ (∀ x4 : Int32, x4 = (M.1 (24, l0) l1.toNatClampNeg) → eg_W κ gC mtX3_value d (eQL κ gC post) 25 [(0, vR (3, l0)), (1, vI l1), (2, vI (0 : Int32)), (3, vI x4)] [] M))) ∧ ((¬ l1 < (M.1 (3, l0) 4)) → post (-9223372036854775808 : Int64) M))) : eg_W κ gC mtX3_value d (eQL κ gC post) 0 [(0, vR (3, l0)), (1, vI l1)] [] M := by
  refine eg_iload_n 1 dX3_value_0 rfl rfl ?_
  refine eg_if_lt (tgt := 12) dX3_value_1 rfl (fun c1 => ?_) (fun c1 => ?_)
  · have h := h.1 c1
    refine eg_ldc2 dX3_value_12 kc_3_41 ?_
    exact eg_lreturn dX3_value_15 rfl h
  · have h := h.2 c1
    refine eg_iload_n 1 dX3_value_4 rfl rfl ?_
    refine eg_aload_n 0 dX3_value_5 rfl rfl ?_
    refine eg_getI dX3_value_6 fl_3_32 rfl trivial (obC_3 hl0) ?_
    refine eg_icmp_lt (tgt := 16) dX3_value_9 rfl (fun c2 => ?_) (fun c2 => ?_)
    · have h := h.1 c2
      refine eg_iconst dX3_value_16 ic_0 ?_
      refine eg_istore_n dX3_value_17 rfl (by decide) (ls1 := [(2, vI (0 : Int32)), (0, vR (3, l0)), (1, vI l1)]) rfl ?_
      refine eg_aload_n 1 dX3_value_18 rfl rfl ?_
      refine eg_getR dX3_value_19 fl_3_15 rfl rfl (obC_3 hl0) ?_
      show eg_W κ gC mtX3_value d (eQL κ gC post) 22 [(2, vI (0 : Int32)), (0, vR (3, l0)), (1, vI l1)] [vR (24, l0)] M
      refine eg_iload_n 2 dX3_value_22 rfl rfl ?_
      obtain ⟨g3, h⟩ := h
      refine eg_iaload dX3_value_23 (arC_24 hl0 g3) ?_
      refine en_istore_n (f := fun x4 => [(3, vI x4), (2, vI (0 : Int32)), (0, vR (3, l0)), (1, vI l1)]) dX3_value_24 rfl (by decide) rfl (fun x4 ex4 => ?_)
      have h := h x4 ex4
      refine eg_sub [2, 3, 1, 0] rfl ?_
      exact h
    · have h := h.2 c2
      refine eg_ldc2 dX3_value_12 kc_3_41 ?_
      exact eg_lreturn dX3_value_15 rfl h
set_option maxRecDepth 10000 in
theorem vX3_value_25 {κ : eg_K} {d : Nat} {post : Int64 → eg_H → Prop} (M : eg_H) {l0 : Nat} (hl0 : l0 < 2) (l1 : Int32) (l2 : Int32) (l3 : Int32) (h : (vp_in l1 7 ∧ ((M.1 (25, l0) l1.toNatClampNeg) ≤ l3 → ((l2 = (1 : Int32) → vp_in (0 : Int32) 64) ∧ (∀ x4 : Int64, x4 = ((if (¬ l2 = (1 : Int32)) then (-9223372036854775808 : Int64) else (M.2.1 (27, l0) (0 : Int32).toNatClampNeg))) → post x4 M))) ∧ ((¬ (M.1 (25, l0) l1.toNatClampNeg) ≤ l3) → ((64 : Int32) ≤ l3 → ((l2 = (1 : Int32) → vp_in (0 : Int32) 64) ∧ (∀ x9 : Int64, x9 = ((if (¬ l2 = (1 : Int32)) then (-9223372036854775808 : Int64) else (M.2.1 (27, l0) (0 : Int32).toNatClampNeg))) → post x9 M))) ∧ ((¬ (64 : Int32) ≤ l3) → (vp_in l3 64 ∧ (∀ x13 : Int32, x13 = (M.1 (23, l0) l3.toNatClampNeg) → (∀ x14 : Int32, x14 = (x13 - (10000 : Int32)) → (l2 < (64 : Int32) → ((10000 : Int32) ≤ x13 → (x14 < (16 : Int32) → eg_W κ gC mtX3_value d (eQL κ gC post) 126 [(0, vR (3, l0)), (1, vI l1), (2, vI l2), (3, vI l3), (5, vI x14)] [] M) ∧ ((¬ x14 < (16 : Int32)) → ((23 : Int32) < x14 → eg_W κ gC mtX3_value d (eQL κ gC post) 126 [(0, vR (3, l0)), (1, vI l1), (2, vI l2), (3, vI l3), (5, vI x14)] [] M) ∧ ((¬ (23 : Int32) < x14) → (vp_in (x14 - (16 : Int32)) 8 ∧ (vp_in l2 64 ∧ (∀ M21 : eg_H, M21 = (sL M (27, l0) l2.toNatClampNeg (M.2.1 (26, l0) (x14 - (16 : Int32)).toNatClampNeg)) → (∀ x22 : Int32, x22 = (l2 + (1 : Int32)) → (∀ x23 : Int32, x23 = (l3 + (1 : Int32)) → eg_W κ gC mtX3_value d (eQL κ gC post) 25 [(0, vR (3, l0)), (1, vI l1), (2, vI x22), (3, vI x23)] [] M21)))))))) ∧ ((¬ (10000 : Int32) ≤ x13) → (vp_in l2 64 ∧ (∀ M25 : eg_H, M25 = (sL M (27, l0) l2.toNatClampNeg (x13.toInt64)) → (∀ x26 : Int32, x26 = (l2 + (1 : Int32)) → (∀ x27 : Int32, x27 = (l3 + (1 : Int32)) → eg_W κ gC mtX3_value d (eQL κ gC post) 25 [(0, vR (3, l0)), (1, vI l1), (2, vI x26), (3, vI x27)] [] M25)))))) ∧ ((¬ l2 < (64 : Int32)) → post (-9223372036854775808 : Int64) M)))))))) : eg_W κ gC mtX3_value d (eQL κ gC post) 25 [(0, vR (3, l0)), (1, vI l1), (2, vI l2), (3, vI l3)] [] M := by
  refine eg_iload_n 3 dX3_value_25 rfl rfl ?_
  refine eg_aload_n 0 dX3_value_26 rfl rfl ?_
  refine eg_getR dX3_value_27 fl_3_18 rfl rfl (obC_3 hl0) ?_
  show eg_W κ gC mtX3_value d (eQL κ gC post) 30 [(0, vR (3, l0)), (1, vI l1), (2, vI l2), (3, vI l3)] [vR (25, l0), vI l3] M
  refine eg_iload_n 1 dX3_value_30 rfl rfl ?_
  obtain ⟨g1, h⟩ := h
  refine eg_iaload dX3_value_31 (arC_25 hl0 g1) ?_
  refine eg_icmp_ge (tgt := 226) dX3_value_32 rfl (fun c2 => ?_) (fun c2 => ?_)
  · have h := h.1 c2
    refine eg_iload_n 2 dX3_value_226 rfl rfl ?_
    refine eg_iconst dX3_value_227 ic_1 ?_
    obtain ⟨g3, h⟩ := h
    have J : ∀ x4 : Int64, x4 = (if (¬ l2 = (1 : Int32)) then (-9223372036854775808 : Int64) else (M.2.1 (27, l0) (0 : Int32).toNatClampNeg)) → eg_W κ gC mtX3_value d (eQL κ gC post) 243 [(0, vR (3, l0)), (1, vI l1), (2, vI l2), (3, vI l3)] [vL x4] M := by
      intro x4 ex4
      have h := h x4 ex4
      exact eg_lreturn dX3_value_243 rfl h
    clear h
    refine eg_icmp_ne (tgt := 240) dX3_value_228 rfl (fun c5 => ?_) (fun c5 => ?_)
    · refine eg_ldc2 dX3_value_240 kc_3_41 ?_
      exact J _ (by rw [if_pos c5])
    · have c6 : ¬ (¬ l2 = (1 : Int32)) := fun z => z c5
      refine eg_aload_n 0 dX3_value_231 rfl rfl ?_
      refine eg_getR dX3_value_232 fl_3_25 rfl rfl (obC_3 hl0) ?_
      show eg_W κ gC mtX3_value d (eQL κ gC post) 235 [(0, vR (3, l0)), (1, vI l1), (2, vI l2), (3, vI l3)] [vR (27, l0)] M
      refine eg_iconst dX3_value_235 ic_0 ?_
      refine eg_laload dX3_value_236 (arC_27 hl0 (g3 (show l2 = (1 : Int32) from by first | exact c6 | exact Classical.not_not.mp c6))) ?_
      refine eg_goto (tgt := 243) dX3_value_237 rfl ?_
      exact J _ (by rw [if_neg c6])
  · have h := h.2 c2
    refine eg_iload_n 3 dX3_value_35 rfl rfl ?_
    refine eg_bipush dX3_value_36 bp_64 ?_
    refine eg_icmp_ge (tgt := 226) dX3_value_38 rfl (fun c7 => ?_) (fun c7 => ?_)
    · have h := h.1 c7
      refine eg_iload_n 2 dX3_value_226 rfl rfl ?_
      refine eg_iconst dX3_value_227 ic_1 ?_
      obtain ⟨g8, h⟩ := h
      have J : ∀ x9 : Int64, x9 = (if (¬ l2 = (1 : Int32)) then (-9223372036854775808 : Int64) else (M.2.1 (27, l0) (0 : Int32).toNatClampNeg)) → eg_W κ gC mtX3_value d (eQL κ gC post) 243 [(0, vR (3, l0)), (1, vI l1), (2, vI l2), (3, vI l3)] [vL x9] M := by
        intro x9 ex9
        have h := h x9 ex9
        exact eg_lreturn dX3_value_243 rfl h
      clear h
      refine eg_icmp_ne (tgt := 240) dX3_value_228 rfl (fun c10 => ?_) (fun c10 => ?_)
      · refine eg_ldc2 dX3_value_240 kc_3_41 ?_
        exact J _ (by rw [if_pos c10])
      · have c11 : ¬ (¬ l2 = (1 : Int32)) := fun z => z c10
        refine eg_aload_n 0 dX3_value_231 rfl rfl ?_
        refine eg_getR dX3_value_232 fl_3_25 rfl rfl (obC_3 hl0) ?_
        show eg_W κ gC mtX3_value d (eQL κ gC post) 235 [(0, vR (3, l0)), (1, vI l1), (2, vI l2), (3, vI l3)] [vR (27, l0)] M
        refine eg_iconst dX3_value_235 ic_0 ?_
        refine eg_laload dX3_value_236 (arC_27 hl0 (g8 (show l2 = (1 : Int32) from by first | exact c11 | exact Classical.not_not.mp c11))) ?_
        refine eg_goto (tgt := 243) dX3_value_237 rfl ?_
        exact J _ (by rw [if_neg c11])
    · have h := h.2 c7
      refine eg_aload_n 0 dX3_value_41 rfl rfl ?_
      refine eg_getR dX3_value_42 fl_3_9 rfl rfl (obC_3 hl0) ?_
      show eg_W κ gC mtX3_value d (eQL κ gC post) 45 [(0, vR (3, l0)), (1, vI l1), (2, vI l2), (3, vI l3)] [vR (23, l0)] M
      refine eg_iload_n 3 dX3_value_45 rfl rfl ?_
      obtain ⟨g12, h⟩ := h
      refine eg_iaload dX3_value_46 (arC_23 hl0 g12) ?_
      refine en_istore (f := fun x13 => [(4, vI x13), (0, vR (3, l0)), (1, vI l1), (2, vI l2), (3, vI l3)]) dX3_value_47 (by decide) rfl (fun x13 ex13 => ?_)
      have h := h x13 ex13
      refine eg_iload 0 dX3_value_49 rfl ?_
      refine eg_sipush dX3_value_51 sp_10000 ?_
      refine eg_isub dX3_value_54 ?_
      refine en_istore (f := fun x14 => [(5, vI x14), (4, vI x13), (0, vR (3, l0)), (1, vI l1), (2, vI l2), (3, vI l3)]) dX3_value_55 (by decide) rfl (fun x14 ex14 => ?_)
      have h := h x14 ex14
      refine eg_iload_n 4 dX3_value_57 rfl rfl ?_
      refine eg_bipush dX3_value_58 bp_64 ?_
      refine eg_icmp_lt (tgt := 67) dX3_value_60 rfl (fun c15 => ?_) (fun c15 => ?_)
      · have h := h.1 c15
        refine eg_iload 1 dX3_value_67 rfl ?_
        refine eg_sipush dX3_value_69 sp_10000 ?_
        refine eg_icmp_ge (tgt := 90) dX3_value_72 rfl (fun c16 => ?_) (fun c16 => ?_)
        · have h := h.1 c16
          refine eg_iload 0 dX3_value_90 rfl ?_
          refine eg_bipush dX3_value_92 bp_16 ?_
          refine eg_icmp_lt (tgt := 126) dX3_value_94 rfl (fun c17 => ?_) (fun c17 => ?_)
          · have h := h.1 c17
            refine eg_sub [2, 3, 4, 5, 0] rfl ?_
            exact h
          · have h := h.2 c17
            refine eg_iload 0 dX3_value_97 rfl ?_
            refine eg_bipush dX3_value_99 bp_23 ?_
            refine eg_icmp_gt (tgt := 126) dX3_value_101 rfl (fun c18 => ?_) (fun c18 => ?_)
            · have h := h.1 c18
              refine eg_sub [2, 3, 4, 5, 0] rfl ?_
              exact h
            · have h := h.2 c18
              refine eg_aload_n 2 dX3_value_104 rfl rfl ?_
              refine eg_getR dX3_value_105 fl_3_25 rfl rfl (obC_3 hl0) ?_
              show eg_W κ gC mtX3_value d (eQL κ gC post) 108 [(5, vI x14), (4, vI x13), (0, vR (3, l0)), (1, vI l1), (2, vI l2), (3, vI l3)] [vR (27, l0)] M
              refine eg_iload_n 4 dX3_value_108 rfl rfl ?_
              refine eg_aload_n 2 dX3_value_109 rfl rfl ?_
              refine eg_getR dX3_value_110 fl_3_21 rfl rfl (obC_3 hl0) ?_
              show eg_W κ gC mtX3_value d (eQL κ gC post) 113 [(5, vI x14), (4, vI x13), (0, vR (3, l0)), (1, vI l1), (2, vI l2), (3, vI l3)] [vR (26, l0), vI l2, vR (27, l0)] M
              refine eg_iload 0 dX3_value_113 rfl ?_
              refine eg_bipush dX3_value_115 bp_16 ?_
              refine eg_isub dX3_value_117 ?_
              obtain ⟨g19, h⟩ := h
              refine eg_laload dX3_value_118 (arC_26 hl0 g19) ?_
              obtain ⟨g20, h⟩ := h
              refine en_lastore dX3_value_119 (arC_27 hl0 g20) (fun M21 eM21 => ?_)
              have h := h M21 eM21
              refine en_iinc (f := fun x22 => [(2, vI x22), (5, vI x14), (4, vI x13), (0, vR (3, l0)), (1, vI l1), (3, vI l3)]) 4 dX3_value_120 rfl rfl (by decide) rfl (fun x22 ex22 => ?_)
              have h := h x22 ex22
              refine eg_goto (tgt := 220) dX3_value_123 rfl ?_
              refine en_iinc (f := fun x23 => [(3, vI x23), (2, vI x22), (5, vI x14), (4, vI x13), (0, vR (3, l0)), (1, vI l1)]) 5 dX3_value_220 rfl rfl (by decide) rfl (fun x23 ex23 => ?_)
              have h := h x23 ex23
              refine eg_goto (tgt := 25) dX3_value_223 rfl ?_
              refine eg_sub [4, 5, 1, 0] rfl ?_
              exact h
        · have h := h.2 c16
          refine eg_aload_n 2 dX3_value_75 rfl rfl ?_
          refine eg_getR dX3_value_76 fl_3_25 rfl rfl (obC_3 hl0) ?_
          show eg_W κ gC mtX3_value d (eQL κ gC post) 79 [(5, vI x14), (4, vI x13), (0, vR (3, l0)), (1, vI l1), (2, vI l2), (3, vI l3)] [vR (27, l0)] M
          refine eg_iload_n 4 dX3_value_79 rfl rfl ?_
          refine eg_iload 1 dX3_value_80 rfl ?_
          refine eg_i2l dX3_value_82 ?_
          obtain ⟨g24, h⟩ := h
          refine en_lastore dX3_value_83 (arC_27 hl0 g24) (fun M25 eM25 => ?_)
          have h := h M25 eM25
          refine en_iinc (f := fun x26 => [(2, vI x26), (5, vI x14), (4, vI x13), (0, vR (3, l0)), (1, vI l1), (3, vI l3)]) 4 dX3_value_84 rfl rfl (by decide) rfl (fun x26 ex26 => ?_)
          have h := h x26 ex26
          refine eg_goto (tgt := 220) dX3_value_87 rfl ?_
          refine en_iinc (f := fun x27 => [(3, vI x27), (2, vI x26), (5, vI x14), (4, vI x13), (0, vR (3, l0)), (1, vI l1)]) 5 dX3_value_220 rfl rfl (by decide) rfl (fun x27 ex27 => ?_)
          have h := h x27 ex27
          refine eg_goto (tgt := 25) dX3_value_223 rfl ?_
          refine eg_sub [4, 5, 1, 0] rfl ?_
          exact h
      · have h := h.2 c15
        refine eg_ldc2 dX3_value_63 kc_3_41 ?_
        exact eg_lreturn dX3_value_66 rfl h
set_option maxRecDepth 10000 in
theorem vX3_value_126 {κ : eg_K} {d : Nat} {post : Int64 → eg_H → Prop} (M : eg_H) {l0 : Nat} (hl0 : l0 < 2) (l1 : Int32) (l2 : Int32) (l3 : Int32) (l5 : Int32) (h : ((¬ l5 = (15 : Int32)) → eg_W κ gC mtX3_value d (eQL κ gC post) 166 [(0, vR (3, l0)), (1, vI l1), (2, vI l2), (3, vI l3), (5, vI l5)] [] M) ∧ (l5 = (15 : Int32) → (l2 ≤ 0 → eg_W κ gC mtX3_value d (eQL κ gC post) 166 [(0, vR (3, l0)), (1, vI l1), (2, vI l2), (3, vI l3), (5, vI l5)] [] M) ∧ ((¬ l2 ≤ 0) → (vp_in (l2 - (1 : Int32)) 64 ∧ (∀ x4 : Int64, x4 = ((if (¬ (lg_cmp (M.2.1 (27, l0) (l2 - (1 : Int32)).toNatClampNeg) (0 : Int64)) = 0) then (0 : Int64) else (1 : Int64))) → (∀ M5 : eg_H, M5 = (sL M (27, l0) (l2 - (1 : Int32)).toNatClampNeg x4) → (∀ x6 : Int32, x6 = (l3 + (1 : Int32)) → eg_W κ gC mtX3_value d (eQL κ gC post) 25 [(0, vR (3, l0)), (1, vI l1), (2, vI l2), (3, vI x6)] [] M5))))))) : eg_W κ gC mtX3_value d (eQL κ gC post) 126 [(0, vR (3, l0)), (1, vI l1), (2, vI l2), (3, vI l3), (5, vI l5)] [] M := by
  refine eg_iload 4 dX3_value_126 rfl ?_
  refine eg_bipush dX3_value_128 bp_15 ?_
  refine eg_icmp_ne (tgt := 166) dX3_value_130 rfl (fun c1 => ?_) (fun c1 => ?_)
  · have h := h.1 c1
    exact h
  · have h := h.2 c1
    refine eg_iload_n 2 dX3_value_133 rfl rfl ?_
    refine eg_if_le (tgt := 166) dX3_value_134 rfl (fun c2 => ?_) (fun c2 => ?_)
    · have h := h.1 c2
      exact h
    · have h := h.2 c2
      refine eg_aload_n 0 dX3_value_137 rfl rfl ?_
      refine eg_getR dX3_value_138 fl_3_25 rfl rfl (obC_3 hl0) ?_
      show eg_W κ gC mtX3_value d (eQL κ gC post) 141 [(0, vR (3, l0)), (1, vI l1), (2, vI l2), (3, vI l3), (5, vI l5)] [vR (27, l0)] M
      refine eg_iload_n 2 dX3_value_141 rfl rfl ?_
      refine eg_iconst dX3_value_142 ic_1 ?_
      refine eg_isub dX3_value_143 ?_
      refine eg_aload_n 0 dX3_value_144 rfl rfl ?_
      refine eg_getR dX3_value_145 fl_3_25 rfl rfl (obC_3 hl0) ?_
      show eg_W κ gC mtX3_value d (eQL κ gC post) 148 [(0, vR (3, l0)), (1, vI l1), (2, vI l2), (3, vI l3), (5, vI l5)] [vR (27, l0), vI (l2 - (1 : Int32)), vR (27, l0)] M
      refine eg_iload_n 2 dX3_value_148 rfl rfl ?_
      refine eg_iconst dX3_value_149 ic_1 ?_
      refine eg_isub dX3_value_150 ?_
      obtain ⟨g3, h⟩ := h
      refine eg_laload dX3_value_151 (arC_27 hl0 g3) ?_
      refine eg_lconst dX3_value_152 lc_0 ?_
      refine eg_lcmp dX3_value_153 ?_
      have J : ∀ x4 : Int64, x4 = (if (¬ (lg_cmp (M.2.1 (27, l0) (l2 - (1 : Int32)).toNatClampNeg) (0 : Int64)) = 0) then (0 : Int64) else (1 : Int64)) → eg_W κ gC mtX3_value d (eQL κ gC post) 162 [(0, vR (3, l0)), (1, vI l1), (2, vI l2), (3, vI l3), (5, vI l5)] [vL x4, vI (l2 - (1 : Int32)), vR (27, l0)] M := by
        intro x4 ex4
        have h := h x4 ex4
        refine en_lastore dX3_value_162 (arC_27 hl0 g3) (fun M5 eM5 => ?_)
        have h := h M5 eM5
        refine eg_goto (tgt := 220) dX3_value_163 rfl ?_
        refine en_iinc (f := fun x6 => [(3, vI x6), (0, vR (3, l0)), (1, vI l1), (2, vI l2), (5, vI l5)]) 3 dX3_value_220 rfl rfl (by decide) rfl (fun x6 ex6 => ?_)
        have h := h x6 ex6
        refine eg_goto (tgt := 25) dX3_value_223 rfl ?_
        refine eg_sub [1, 2, 3, 0] rfl ?_
        exact h
      clear h
      refine eg_if_ne (tgt := 161) dX3_value_154 rfl (fun c7 => ?_) (fun c7 => ?_)
      · refine eg_lconst dX3_value_161 lc_0 ?_
        exact J _ (by rw [if_pos c7])
      · have c8 : ¬ (¬ (lg_cmp (M.2.1 (27, l0) (l2 - (1 : Int32)).toNatClampNeg) (0 : Int64)) = 0) := fun z => z c7
        refine eg_lconst dX3_value_157 lc_1 ?_
        refine eg_goto (tgt := 162) dX3_value_158 rfl ?_
        exact J _ (by rw [if_neg c8])
set_option maxRecDepth 10000 in
theorem vX3_value_166 {κ : eg_K} {d : Nat} (hd : 1 ≤ d) {post : Int64 → eg_H → Prop} (M : eg_H) {l0 : Nat} (hl0 : l0 < 2) (l1 : Int32) (l2 : Int32) (l3 : Int32) (l5 : Int32) (h : (l2 ≤ (1 : Int32) → (∀ x2 : Int32, x2 = (l3 + (1 : Int32)) → eg_W κ gC mtX3_value d (eQL κ gC post) 25 [(0, vR (3, l0)), (1, vI l1), (2, vI l2), (3, vI x2)] [] M)) ∧ ((¬ l2 ≤ (1 : Int32)) → (∀ x3 : Int32, x3 = (l2 + (-1 : Int32)) → (vp_in (x3 - (1 : Int32)) 64 ∧ (vp_in x3 64 ∧ eCL κ gC mtX3_combined d [vI l5, vL (M.2.1 (27, l0) (x3 - (1 : Int32)).toNatClampNeg), vL (M.2.1 (27, l0) x3.toNatClampNeg)] M (fun x6 M7 => (∀ M9 : eg_H, M9 = (sL M7 (27, l0) (x3 - (1 : Int32)).toNatClampNeg x6) → ((¬ (lg_cmp (M9.2.1 (27, l0) (x3 - (1 : Int32)).toNatClampNeg) (-9223372036854775808 : Int64)) = 0) → (∀ x11 : Int32, x11 = (l3 + (1 : Int32)) → eg_W κ gC mtX3_value d (eQL κ gC post) 25 [(0, vR (3, l0)), (1, vI l1), (2, vI x3), (3, vI x11)] [] M9)) ∧ ((lg_cmp (M9.2.1 (27, l0) (x3 - (1 : Int32)).toNatClampNeg) (-9223372036854775808 : Int64)) = 0 → post (-9223372036854775808 : Int64) M9)))))))) : eg_W κ gC mtX3_value d (eQL κ gC post) 166 [(0, vR (3, l0)), (1, vI l1), (2, vI l2), (3, vI l3), (5, vI l5)] [] M := by
  refine eg_iload_n 2 dX3_value_166 rfl rfl ?_
  refine eg_iconst dX3_value_167 ic_1 ?_
  refine eg_icmp_le (tgt := 220) dX3_value_168 rfl (fun c1 => ?_) (fun c1 => ?_)
  · have h := h.1 c1
    refine en_iinc (f := fun x2 => [(3, vI x2), (0, vR (3, l0)), (1, vI l1), (2, vI l2), (5, vI l5)]) 3 dX3_value_220 rfl rfl (by decide) rfl (fun x2 ex2 => ?_)
    have h := h x2 ex2
    refine eg_goto (tgt := 25) dX3_value_223 rfl ?_
    refine eg_sub [1, 2, 3, 0] rfl ?_
    exact h
  · have h := h.2 c1
    refine en_iinc (f := fun x3 => [(2, vI x3), (0, vR (3, l0)), (1, vI l1), (3, vI l3), (5, vI l5)]) 2 dX3_value_171 rfl rfl (by decide) rfl (fun x3 ex3 => ?_)
    have h := h x3 ex3
    refine eg_aload_n 1 dX3_value_174 rfl rfl ?_
    refine eg_getR dX3_value_175 fl_3_25 rfl rfl (obC_3 hl0) ?_
    show eg_W κ gC mtX3_value d (eQL κ gC post) 178 [(2, vI x3), (0, vR (3, l0)), (1, vI l1), (3, vI l3), (5, vI l5)] [vR (27, l0)] M
    refine eg_iload_n 0 dX3_value_178 rfl rfl ?_
    refine eg_iconst dX3_value_179 ic_1 ?_
    refine eg_isub dX3_value_180 ?_
    refine eg_iload 4 dX3_value_181 rfl ?_
    refine eg_aload_n 1 dX3_value_183 rfl rfl ?_
    refine eg_getR dX3_value_184 fl_3_25 rfl rfl (obC_3 hl0) ?_
    show eg_W κ gC mtX3_value d (eQL κ gC post) 187 [(2, vI x3), (0, vR (3, l0)), (1, vI l1), (3, vI l3), (5, vI l5)] [vR (27, l0), vI l5, vI (x3 - (1 : Int32)), vR (27, l0)] M
    refine eg_iload_n 0 dX3_value_187 rfl rfl ?_
    refine eg_iconst dX3_value_188 ic_1 ?_
    refine eg_isub dX3_value_189 ?_
    obtain ⟨g4, h⟩ := h
    refine eg_laload dX3_value_190 (arC_27 hl0 g4) ?_
    refine eg_aload_n 1 dX3_value_191 rfl rfl ?_
    refine eg_getR dX3_value_192 fl_3_25 rfl rfl (obC_3 hl0) ?_
    show eg_W κ gC mtX3_value d (eQL κ gC post) 195 [(2, vI x3), (0, vR (3, l0)), (1, vI l1), (3, vI l3), (5, vI l5)] [vR (27, l0), vL (M.2.1 (27, l0) (x3 - (1 : Int32)).toNatClampNeg), vI l5, vI (x3 - (1 : Int32)), vR (27, l0)] M
    refine eg_iload_n 0 dX3_value_195 rfl rfl ?_
    obtain ⟨g5, h⟩ := h
    refine eg_laload dX3_value_196 (arC_27 hl0 g5) ?_
    obtain ⟨q8, hq8, h⟩ := h
    refine eg_callSL (av := [vI l5, vL (M.2.1 (27, l0) (x3 - (1 : Int32)).toNatClampNeg), vL (M.2.1 (27, l0) x3.toNatClampNeg)]) (st := [vI (x3 - (1 : Int32)), vR (27, l0)]) dX3_value_197 ml_3_43 rfl rfl (Nat.le_of_ble_eq_true rfl) (eg_dd (by omega)) hq8 (fun x6 M7 hp => ?_)
    have h := h x6 M7 hp
    refine en_lastore dX3_value_200 (arC_27 hl0 g4) (fun M9 eM9 => ?_)
    have h := h M9 eM9
    refine eg_aload_n 1 dX3_value_201 rfl rfl ?_
    refine eg_getR dX3_value_202 fl_3_25 rfl rfl (obC_3 hl0) ?_
    show eg_W κ gC mtX3_value d (eQL κ gC post) 205 [(2, vI x3), (0, vR (3, l0)), (1, vI l1), (3, vI l3), (5, vI l5)] [vR (27, l0)] M9
    refine eg_iload_n 0 dX3_value_205 rfl rfl ?_
    refine eg_iconst dX3_value_206 ic_1 ?_
    refine eg_isub dX3_value_207 ?_
    refine eg_laload dX3_value_208 (arC_27 hl0 g4) ?_
    refine eg_ldc2 dX3_value_209 kc_3_41 ?_
    refine eg_lcmp dX3_value_212 ?_
    refine eg_if_ne (tgt := 220) dX3_value_213 rfl (fun c10 => ?_) (fun c10 => ?_)
    · have h := h.1 c10
      refine en_iinc (f := fun x11 => [(3, vI x11), (2, vI x3), (0, vR (3, l0)), (1, vI l1), (5, vI l5)]) 3 dX3_value_220 rfl rfl (by decide) rfl (fun x11 ex11 => ?_)
      have h := h x11 ex11
      refine eg_goto (tgt := 25) dX3_value_223 rfl ?_
      refine eg_sub [2, 3, 1, 0] rfl ?_
      exact h
    · have h := h.2 c10
      refine eg_ldc2 dX3_value_216 kc_3_41 ?_
      exact eg_lreturn dX3_value_219 rfl h
theorem dX7_begin_0 : decode cX7_begin 0 = .ok (.aload_n 0, 1) := by decide +kernel
theorem dX7_begin_1 : decode cX7_begin 1 = .ok (.aload_n 1, 1) := by decide +kernel
theorem dX7_begin_2 : decode cX7_begin 2 = .ok (.putfield 30, 3) := by decide +kernel
theorem dX7_begin_5 : decode cX7_begin 5 = .ok (.aload_n 0, 1) := by decide +kernel
theorem dX7_begin_6 : decode cX7_begin 6 = .ok (.iconst 0, 1) := by decide +kernel
theorem dX7_begin_7 : decode cX7_begin 7 = .ok (.putfield 36, 3) := by decide +kernel
theorem dX7_begin_10 : decode cX7_begin 10 = .ok (.aload_n 0, 1) := by decide +kernel
theorem dX7_begin_11 : decode cX7_begin 11 = .ok (.iconst 0, 1) := by decide +kernel
theorem dX7_begin_12 : decode cX7_begin 12 = .ok (.putfield 40, 3) := by decide +kernel
theorem dX7_begin_15 : decode cX7_begin 15 = .ok (.aload_n 2, 1) := by decide +kernel
theorem dX7_begin_16 : decode cX7_begin 16 = .ok (.iconst 0, 1) := by decide +kernel
theorem dX7_begin_17 : decode cX7_begin 17 = .ok (.aload_n 0, 1) := by decide +kernel
theorem dX7_begin_18 : decode cX7_begin 18 = .ok (.getfield 9, 3) := by decide +kernel
theorem dX7_begin_21 : decode cX7_begin 21 = .ok (.iconst 0, 1) := by decide +kernel
theorem dX7_begin_22 : decode cX7_begin 22 = .ok (.iconst 5, 1) := by decide +kernel
theorem dX7_begin_23 : decode cX7_begin 23 = .ok (.invokestatic 43, 3) := by decide +kernel
theorem dX7_begin_26 : decode cX7_begin 26 = .ok (.iconst 0, 1) := by decide +kernel
theorem dX7_begin_27 : decode cX7_begin 27 = .ok (.istore_n 3, 1) := by decide +kernel
theorem dX7_begin_28 : decode cX7_begin 28 = .ok (.iload_n 3, 1) := by decide +kernel
theorem dX7_begin_29 : decode cX7_begin 29 = .ok (.aload_n 0, 1) := by decide +kernel
theorem dX7_begin_30 : decode cX7_begin 30 = .ok (.getfield 30, 3) := by decide +kernel
theorem dX7_begin_33 : decode cX7_begin 33 = .ok (.getfield 49, 3) := by decide +kernel
theorem dX7_begin_36 : decode cX7_begin 36 = .ok (.if_icmp .ge 27, 3) := by decide +kernel
theorem dX7_begin_39 : decode cX7_begin 39 = .ok (.aload_n 0, 1) := by decide +kernel
theorem dX7_begin_40 : decode cX7_begin 40 = .ok (.getfield 17, 3) := by decide +kernel
theorem dX7_begin_43 : decode cX7_begin 43 = .ok (.iload_n 3, 1) := by decide +kernel
theorem dX7_begin_44 : decode cX7_begin 44 = .ok (.aaload, 1) := by decide +kernel
theorem dX7_begin_45 : decode cX7_begin 45 = .ok (.aload_n 0, 1) := by decide +kernel
theorem dX7_begin_46 : decode cX7_begin 46 = .ok (.getfield 30, 3) := by decide +kernel
theorem dX7_begin_49 : decode cX7_begin 49 = .ok (.getfield 54, 3) := by decide +kernel
theorem dX7_begin_52 : decode cX7_begin 52 = .ok (.iload_n 3, 1) := by decide +kernel
theorem dX7_begin_53 : decode cX7_begin 53 = .ok (.aaload, 1) := by decide +kernel
theorem dX7_begin_54 : decode cX7_begin 54 = .ok (.invokevirtual 58, 3) := by decide +kernel
theorem dX7_begin_57 : decode cX7_begin 57 = .ok (.iinc 3 1, 3) := by decide +kernel
theorem dX7_begin_60 : decode cX7_begin 60 = .ok (.goto (-32), 3) := by decide +kernel
theorem dX7_begin_63 : decode cX7_begin 63 = .ok (.iconst 0, 1) := by decide +kernel
theorem dX7_begin_64 : decode cX7_begin 64 = .ok (.istore_n 3, 1) := by decide +kernel
theorem dX7_begin_65 : decode cX7_begin 65 = .ok (.iload_n 3, 1) := by decide +kernel
theorem dX7_begin_66 : decode cX7_begin 66 = .ok (.aload_n 0, 1) := by decide +kernel
theorem dX7_begin_67 : decode cX7_begin 67 = .ok (.getfield 30, 3) := by decide +kernel
theorem dX7_begin_70 : decode cX7_begin 70 = .ok (.getfield 62, 3) := by decide +kernel
theorem dX7_begin_73 : decode cX7_begin 73 = .ok (.if_icmp .ge 27, 3) := by decide +kernel
theorem dX7_begin_76 : decode cX7_begin 76 = .ok (.aload_n 0, 1) := by decide +kernel
theorem dX7_begin_77 : decode cX7_begin 77 = .ok (.getfield 23, 3) := by decide +kernel
theorem dX7_begin_80 : decode cX7_begin 80 = .ok (.iload_n 3, 1) := by decide +kernel
theorem dX7_begin_81 : decode cX7_begin 81 = .ok (.aaload, 1) := by decide +kernel
theorem dX7_begin_82 : decode cX7_begin 82 = .ok (.aload_n 0, 1) := by decide +kernel
theorem dX7_begin_83 : decode cX7_begin 83 = .ok (.getfield 30, 3) := by decide +kernel
theorem dX7_begin_86 : decode cX7_begin 86 = .ok (.getfield 64, 3) := by decide +kernel
theorem dX7_begin_89 : decode cX7_begin 89 = .ok (.iload_n 3, 1) := by decide +kernel
theorem dX7_begin_90 : decode cX7_begin 90 = .ok (.aaload, 1) := by decide +kernel
theorem dX7_begin_91 : decode cX7_begin 91 = .ok (.invokevirtual 68, 3) := by decide +kernel
theorem dX7_begin_94 : decode cX7_begin 94 = .ok (.iinc 3 1, 3) := by decide +kernel
theorem dX7_begin_97 : decode cX7_begin 97 = .ok (.goto (-32), 3) := by decide +kernel
theorem dX7_begin_100 : decode cX7_begin 100 = .ok (.return_, 1) := by decide +kernel
set_option maxRecDepth 10000 in
theorem vX7_begin_0 {κ : eg_K} {d : Nat} (hd : 1 ≤ d) {post : eg_H → Prop} (M : eg_H) {l0 : Nat} (hl0 : l0 < 4) {l1 : Nat} (hl1 : l1 < 2) {l2 : eg_R} {nl2 : Nat} (hl2 : l2 ∈ gC.1 ∧ gC.2.1 l2 = (1, nl2)) (h : (∀ M1 : eg_H, M1 = (sR M (7, l0) 0 (5, l1)) → (∀ M2 : eg_H, M2 = (sI M1 (7, l0) 1 (0 : Int32)) → (∀ M3 : eg_H, M3 = (sI M2 (7, l0) 6 (0 : Int32)) → ((¬ (0 : Int32) < 0 ∧ ¬ (0 : Int32) < 0 ∧ ¬ (5 : Int32) < 0 ∧ (0 : Int32).toNatClampNeg + (5 : Int32).toNatClampNeg ≤ nl2 ∧ (0 : Int32).toNatClampNeg + (5 : Int32).toNatClampNeg ≤ 5) ∧ (∀ M5 : eg_H, M5 = (sC M3 l2 (40, l0) (0 : Int32).toNatClampNeg (0 : Int32).toNatClampNeg (5 : Int32).toNatClampNeg) → eg_W κ gC mtX7_begin d (eQV κ gC post) 28 [(0, vR (7, l0)), (3, vI (0 : Int32))] [] M5)))))) : eg_W κ gC mtX7_begin d (eQV κ gC post) 0 [(0, vR (7, l0)), (1, vR (5, l1)), (2, vR l2)] [] M := by
  refine eg_aload_n 0 dX7_begin_0 rfl rfl ?_
  refine eg_aload_n 1 dX7_begin_1 rfl rfl ?_
  refine en_putD dX7_begin_2 fl_7_30 rfl rfl rfl (obC_7 hl0) (fun M1 eM1 => ?_)
  have h := h M1 eM1
  refine eg_aload_n 0 dX7_begin_5 rfl rfl ?_
  refine eg_iconst dX7_begin_6 ic_0 ?_
  refine en_putI dX7_begin_7 fl_7_36 rfl rfl (obC_7 hl0) (fun M2 eM2 => ?_)
  have h := h M2 eM2
  refine eg_aload_n 0 dX7_begin_10 rfl rfl ?_
  refine eg_iconst dX7_begin_11 ic_0 ?_
  refine en_putI dX7_begin_12 fl_7_40 rfl rfl (obC_7 hl0) (fun M3 eM3 => ?_)
  have h := h M3 eM3
  refine eg_aload_n 2 dX7_begin_15 rfl rfl ?_
  refine eg_iconst dX7_begin_16 ic_0 ?_
  refine eg_aload_n 0 dX7_begin_17 rfl rfl ?_
  refine eg_getR dX7_begin_18 fl_7_9 rfl rfl (obC_7 hl0) ?_
  show eg_W κ gC mtX7_begin d (eQV κ gC post) 21 [(0, vR (7, l0)), (1, vR (5, l1)), (2, vR l2)] [vR (40, l0), vI (0 : Int32), vR l2] M3
  refine eg_iconst dX7_begin_21 ic_0 ?_
  refine eg_iconst dX7_begin_22 ic_5 ?_
  obtain ⟨g4, h⟩ := h
  refine en_copy dX7_begin_23 ml_7_43 hl2 (anC_40 hl0) g4 (Nat.le_of_ble_eq_true rfl) (by omega) (fun M5 eM5 => ?_)
  have h := h M5 eM5
  refine eg_iconst dX7_begin_26 ic_0 ?_
  refine eg_istore_n dX7_begin_27 rfl (by decide) (ls1 := [(3, vI (0 : Int32)), (0, vR (7, l0)), (1, vR (5, l1)), (2, vR l2)]) rfl ?_
  refine eg_sub [1, 0] rfl ?_
  exact h
set_option maxRecDepth 10000 in
theorem vX7_begin_28 {κ : eg_K} {d : Nat} (hd : 1 ≤ d) {post : eg_H → Prop} (M : eg_H) {l0 : Nat} (hl0 : l0 < 4) (l3 : Int32) (h : (∃ p1 : Nat, p1 < 2 ∧ M.2.2 (7, l0) 0 = (5, p1) ∧ ((M.1 (5, p1) 0) ≤ l3 → eg_W κ gC mtX7_begin d (eQV κ gC post) 65 [(0, vR (7, l0)), (3, vI (0 : Int32))] [] M) ∧ ((¬ (M.1 (5, p1) 0) ≤ l3) → (vp_in l3 5 ∧ (∀ M4 : eg_H, M4 = (fX4_begin M (5 * l0 + l3.toNatClampNeg) (5 * p1 + l3.toNatClampNeg)) → (∀ x6 : Int32, x6 = (l3 + (1 : Int32)) → eg_W κ gC mtX7_begin d (eQV κ gC post) 28 [(0, vR (7, l0)), (3, vI x6)] [] M4)))))) : eg_W κ gC mtX7_begin d (eQV κ gC post) 28 [(0, vR (7, l0)), (3, vI l3)] [] M := by
  refine eg_iload_n 1 dX7_begin_28 rfl rfl ?_
  refine eg_aload_n 0 dX7_begin_29 rfl rfl ?_
  refine eg_getD dX7_begin_30 fl_7_30 rfl rfl (obC_7 hl0) ?_
  obtain ⟨p1, hp1, ep1, h⟩ := h
  rw [ep1]
  refine eg_getI dX7_begin_33 fl_7_49 rfl trivial (obC_5 hp1) ?_
  refine eg_icmp_ge (tgt := 63) dX7_begin_36 rfl (fun c2 => ?_) (fun c2 => ?_)
  · have h := h.1 c2
    refine eg_iconst dX7_begin_63 ic_0 ?_
    refine eg_istore_n dX7_begin_64 rfl (by decide) (ls1 := [(3, vI (0 : Int32)), (0, vR (7, l0))]) rfl ?_
    refine eg_sub [1, 0] rfl ?_
    exact h
  · have h := h.2 c2
    refine eg_aload_n 0 dX7_begin_39 rfl rfl ?_
    refine eg_getR dX7_begin_40 fl_7_17 rfl rfl (obC_7 hl0) ?_
    show eg_W κ gC mtX7_begin d (eQV κ gC post) 43 [(0, vR (7, l0)), (3, vI l3)] [vR (41, l0)] M
    refine eg_iload_n 1 dX7_begin_43 rfl rfl ?_
    obtain ⟨g3, h⟩ := h
    refine eg_aaload6 dX7_begin_44 (arC_41 hl0 g3) ?_
    show eg_W κ gC mtX7_begin d (eQV κ gC post) 45 [(0, vR (7, l0)), (3, vI l3)] [vR (4, 5 * l0 + l3.toNatClampNeg)] M
    refine eg_aload_n 0 dX7_begin_45 rfl rfl ?_
    refine eg_getD dX7_begin_46 fl_7_30 rfl rfl (obC_7 hl0) ?_
    rw [ep1]
    refine eg_getR dX7_begin_49 fl_7_54 rfl rfl (obC_5 hp1) ?_
    show eg_W κ gC mtX7_begin d (eQV κ gC post) 52 [(0, vR (7, l0)), (3, vI l3)] [vR (30, p1), vR (4, 5 * l0 + l3.toNatClampNeg)] M
    refine eg_iload_n 1 dX7_begin_52 rfl rfl ?_
    refine eg_aaload4 dX7_begin_53 (arC_30 hp1 g3) ?_
    show eg_W κ gC mtX7_begin d (eQV κ gC post) 54 [(0, vR (7, l0)), (3, vI l3)] [vR (1, 5 * p1 + l3.toNatClampNeg), vR (4, 5 * l0 + l3.toNatClampNeg)] M
    refine eg_callVV (av := [vR (1, 5 * p1 + l3.toNatClampNeg)]) (st := []) dX7_begin_54 ml_7_58 rfl rfl (obC_4 (ixT5 hl0 g3)) (by decide) rfl (Nat.le_of_ble_eq_true rfl) (eg_dd (by omega)) (sX4_begin (by omega) M (5 * l0 + l3.toNatClampNeg) (5 * p1 + l3.toNatClampNeg) (ixT5 hl0 g3) (ixP5 hp1 g3) ) (fun M4 eM4 => ?_)
    have h := h M4 eM4
    refine en_iinc (f := fun x6 => [(3, vI x6), (0, vR (7, l0))]) 1 dX7_begin_57 rfl rfl (by decide) rfl (fun x6 ex6 => ?_)
    have h := h x6 ex6
    refine eg_goto (tgt := 28) dX7_begin_60 rfl ?_
    refine eg_sub [1, 0] rfl ?_
    exact h
set_option maxRecDepth 10000 in
theorem vX7_begin_65 {κ : eg_K} {d : Nat} (hd : 2 ≤ d) {post : eg_H → Prop} (M : eg_H) {l0 : Nat} (hl0 : l0 < 4) (l3 : Int32) (h : (∃ p1 : Nat, p1 < 2 ∧ M.2.2 (7, l0) 0 = (5, p1) ∧ ((M.1 (5, p1) 2) ≤ l3 → post M) ∧ ((¬ (M.1 (5, p1) 2) ≤ l3) → (vp_in l3 15 ∧ (∀ M4 : eg_H, M4 = (fX2_begin M (15 * l0 + l3.toNatClampNeg) (15 * p1 + l3.toNatClampNeg)) → (∀ x6 : Int32, x6 = (l3 + (1 : Int32)) → eg_W κ gC mtX7_begin d (eQV κ gC post) 65 [(0, vR (7, l0)), (3, vI x6)] [] M4)))))) : eg_W κ gC mtX7_begin d (eQV κ gC post) 65 [(0, vR (7, l0)), (3, vI l3)] [] M := by
  refine eg_iload_n 1 dX7_begin_65 rfl rfl ?_
  refine eg_aload_n 0 dX7_begin_66 rfl rfl ?_
  refine eg_getD dX7_begin_67 fl_7_30 rfl rfl (obC_7 hl0) ?_
  obtain ⟨p1, hp1, ep1, h⟩ := h
  rw [ep1]
  refine eg_getI dX7_begin_70 fl_7_62 rfl trivial (obC_5 hp1) ?_
  refine eg_icmp_ge (tgt := 100) dX7_begin_73 rfl (fun c2 => ?_) (fun c2 => ?_)
  · have h := h.1 c2
    exact eg_vreturn dX7_begin_100 rfl h
  · have h := h.2 c2
    refine eg_aload_n 0 dX7_begin_76 rfl rfl ?_
    refine eg_getR dX7_begin_77 fl_7_23 rfl rfl (obC_7 hl0) ?_
    show eg_W κ gC mtX7_begin d (eQV κ gC post) 80 [(0, vR (7, l0)), (3, vI l3)] [vR (42, l0)] M
    refine eg_iload_n 1 dX7_begin_80 rfl rfl ?_
    obtain ⟨g3, h⟩ := h
    refine eg_aaload7 dX7_begin_81 (arC_42 hl0 g3) ?_
    show eg_W κ gC mtX7_begin d (eQV κ gC post) 82 [(0, vR (7, l0)), (3, vI l3)] [vR (2, 15 * l0 + l3.toNatClampNeg)] M
    refine eg_aload_n 0 dX7_begin_82 rfl rfl ?_
    refine eg_getD dX7_begin_83 fl_7_30 rfl rfl (obC_7 hl0) ?_
    rw [ep1]
    refine eg_getR dX7_begin_86 fl_7_64 rfl rfl (obC_5 hp1) ?_
    show eg_W κ gC mtX7_begin d (eQV κ gC post) 89 [(0, vR (7, l0)), (3, vI l3)] [vR (31, p1), vR (2, 15 * l0 + l3.toNatClampNeg)] M
    refine eg_iload_n 1 dX7_begin_89 rfl rfl ?_
    refine eg_aaload5 dX7_begin_90 (arC_31 hp1 g3) ?_
    show eg_W κ gC mtX7_begin d (eQV κ gC post) 91 [(0, vR (7, l0)), (3, vI l3)] [vR (0, 15 * p1 + l3.toNatClampNeg), vR (2, 15 * l0 + l3.toNatClampNeg)] M
    refine eg_callVV (av := [vR (0, 15 * p1 + l3.toNatClampNeg)]) (st := []) dX7_begin_91 ml_7_68 rfl rfl (obC_2 (ixT15 hl0 g3)) (by decide) rfl (Nat.le_of_ble_eq_true rfl) (eg_dd (by omega)) (sX2_begin (by omega) M (15 * l0 + l3.toNatClampNeg) (15 * p1 + l3.toNatClampNeg) (ixT15 hl0 g3) (ixP15 hp1 g3) ) (fun M4 eM4 => ?_)
    have h := h M4 eM4
    refine en_iinc (f := fun x6 => [(3, vI x6), (0, vR (7, l0))]) 1 dX7_begin_94 rfl rfl (by decide) rfl (fun x6 ex6 => ?_)
    have h := h x6 ex6
    refine eg_goto (tgt := 65) dX7_begin_97 rfl ?_
    refine eg_sub [1, 0] rfl ?_
    exact h
theorem dX7_copyFrom_0 : decode cX7_copyFrom 0 = .ok (.aload_n 0, 1) := by decide +kernel
theorem dX7_copyFrom_1 : decode cX7_copyFrom 1 = .ok (.aload_n 1, 1) := by decide +kernel
theorem dX7_copyFrom_2 : decode cX7_copyFrom 2 = .ok (.getfield 30, 3) := by decide +kernel
theorem dX7_copyFrom_5 : decode cX7_copyFrom 5 = .ok (.putfield 30, 3) := by decide +kernel
theorem dX7_copyFrom_8 : decode cX7_copyFrom 8 = .ok (.aload_n 0, 1) := by decide +kernel
theorem dX7_copyFrom_9 : decode cX7_copyFrom 9 = .ok (.aload_n 1, 1) := by decide +kernel
theorem dX7_copyFrom_10 : decode cX7_copyFrom 10 = .ok (.getfield 36, 3) := by decide +kernel
theorem dX7_copyFrom_13 : decode cX7_copyFrom 13 = .ok (.putfield 36, 3) := by decide +kernel
theorem dX7_copyFrom_16 : decode cX7_copyFrom 16 = .ok (.aload_n 0, 1) := by decide +kernel
theorem dX7_copyFrom_17 : decode cX7_copyFrom 17 = .ok (.aload_n 1, 1) := by decide +kernel
theorem dX7_copyFrom_18 : decode cX7_copyFrom 18 = .ok (.getfield 40, 3) := by decide +kernel
theorem dX7_copyFrom_21 : decode cX7_copyFrom 21 = .ok (.putfield 40, 3) := by decide +kernel
theorem dX7_copyFrom_24 : decode cX7_copyFrom 24 = .ok (.aload_n 1, 1) := by decide +kernel
theorem dX7_copyFrom_25 : decode cX7_copyFrom 25 = .ok (.getfield 9, 3) := by decide +kernel
theorem dX7_copyFrom_28 : decode cX7_copyFrom 28 = .ok (.iconst 0, 1) := by decide +kernel
theorem dX7_copyFrom_29 : decode cX7_copyFrom 29 = .ok (.aload_n 0, 1) := by decide +kernel
theorem dX7_copyFrom_30 : decode cX7_copyFrom 30 = .ok (.getfield 9, 3) := by decide +kernel
theorem dX7_copyFrom_33 : decode cX7_copyFrom 33 = .ok (.iconst 0, 1) := by decide +kernel
theorem dX7_copyFrom_34 : decode cX7_copyFrom 34 = .ok (.iconst 5, 1) := by decide +kernel
theorem dX7_copyFrom_35 : decode cX7_copyFrom 35 = .ok (.invokestatic 43, 3) := by decide +kernel
theorem dX7_copyFrom_38 : decode cX7_copyFrom 38 = .ok (.aload_n 1, 1) := by decide +kernel
theorem dX7_copyFrom_39 : decode cX7_copyFrom 39 = .ok (.getfield 27, 3) := by decide +kernel
theorem dX7_copyFrom_42 : decode cX7_copyFrom 42 = .ok (.iconst 0, 1) := by decide +kernel
theorem dX7_copyFrom_43 : decode cX7_copyFrom 43 = .ok (.aload_n 0, 1) := by decide +kernel
theorem dX7_copyFrom_44 : decode cX7_copyFrom 44 = .ok (.getfield 27, 3) := by decide +kernel
theorem dX7_copyFrom_47 : decode cX7_copyFrom 47 = .ok (.iconst 0, 1) := by decide +kernel
theorem dX7_copyFrom_48 : decode cX7_copyFrom 48 = .ok (.bipush 15, 2) := by decide +kernel
theorem dX7_copyFrom_50 : decode cX7_copyFrom 50 = .ok (.invokestatic 43, 3) := by decide +kernel
theorem dX7_copyFrom_53 : decode cX7_copyFrom 53 = .ok (.iconst 0, 1) := by decide +kernel
theorem dX7_copyFrom_54 : decode cX7_copyFrom 54 = .ok (.istore_n 2, 1) := by decide +kernel
theorem dX7_copyFrom_55 : decode cX7_copyFrom 55 = .ok (.iload_n 2, 1) := by decide +kernel
theorem dX7_copyFrom_56 : decode cX7_copyFrom 56 = .ok (.aload_n 0, 1) := by decide +kernel
theorem dX7_copyFrom_57 : decode cX7_copyFrom 57 = .ok (.getfield 30, 3) := by decide +kernel
theorem dX7_copyFrom_60 : decode cX7_copyFrom 60 = .ok (.getfield 49, 3) := by decide +kernel
theorem dX7_copyFrom_63 : decode cX7_copyFrom 63 = .ok (.if_icmp .ge 24, 3) := by decide +kernel
theorem dX7_copyFrom_66 : decode cX7_copyFrom 66 = .ok (.aload_n 0, 1) := by decide +kernel
theorem dX7_copyFrom_67 : decode cX7_copyFrom 67 = .ok (.getfield 17, 3) := by decide +kernel
theorem dX7_copyFrom_70 : decode cX7_copyFrom 70 = .ok (.iload_n 2, 1) := by decide +kernel
theorem dX7_copyFrom_71 : decode cX7_copyFrom 71 = .ok (.aaload, 1) := by decide +kernel
theorem dX7_copyFrom_72 : decode cX7_copyFrom 72 = .ok (.aload_n 1, 1) := by decide +kernel
theorem dX7_copyFrom_73 : decode cX7_copyFrom 73 = .ok (.getfield 17, 3) := by decide +kernel
theorem dX7_copyFrom_76 : decode cX7_copyFrom 76 = .ok (.iload_n 2, 1) := by decide +kernel
theorem dX7_copyFrom_77 : decode cX7_copyFrom 77 = .ok (.aaload, 1) := by decide +kernel
theorem dX7_copyFrom_78 : decode cX7_copyFrom 78 = .ok (.invokevirtual 71, 3) := by decide +kernel
theorem dX7_copyFrom_81 : decode cX7_copyFrom 81 = .ok (.iinc 2 1, 3) := by decide +kernel
theorem dX7_copyFrom_84 : decode cX7_copyFrom 84 = .ok (.goto (-29), 3) := by decide +kernel
theorem dX7_copyFrom_87 : decode cX7_copyFrom 87 = .ok (.iconst 0, 1) := by decide +kernel
theorem dX7_copyFrom_88 : decode cX7_copyFrom 88 = .ok (.istore_n 2, 1) := by decide +kernel
theorem dX7_copyFrom_89 : decode cX7_copyFrom 89 = .ok (.iload_n 2, 1) := by decide +kernel
theorem dX7_copyFrom_90 : decode cX7_copyFrom 90 = .ok (.aload_n 0, 1) := by decide +kernel
theorem dX7_copyFrom_91 : decode cX7_copyFrom 91 = .ok (.getfield 30, 3) := by decide +kernel
theorem dX7_copyFrom_94 : decode cX7_copyFrom 94 = .ok (.getfield 62, 3) := by decide +kernel
theorem dX7_copyFrom_97 : decode cX7_copyFrom 97 = .ok (.if_icmp .ge 24, 3) := by decide +kernel
theorem dX7_copyFrom_100 : decode cX7_copyFrom 100 = .ok (.aload_n 0, 1) := by decide +kernel
theorem dX7_copyFrom_101 : decode cX7_copyFrom 101 = .ok (.getfield 23, 3) := by decide +kernel
theorem dX7_copyFrom_104 : decode cX7_copyFrom 104 = .ok (.iload_n 2, 1) := by decide +kernel
theorem dX7_copyFrom_105 : decode cX7_copyFrom 105 = .ok (.aaload, 1) := by decide +kernel
theorem dX7_copyFrom_106 : decode cX7_copyFrom 106 = .ok (.aload_n 1, 1) := by decide +kernel
theorem dX7_copyFrom_107 : decode cX7_copyFrom 107 = .ok (.getfield 23, 3) := by decide +kernel
theorem dX7_copyFrom_110 : decode cX7_copyFrom 110 = .ok (.iload_n 2, 1) := by decide +kernel
theorem dX7_copyFrom_111 : decode cX7_copyFrom 111 = .ok (.aaload, 1) := by decide +kernel
theorem dX7_copyFrom_112 : decode cX7_copyFrom 112 = .ok (.invokevirtual 75, 3) := by decide +kernel
theorem dX7_copyFrom_115 : decode cX7_copyFrom 115 = .ok (.iinc 2 1, 3) := by decide +kernel
theorem dX7_copyFrom_118 : decode cX7_copyFrom 118 = .ok (.goto (-29), 3) := by decide +kernel
theorem dX7_copyFrom_121 : decode cX7_copyFrom 121 = .ok (.return_, 1) := by decide +kernel
set_option maxRecDepth 10000 in
theorem vX7_copyFrom_0 {κ : eg_K} {d : Nat} (hd : 1 ≤ d) {post : eg_H → Prop} (M : eg_H) {l0 : Nat} (hl0 : l0 < 4) {l1 : Nat} (hl1 : l1 < 4) (h : (∃ p1 : Nat, p1 < 2 ∧ M.2.2 (7, l1) 0 = (5, p1) ∧ (∀ M2 : eg_H, M2 = (sR M (7, l0) 0 (5, p1)) → (∀ M3 : eg_H, M3 = (sI M2 (7, l0) 1 (M2.1 (7, l1) 1)) → (∀ M4 : eg_H, M4 = (sI M3 (7, l0) 6 (M3.1 (7, l1) 6)) → (∀ M5 : eg_H, M5 = (sC M4 (40, l1) (40, l0) (0 : Int32).toNatClampNeg (0 : Int32).toNatClampNeg (5 : Int32).toNatClampNeg) → (∀ M6 : eg_H, M6 = (sC M5 (43, l1) (43, l0) (0 : Int32).toNatClampNeg (0 : Int32).toNatClampNeg (15 : Int32).toNatClampNeg) → eg_W κ gC mtX7_copyFrom d (eQV κ gC post) 55 [(0, vR (7, l0)), (1, vR (7, l1)), (2, vI (0 : Int32))] [] M6))))))) : eg_W κ gC mtX7_copyFrom d (eQV κ gC post) 0 [(0, vR (7, l0)), (1, vR (7, l1))] [] M := by
  refine eg_aload_n 0 dX7_copyFrom_0 rfl rfl ?_
  refine eg_aload_n 1 dX7_copyFrom_1 rfl rfl ?_
  refine eg_getD dX7_copyFrom_2 fl_7_30 rfl rfl (obC_7 hl1) ?_
  obtain ⟨p1, hp1, ep1, h⟩ := h
  rw [ep1]
  refine en_putD dX7_copyFrom_5 fl_7_30 rfl rfl rfl (obC_7 hl0) (fun M2 eM2 => ?_)
  have h := h M2 eM2
  refine eg_aload_n 0 dX7_copyFrom_8 rfl rfl ?_
  refine eg_aload_n 1 dX7_copyFrom_9 rfl rfl ?_
  refine eg_getI dX7_copyFrom_10 fl_7_36 rfl trivial (obC_7 hl1) ?_
  refine en_putI dX7_copyFrom_13 fl_7_36 rfl rfl (obC_7 hl0) (fun M3 eM3 => ?_)
  have h := h M3 eM3
  refine eg_aload_n 0 dX7_copyFrom_16 rfl rfl ?_
  refine eg_aload_n 1 dX7_copyFrom_17 rfl rfl ?_
  refine eg_getI dX7_copyFrom_18 fl_7_40 rfl trivial (obC_7 hl1) ?_
  refine en_putI dX7_copyFrom_21 fl_7_40 rfl rfl (obC_7 hl0) (fun M4 eM4 => ?_)
  have h := h M4 eM4
  refine eg_aload_n 1 dX7_copyFrom_24 rfl rfl ?_
  refine eg_getR dX7_copyFrom_25 fl_7_9 rfl rfl (obC_7 hl1) ?_
  show eg_W κ gC mtX7_copyFrom d (eQV κ gC post) 28 [(0, vR (7, l0)), (1, vR (7, l1))] [vR (40, l1)] M4
  refine eg_iconst dX7_copyFrom_28 ic_0 ?_
  refine eg_aload_n 0 dX7_copyFrom_29 rfl rfl ?_
  refine eg_getR dX7_copyFrom_30 fl_7_9 rfl rfl (obC_7 hl0) ?_
  show eg_W κ gC mtX7_copyFrom d (eQV κ gC post) 33 [(0, vR (7, l0)), (1, vR (7, l1))] [vR (40, l0), vI (0 : Int32), vR (40, l1)] M4
  refine eg_iconst dX7_copyFrom_33 ic_0 ?_
  refine eg_iconst dX7_copyFrom_34 ic_5 ?_
  refine en_copy dX7_copyFrom_35 ml_7_43 (anC_40 hl1) (anC_40 hl0) (by decide) (Nat.le_of_ble_eq_true rfl) (by omega) (fun M5 eM5 => ?_)
  have h := h M5 eM5
  refine eg_aload_n 1 dX7_copyFrom_38 rfl rfl ?_
  refine eg_getR dX7_copyFrom_39 fl_7_27 rfl rfl (obC_7 hl1) ?_
  show eg_W κ gC mtX7_copyFrom d (eQV κ gC post) 42 [(0, vR (7, l0)), (1, vR (7, l1))] [vR (43, l1)] M5
  refine eg_iconst dX7_copyFrom_42 ic_0 ?_
  refine eg_aload_n 0 dX7_copyFrom_43 rfl rfl ?_
  refine eg_getR dX7_copyFrom_44 fl_7_27 rfl rfl (obC_7 hl0) ?_
  show eg_W κ gC mtX7_copyFrom d (eQV κ gC post) 47 [(0, vR (7, l0)), (1, vR (7, l1))] [vR (43, l0), vI (0 : Int32), vR (43, l1)] M5
  refine eg_iconst dX7_copyFrom_47 ic_0 ?_
  refine eg_bipush dX7_copyFrom_48 bp_15 ?_
  refine en_copy dX7_copyFrom_50 ml_7_43 (anC_43 hl1) (anC_43 hl0) (by decide) (Nat.le_of_ble_eq_true rfl) (by omega) (fun M6 eM6 => ?_)
  have h := h M6 eM6
  refine eg_iconst dX7_copyFrom_53 ic_0 ?_
  refine eg_istore_n dX7_copyFrom_54 rfl (by decide) (ls1 := [(2, vI (0 : Int32)), (0, vR (7, l0)), (1, vR (7, l1))]) rfl ?_
  refine eg_sub [1, 2, 0] rfl ?_
  exact h
set_option maxRecDepth 10000 in
theorem vX7_copyFrom_55 {κ : eg_K} {d : Nat} (hd : 1 ≤ d) {post : eg_H → Prop} (M : eg_H) {l0 : Nat} (hl0 : l0 < 4) {l1 : Nat} (hl1 : l1 < 4) (l2 : Int32) (h : (∃ p1 : Nat, p1 < 2 ∧ M.2.2 (7, l0) 0 = (5, p1) ∧ ((M.1 (5, p1) 0) ≤ l2 → eg_W κ gC mtX7_copyFrom d (eQV κ gC post) 89 [(0, vR (7, l0)), (1, vR (7, l1)), (2, vI (0 : Int32))] [] M) ∧ ((¬ (M.1 (5, p1) 0) ≤ l2) → (vp_in l2 5 ∧ eCV κ gC mtX4_copyFrom d [vR (4, 5 * l0 + l2.toNatClampNeg), vR (4, 5 * l1 + l2.toNatClampNeg)] M (fun M4 => (∀ x6 : Int32, x6 = (l2 + (1 : Int32)) → eg_W κ gC mtX7_copyFrom d (eQV κ gC post) 55 [(0, vR (7, l0)), (1, vR (7, l1)), (2, vI x6)] [] M4)))))) : eg_W κ gC mtX7_copyFrom d (eQV κ gC post) 55 [(0, vR (7, l0)), (1, vR (7, l1)), (2, vI l2)] [] M := by
  refine eg_iload_n 2 dX7_copyFrom_55 rfl rfl ?_
  refine eg_aload_n 0 dX7_copyFrom_56 rfl rfl ?_
  refine eg_getD dX7_copyFrom_57 fl_7_30 rfl rfl (obC_7 hl0) ?_
  obtain ⟨p1, hp1, ep1, h⟩ := h
  rw [ep1]
  refine eg_getI dX7_copyFrom_60 fl_7_49 rfl trivial (obC_5 hp1) ?_
  refine eg_icmp_ge (tgt := 87) dX7_copyFrom_63 rfl (fun c2 => ?_) (fun c2 => ?_)
  · have h := h.1 c2
    refine eg_iconst dX7_copyFrom_87 ic_0 ?_
    refine eg_istore_n dX7_copyFrom_88 rfl (by decide) (ls1 := [(2, vI (0 : Int32)), (0, vR (7, l0)), (1, vR (7, l1))]) rfl ?_
    refine eg_sub [1, 2, 0] rfl ?_
    exact h
  · have h := h.2 c2
    refine eg_aload_n 0 dX7_copyFrom_66 rfl rfl ?_
    refine eg_getR dX7_copyFrom_67 fl_7_17 rfl rfl (obC_7 hl0) ?_
    show eg_W κ gC mtX7_copyFrom d (eQV κ gC post) 70 [(0, vR (7, l0)), (1, vR (7, l1)), (2, vI l2)] [vR (41, l0)] M
    refine eg_iload_n 2 dX7_copyFrom_70 rfl rfl ?_
    obtain ⟨g3, h⟩ := h
    refine eg_aaload6 dX7_copyFrom_71 (arC_41 hl0 g3) ?_
    show eg_W κ gC mtX7_copyFrom d (eQV κ gC post) 72 [(0, vR (7, l0)), (1, vR (7, l1)), (2, vI l2)] [vR (4, 5 * l0 + l2.toNatClampNeg)] M
    refine eg_aload_n 1 dX7_copyFrom_72 rfl rfl ?_
    refine eg_getR dX7_copyFrom_73 fl_7_17 rfl rfl (obC_7 hl1) ?_
    show eg_W κ gC mtX7_copyFrom d (eQV κ gC post) 76 [(0, vR (7, l0)), (1, vR (7, l1)), (2, vI l2)] [vR (41, l1), vR (4, 5 * l0 + l2.toNatClampNeg)] M
    refine eg_iload_n 2 dX7_copyFrom_76 rfl rfl ?_
    refine eg_aaload6 dX7_copyFrom_77 (arC_41 hl1 g3) ?_
    show eg_W κ gC mtX7_copyFrom d (eQV κ gC post) 78 [(0, vR (7, l0)), (1, vR (7, l1)), (2, vI l2)] [vR (4, 5 * l1 + l2.toNatClampNeg), vR (4, 5 * l0 + l2.toNatClampNeg)] M
    obtain ⟨q5, hq5, h⟩ := h
    refine eg_callVV (av := [vR (4, 5 * l1 + l2.toNatClampNeg)]) (st := []) dX7_copyFrom_78 ml_7_71 rfl rfl (obC_4 (ixT5 hl0 g3)) (by decide) rfl (Nat.le_of_ble_eq_true rfl) (eg_dd (by omega)) hq5 (fun M4 hp => ?_)
    have h := h M4 hp
    refine en_iinc (f := fun x6 => [(2, vI x6), (0, vR (7, l0)), (1, vR (7, l1))]) 2 dX7_copyFrom_81 rfl rfl (by decide) rfl (fun x6 ex6 => ?_)
    have h := h x6 ex6
    refine eg_goto (tgt := 55) dX7_copyFrom_84 rfl ?_
    refine eg_sub [1, 2, 0] rfl ?_
    exact h
set_option maxRecDepth 10000 in
theorem vX7_copyFrom_89 {κ : eg_K} {d : Nat} (hd : 1 ≤ d) {post : eg_H → Prop} (M : eg_H) {l0 : Nat} (hl0 : l0 < 4) {l1 : Nat} (hl1 : l1 < 4) (l2 : Int32) (h : (∃ p1 : Nat, p1 < 2 ∧ M.2.2 (7, l0) 0 = (5, p1) ∧ ((M.1 (5, p1) 2) ≤ l2 → post M) ∧ ((¬ (M.1 (5, p1) 2) ≤ l2) → (vp_in l2 15 ∧ eCV κ gC mtX2_copyFrom d [vR (2, 15 * l0 + l2.toNatClampNeg), vR (2, 15 * l1 + l2.toNatClampNeg)] M (fun M4 => (∀ x6 : Int32, x6 = (l2 + (1 : Int32)) → eg_W κ gC mtX7_copyFrom d (eQV κ gC post) 89 [(0, vR (7, l0)), (1, vR (7, l1)), (2, vI x6)] [] M4)))))) : eg_W κ gC mtX7_copyFrom d (eQV κ gC post) 89 [(0, vR (7, l0)), (1, vR (7, l1)), (2, vI l2)] [] M := by
  refine eg_iload_n 2 dX7_copyFrom_89 rfl rfl ?_
  refine eg_aload_n 0 dX7_copyFrom_90 rfl rfl ?_
  refine eg_getD dX7_copyFrom_91 fl_7_30 rfl rfl (obC_7 hl0) ?_
  obtain ⟨p1, hp1, ep1, h⟩ := h
  rw [ep1]
  refine eg_getI dX7_copyFrom_94 fl_7_62 rfl trivial (obC_5 hp1) ?_
  refine eg_icmp_ge (tgt := 121) dX7_copyFrom_97 rfl (fun c2 => ?_) (fun c2 => ?_)
  · have h := h.1 c2
    exact eg_vreturn dX7_copyFrom_121 rfl h
  · have h := h.2 c2
    refine eg_aload_n 0 dX7_copyFrom_100 rfl rfl ?_
    refine eg_getR dX7_copyFrom_101 fl_7_23 rfl rfl (obC_7 hl0) ?_
    show eg_W κ gC mtX7_copyFrom d (eQV κ gC post) 104 [(0, vR (7, l0)), (1, vR (7, l1)), (2, vI l2)] [vR (42, l0)] M
    refine eg_iload_n 2 dX7_copyFrom_104 rfl rfl ?_
    obtain ⟨g3, h⟩ := h
    refine eg_aaload7 dX7_copyFrom_105 (arC_42 hl0 g3) ?_
    show eg_W κ gC mtX7_copyFrom d (eQV κ gC post) 106 [(0, vR (7, l0)), (1, vR (7, l1)), (2, vI l2)] [vR (2, 15 * l0 + l2.toNatClampNeg)] M
    refine eg_aload_n 1 dX7_copyFrom_106 rfl rfl ?_
    refine eg_getR dX7_copyFrom_107 fl_7_23 rfl rfl (obC_7 hl1) ?_
    show eg_W κ gC mtX7_copyFrom d (eQV κ gC post) 110 [(0, vR (7, l0)), (1, vR (7, l1)), (2, vI l2)] [vR (42, l1), vR (2, 15 * l0 + l2.toNatClampNeg)] M
    refine eg_iload_n 2 dX7_copyFrom_110 rfl rfl ?_
    refine eg_aaload7 dX7_copyFrom_111 (arC_42 hl1 g3) ?_
    show eg_W κ gC mtX7_copyFrom d (eQV κ gC post) 112 [(0, vR (7, l0)), (1, vR (7, l1)), (2, vI l2)] [vR (2, 15 * l1 + l2.toNatClampNeg), vR (2, 15 * l0 + l2.toNatClampNeg)] M
    obtain ⟨q5, hq5, h⟩ := h
    refine eg_callVV (av := [vR (2, 15 * l1 + l2.toNatClampNeg)]) (st := []) dX7_copyFrom_112 ml_7_75 rfl rfl (obC_2 (ixT15 hl0 g3)) (by decide) rfl (Nat.le_of_ble_eq_true rfl) (eg_dd (by omega)) hq5 (fun M4 hp => ?_)
    have h := h M4 hp
    refine en_iinc (f := fun x6 => [(2, vI x6), (0, vR (7, l0)), (1, vR (7, l1))]) 2 dX7_copyFrom_115 rfl rfl (by decide) rfl (fun x6 ex6 => ?_)
    have h := h x6 ex6
    refine eg_goto (tgt := 89) dX7_copyFrom_118 rfl ?_
    refine eg_sub [1, 2, 0] rfl ?_
    exact h
theorem dX7_go_0 : decode cX7_go 0 = .ok (.aload_n 0, 1) := by decide +kernel
theorem dX7_go_1 : decode cX7_go 1 = .ok (.getfield 36, 3) := by decide +kernel
theorem dX7_go_4 : decode cX7_go 4 = .ok (.iload_n 1, 1) := by decide +kernel
theorem dX7_go_5 : decode cX7_go 5 = .ok (.iadd, 1) := by decide +kernel
theorem dX7_go_6 : decode cX7_go 6 = .ok (.istore_n 2, 1) := by decide +kernel
theorem dX7_go_7 : decode cX7_go 7 = .ok (.iconst 0, 1) := by decide +kernel
theorem dX7_go_8 : decode cX7_go 8 = .ok (.istore_n 3, 1) := by decide +kernel
theorem dX7_go_9 : decode cX7_go 9 = .ok (.iload_n 3, 1) := by decide +kernel
theorem dX7_go_10 : decode cX7_go 10 = .ok (.iload_n 1, 1) := by decide +kernel
theorem dX7_go_11 : decode cX7_go 11 = .ok (.if_icmp .ge 73, 3) := by decide +kernel
theorem dX7_go_14 : decode cX7_go 14 = .ok (.aload_n 0, 1) := by decide +kernel
theorem dX7_go_15 : decode cX7_go 15 = .ok (.getfield 36, 3) := by decide +kernel
theorem dX7_go_18 : decode cX7_go 18 = .ok (.iload_n 2, 1) := by decide +kernel
theorem dX7_go_19 : decode cX7_go 19 = .ok (.if_icmp .ge 65, 3) := by decide +kernel
theorem dX7_go_22 : decode cX7_go 22 = .ok (.aload_n 0, 1) := by decide +kernel
theorem dX7_go_23 : decode cX7_go 23 = .ok (.iconst 1, 1) := by decide +kernel
theorem dX7_go_24 : decode cX7_go 24 = .ok (.putfield 78, 3) := by decide +kernel
theorem dX7_go_27 : decode cX7_go 27 = .ok (.aload_n 0, 1) := by decide +kernel
theorem dX7_go_28 : decode cX7_go 28 = .ok (.invokevirtual 82, 3) := by decide +kernel
theorem dX7_go_31 : decode cX7_go 31 = .ok (.aload_n 0, 1) := by decide +kernel
theorem dX7_go_32 : decode cX7_go 32 = .ok (.invokevirtual 85, 3) := by decide +kernel
theorem dX7_go_35 : decode cX7_go 35 = .ok (.aload_n 0, 1) := by decide +kernel
theorem dX7_go_36 : decode cX7_go 36 = .ok (.invokevirtual 88, 3) := by decide +kernel
theorem dX7_go_39 : decode cX7_go 39 = .ok (.aload_n 0, 1) := by decide +kernel
theorem dX7_go_40 : decode cX7_go 40 = .ok (.invokevirtual 91, 3) := by decide +kernel
theorem dX7_go_43 : decode cX7_go 43 = .ok (.aload_n 0, 1) := by decide +kernel
theorem dX7_go_44 : decode cX7_go 44 = .ok (.invokevirtual 94, 3) := by decide +kernel
theorem dX7_go_47 : decode cX7_go 47 = .ok (.aload_n 0, 1) := by decide +kernel
theorem dX7_go_48 : decode cX7_go 48 = .ok (.dup, 1) := by decide +kernel
theorem dX7_go_49 : decode cX7_go 49 = .ok (.getfield 36, 3) := by decide +kernel
theorem dX7_go_52 : decode cX7_go 52 = .ok (.iconst 1, 1) := by decide +kernel
theorem dX7_go_53 : decode cX7_go 53 = .ok (.iadd, 1) := by decide +kernel
theorem dX7_go_54 : decode cX7_go 54 = .ok (.putfield 36, 3) := by decide +kernel
theorem dX7_go_57 : decode cX7_go 57 = .ok (.aload_n 0, 1) := by decide +kernel
theorem dX7_go_58 : decode cX7_go 58 = .ok (.getfield 78, 3) := by decide +kernel
theorem dX7_go_61 : decode cX7_go 61 = .ok (.ifCond .eq 17, 3) := by decide +kernel
theorem dX7_go_64 : decode cX7_go 64 = .ok (.aload_n 0, 1) := by decide +kernel
theorem dX7_go_65 : decode cX7_go 65 = .ok (.aload_n 0, 1) := by decide +kernel
theorem dX7_go_66 : decode cX7_go 66 = .ok (.iload_n 2, 1) := by decide +kernel
theorem dX7_go_67 : decode cX7_go 67 = .ok (.aload_n 0, 1) := by decide +kernel
theorem dX7_go_68 : decode cX7_go 68 = .ok (.getfield 36, 3) := by decide +kernel
theorem dX7_go_71 : decode cX7_go 71 = .ok (.isub, 1) := by decide +kernel
theorem dX7_go_72 : decode cX7_go 72 = .ok (.invokevirtual 97, 3) := by decide +kernel
theorem dX7_go_75 : decode cX7_go 75 = .ok (.invokevirtual 101, 3) := by decide +kernel
theorem dX7_go_78 : decode cX7_go 78 = .ok (.iinc 3 1, 3) := by decide +kernel
theorem dX7_go_81 : decode cX7_go 81 = .ok (.goto (-72), 3) := by decide +kernel
theorem dX7_go_84 : decode cX7_go 84 = .ok (.return_, 1) := by decide +kernel
set_option maxRecDepth 10000 in
theorem vX7_go_0 {κ : eg_K} {d : Nat} {post : eg_H → Prop} (M : eg_H) {l0 : Nat} (hl0 : l0 < 4) (l1 : Int32) (h : (∀ x1 : Int32, x1 = ((M.1 (7, l0) 1) + l1) → eg_W κ gC mtX7_go d (eQV κ gC post) 9 [(0, vR (7, l0)), (1, vI l1), (2, vI x1), (3, vI (0 : Int32))] [] M)) : eg_W κ gC mtX7_go d (eQV κ gC post) 0 [(0, vR (7, l0)), (1, vI l1)] [] M := by
  refine eg_aload_n 0 dX7_go_0 rfl rfl ?_
  refine eg_getI dX7_go_1 fl_7_36 rfl trivial (obC_7 hl0) ?_
  refine eg_iload_n 1 dX7_go_4 rfl rfl ?_
  refine eg_iadd dX7_go_5 ?_
  refine en_istore_n (f := fun x1 => [(2, vI x1), (0, vR (7, l0)), (1, vI l1)]) dX7_go_6 rfl (by decide) rfl (fun x1 ex1 => ?_)
  have h := h x1 ex1
  refine eg_iconst dX7_go_7 ic_0 ?_
  refine eg_istore_n dX7_go_8 rfl (by decide) (ls1 := [(3, vI (0 : Int32)), (2, vI x1), (0, vR (7, l0)), (1, vI l1)]) rfl ?_
  refine eg_sub [2, 3, 1, 0] rfl ?_
  exact h
set_option maxRecDepth 10000 in
theorem vX7_go_9 {κ : eg_K} {d : Nat} (hd : 1 ≤ d) {post : eg_H → Prop} (M : eg_H) {l0 : Nat} (hl0 : l0 < 4) (l1 : Int32) (l2 : Int32) (l3 : Int32) (h : (l1 ≤ l3 → post M) ∧ ((¬ l1 ≤ l3) → (l2 ≤ (M.1 (7, l0) 1) → post M) ∧ ((¬ l2 ≤ (M.1 (7, l0) 1)) → (∀ M3 : eg_H, M3 = (sI M (7, l0) 7 (1 : Int32)) → eCV κ gC mtX7_fillPans d [vR (7, l0)] M3 (fun M4 => eCV κ gC mtX7_admitGuests d [vR (7, l0)] M4 (fun M6 => eCV κ gC mtX7_walkAll d [vR (7, l0)] M6 (fun M8 => eCV κ gC mtX7_takeOn d [vR (7, l0)] M8 (fun M10 => eCV κ gC mtX7_orderPans d [vR (7, l0)] M10 (fun M12 => (∀ M14 : eg_H, M14 = (sI M12 (7, l0) 1 ((M12.1 (7, l0) 1) + (1 : Int32))) → ((M14.1 (7, l0) 7) = 0 → (∀ x16 : Int32, x16 = (l3 + (1 : Int32)) → eg_W κ gC mtX7_go d (eQV κ gC post) 9 [(0, vR (7, l0)), (1, vI l1), (2, vI l2), (3, vI x16)] [] M14)) ∧ ((¬ (M14.1 (7, l0) 7) = 0) → eCI κ gC mtX7_calmSeconds d [vR (7, l0), vI (l2 - (M14.1 (7, l0) 1))] M14 (fun x17 M18 => eCV κ gC mtX7_repeatCalm d [vR (7, l0), vI x17] M18 (fun M20 => (∀ x22 : Int32, x22 = (l3 + (1 : Int32)) → eg_W κ gC mtX7_go d (eQV κ gC post) 9 [(0, vR (7, l0)), (1, vI l1), (2, vI l2), (3, vI x22)] [] M20)))))))))))))) : eg_W κ gC mtX7_go d (eQV κ gC post) 9 [(0, vR (7, l0)), (1, vI l1), (2, vI l2), (3, vI l3)] [] M := by
  refine eg_iload_n 3 dX7_go_9 rfl rfl ?_
  refine eg_iload_n 1 dX7_go_10 rfl rfl ?_
  refine eg_icmp_ge (tgt := 84) dX7_go_11 rfl (fun c1 => ?_) (fun c1 => ?_)
  · have h := h.1 c1
    exact eg_vreturn dX7_go_84 rfl h
  · have h := h.2 c1
    refine eg_aload_n 0 dX7_go_14 rfl rfl ?_
    refine eg_getI dX7_go_15 fl_7_36 rfl trivial (obC_7 hl0) ?_
    refine eg_iload_n 2 dX7_go_18 rfl rfl ?_
    refine eg_icmp_ge (tgt := 84) dX7_go_19 rfl (fun c2 => ?_) (fun c2 => ?_)
    · have h := h.1 c2
      exact eg_vreturn dX7_go_84 rfl h
    · have h := h.2 c2
      refine eg_aload_n 0 dX7_go_22 rfl rfl ?_
      refine eg_iconst dX7_go_23 ic_1 ?_
      refine en_putZ dX7_go_24 fl_7_78 rfl rfl (Or.inr rfl) (obC_7 hl0) (fun M3 eM3 => ?_)
      have h := h M3 eM3
      refine eg_aload_n 0 dX7_go_27 rfl rfl ?_
      obtain ⟨q5, hq5, h⟩ := h
      refine eg_callVV (av := []) (st := []) dX7_go_28 ml_7_82 rfl rfl (obC_7 hl0) (by decide) rfl (Nat.le_of_ble_eq_true rfl) (eg_dd (by omega)) hq5 (fun M4 hp => ?_)
      have h := h M4 hp
      refine eg_aload_n 0 dX7_go_31 rfl rfl ?_
      obtain ⟨q7, hq7, h⟩ := h
      refine eg_callVV (av := []) (st := []) dX7_go_32 ml_7_85 rfl rfl (obC_7 hl0) (by decide) rfl (Nat.le_of_ble_eq_true rfl) (eg_dd (by omega)) hq7 (fun M6 hp => ?_)
      have h := h M6 hp
      refine eg_aload_n 0 dX7_go_35 rfl rfl ?_
      obtain ⟨q9, hq9, h⟩ := h
      refine eg_callVV (av := []) (st := []) dX7_go_36 ml_7_88 rfl rfl (obC_7 hl0) (by decide) rfl (Nat.le_of_ble_eq_true rfl) (eg_dd (by omega)) hq9 (fun M8 hp => ?_)
      have h := h M8 hp
      refine eg_aload_n 0 dX7_go_39 rfl rfl ?_
      obtain ⟨q11, hq11, h⟩ := h
      refine eg_callVV (av := []) (st := []) dX7_go_40 ml_7_91 rfl rfl (obC_7 hl0) (by decide) rfl (Nat.le_of_ble_eq_true rfl) (eg_dd (by omega)) hq11 (fun M10 hp => ?_)
      have h := h M10 hp
      refine eg_aload_n 0 dX7_go_43 rfl rfl ?_
      obtain ⟨q13, hq13, h⟩ := h
      refine eg_callVV (av := []) (st := []) dX7_go_44 ml_7_94 rfl rfl (obC_7 hl0) (by decide) rfl (Nat.le_of_ble_eq_true rfl) (eg_dd (by omega)) hq13 (fun M12 hp => ?_)
      have h := h M12 hp
      refine eg_aload_n 0 dX7_go_47 rfl rfl ?_
      refine eg_dup dX7_go_48 rfl ?_
      refine eg_getI dX7_go_49 fl_7_36 rfl trivial (obC_7 hl0) ?_
      refine eg_iconst dX7_go_52 ic_1 ?_
      refine eg_iadd dX7_go_53 ?_
      refine en_putI dX7_go_54 fl_7_36 rfl rfl (obC_7 hl0) (fun M14 eM14 => ?_)
      have h := h M14 eM14
      refine eg_aload_n 0 dX7_go_57 rfl rfl ?_
      refine eg_getI dX7_go_58 fl_7_78 rfl trivial (obC_7 hl0) ?_
      refine eg_if_eq (tgt := 78) dX7_go_61 rfl (fun c15 => ?_) (fun c15 => ?_)
      · have h := h.1 c15
        refine en_iinc (f := fun x16 => [(3, vI x16), (0, vR (7, l0)), (1, vI l1), (2, vI l2)]) 3 dX7_go_78 rfl rfl (by decide) rfl (fun x16 ex16 => ?_)
        have h := h x16 ex16
        refine eg_goto (tgt := 9) dX7_go_81 rfl ?_
        refine eg_sub [1, 2, 3, 0] rfl ?_
        exact h
      · have h := h.2 c15
        refine eg_aload_n 0 dX7_go_64 rfl rfl ?_
        refine eg_aload_n 0 dX7_go_65 rfl rfl ?_
        refine eg_iload_n 2 dX7_go_66 rfl rfl ?_
        refine eg_aload_n 0 dX7_go_67 rfl rfl ?_
        refine eg_getI dX7_go_68 fl_7_36 rfl trivial (obC_7 hl0) ?_
        refine eg_isub dX7_go_71 ?_
        obtain ⟨q19, hq19, h⟩ := h
        refine eg_callVI (av := [vI (l2 - (M14.1 (7, l0) 1))]) (st := [vR (7, l0)]) dX7_go_72 ml_7_97 rfl rfl (obC_7 hl0) (by decide) rfl (Nat.le_of_ble_eq_true rfl) (eg_dd (by omega)) hq19 (fun x17 M18 hp => ?_)
        have h := h x17 M18 hp
        obtain ⟨q21, hq21, h⟩ := h
        refine eg_callVV (av := [vI x17]) (st := []) dX7_go_75 ml_7_101 rfl rfl (obC_7 hl0) (by decide) rfl (Nat.le_of_ble_eq_true rfl) (eg_dd (by omega)) hq21 (fun M20 hp => ?_)
        have h := h M20 hp
        refine en_iinc (f := fun x22 => [(3, vI x22), (0, vR (7, l0)), (1, vI l1), (2, vI l2)]) 3 dX7_go_78 rfl rfl (by decide) rfl (fun x22 ex22 => ?_)
        have h := h x22 ex22
        refine eg_goto (tgt := 9) dX7_go_81 rfl ?_
        refine eg_sub [1, 2, 3, 0] rfl ?_
        exact h
theorem dX7_calmSeconds_0 : decode cX7_calmSeconds 0 = .ok (.iload_n 1, 1) := by decide +kernel
theorem dX7_calmSeconds_1 : decode cX7_calmSeconds 1 = .ok (.istore_n 2, 1) := by decide +kernel
theorem dX7_calmSeconds_2 : decode cX7_calmSeconds 2 = .ok (.iconst 0, 1) := by decide +kernel
theorem dX7_calmSeconds_3 : decode cX7_calmSeconds 3 = .ok (.istore_n 3, 1) := by decide +kernel
theorem dX7_calmSeconds_4 : decode cX7_calmSeconds 4 = .ok (.iload_n 3, 1) := by decide +kernel
theorem dX7_calmSeconds_5 : decode cX7_calmSeconds 5 = .ok (.aload_n 0, 1) := by decide +kernel
theorem dX7_calmSeconds_6 : decode cX7_calmSeconds 6 = .ok (.getfield 30, 3) := by decide +kernel
theorem dX7_calmSeconds_9 : decode cX7_calmSeconds 9 = .ok (.getfield 49, 3) := by decide +kernel
theorem dX7_calmSeconds_12 : decode cX7_calmSeconds 12 = .ok (.if_icmp .ge 38, 3) := by decide +kernel
theorem dX7_calmSeconds_15 : decode cX7_calmSeconds 15 = .ok (.aload_n 0, 1) := by decide +kernel
theorem dX7_calmSeconds_16 : decode cX7_calmSeconds 16 = .ok (.getfield 17, 3) := by decide +kernel
theorem dX7_calmSeconds_19 : decode cX7_calmSeconds 19 = .ok (.iload_n 3, 1) := by decide +kernel
theorem dX7_calmSeconds_20 : decode cX7_calmSeconds 20 = .ok (.aaload, 1) := by decide +kernel
theorem dX7_calmSeconds_21 : decode cX7_calmSeconds 21 = .ok (.getfield 105, 3) := by decide +kernel
theorem dX7_calmSeconds_24 : decode cX7_calmSeconds 24 = .ok (.istore 4, 2) := by decide +kernel
theorem dX7_calmSeconds_26 : decode cX7_calmSeconds 26 = .ok (.iload 4, 2) := by decide +kernel
theorem dX7_calmSeconds_28 : decode cX7_calmSeconds 28 = .ok (.iconst (-1), 1) := by decide +kernel
theorem dX7_calmSeconds_29 : decode cX7_calmSeconds 29 = .ok (.if_icmp .eq 15, 3) := by decide +kernel
theorem dX7_calmSeconds_32 : decode cX7_calmSeconds 32 = .ok (.iload_n 2, 1) := by decide +kernel
theorem dX7_calmSeconds_33 : decode cX7_calmSeconds 33 = .ok (.iload 4, 2) := by decide +kernel
theorem dX7_calmSeconds_35 : decode cX7_calmSeconds 35 = .ok (.aload_n 0, 1) := by decide +kernel
theorem dX7_calmSeconds_36 : decode cX7_calmSeconds 36 = .ok (.getfield 36, 3) := by decide +kernel
theorem dX7_calmSeconds_39 : decode cX7_calmSeconds 39 = .ok (.isub, 1) := by decide +kernel
theorem dX7_calmSeconds_40 : decode cX7_calmSeconds 40 = .ok (.invokestatic 108, 3) := by decide +kernel
theorem dX7_calmSeconds_43 : decode cX7_calmSeconds 43 = .ok (.istore_n 2, 1) := by decide +kernel
theorem dX7_calmSeconds_44 : decode cX7_calmSeconds 44 = .ok (.iinc 3 1, 3) := by decide +kernel
theorem dX7_calmSeconds_47 : decode cX7_calmSeconds 47 = .ok (.goto (-43), 3) := by decide +kernel
theorem dX7_calmSeconds_50 : decode cX7_calmSeconds 50 = .ok (.iconst 0, 1) := by decide +kernel
theorem dX7_calmSeconds_51 : decode cX7_calmSeconds 51 = .ok (.istore_n 3, 1) := by decide +kernel
theorem dX7_calmSeconds_52 : decode cX7_calmSeconds 52 = .ok (.iload_n 3, 1) := by decide +kernel
theorem dX7_calmSeconds_53 : decode cX7_calmSeconds 53 = .ok (.aload_n 0, 1) := by decide +kernel
theorem dX7_calmSeconds_54 : decode cX7_calmSeconds 54 = .ok (.getfield 30, 3) := by decide +kernel
theorem dX7_calmSeconds_57 : decode cX7_calmSeconds 57 = .ok (.getfield 62, 3) := by decide +kernel
theorem dX7_calmSeconds_60 : decode cX7_calmSeconds 60 = .ok (.if_icmp .ge 107, 3) := by decide +kernel
theorem dX7_calmSeconds_63 : decode cX7_calmSeconds 63 = .ok (.aload_n 0, 1) := by decide +kernel
theorem dX7_calmSeconds_64 : decode cX7_calmSeconds 64 = .ok (.getfield 23, 3) := by decide +kernel
theorem dX7_calmSeconds_67 : decode cX7_calmSeconds 67 = .ok (.iload_n 3, 1) := by decide +kernel
theorem dX7_calmSeconds_68 : decode cX7_calmSeconds 68 = .ok (.aaload, 1) := by decide +kernel
theorem dX7_calmSeconds_69 : decode cX7_calmSeconds 69 = .ok (.astore 4, 2) := by decide +kernel
theorem dX7_calmSeconds_71 : decode cX7_calmSeconds 71 = .ok (.aload 4, 2) := by decide +kernel
theorem dX7_calmSeconds_73 : decode cX7_calmSeconds 73 = .ok (.getfield 114, 3) := by decide +kernel
theorem dX7_calmSeconds_76 : decode cX7_calmSeconds 76 = .ok (.ifCond .ne 18, 3) := by decide +kernel
theorem dX7_calmSeconds_79 : decode cX7_calmSeconds 79 = .ok (.aload_n 0, 1) := by decide +kernel
theorem dX7_calmSeconds_80 : decode cX7_calmSeconds 80 = .ok (.getfield 30, 3) := by decide +kernel
theorem dX7_calmSeconds_83 : decode cX7_calmSeconds 83 = .ok (.getfield 64, 3) := by decide +kernel
theorem dX7_calmSeconds_86 : decode cX7_calmSeconds 86 = .ok (.iload_n 3, 1) := by decide +kernel
theorem dX7_calmSeconds_87 : decode cX7_calmSeconds 87 = .ok (.aaload, 1) := by decide +kernel
theorem dX7_calmSeconds_88 : decode cX7_calmSeconds 88 = .ok (.getfield 117, 3) := by decide +kernel
theorem dX7_calmSeconds_91 : decode cX7_calmSeconds 91 = .ok (.goto 8, 3) := by decide +kernel
theorem dX7_calmSeconds_94 : decode cX7_calmSeconds 94 = .ok (.aload 4, 2) := by decide +kernel
theorem dX7_calmSeconds_96 : decode cX7_calmSeconds 96 = .ok (.getfield 122, 3) := by decide +kernel
theorem dX7_calmSeconds_99 : decode cX7_calmSeconds 99 = .ok (.istore 5, 2) := by decide +kernel
theorem dX7_calmSeconds_101 : decode cX7_calmSeconds 101 = .ok (.aload 4, 2) := by decide +kernel
theorem dX7_calmSeconds_103 : decode cX7_calmSeconds 103 = .ok (.getfield 114, 3) := by decide +kernel
theorem dX7_calmSeconds_106 : decode cX7_calmSeconds 106 = .ok (.iconst 1, 1) := by decide +kernel
theorem dX7_calmSeconds_107 : decode cX7_calmSeconds 107 = .ok (.if_icmp .ne 24, 3) := by decide +kernel
theorem dX7_calmSeconds_110 : decode cX7_calmSeconds 110 = .ok (.aload 4, 2) := by decide +kernel
theorem dX7_calmSeconds_112 : decode cX7_calmSeconds 112 = .ok (.getfield 125, 3) := by decide +kernel
theorem dX7_calmSeconds_115 : decode cX7_calmSeconds 115 = .ok (.ifCond .le 16, 3) := by decide +kernel
theorem dX7_calmSeconds_118 : decode cX7_calmSeconds 118 = .ok (.iload_n 2, 1) := by decide +kernel
theorem dX7_calmSeconds_119 : decode cX7_calmSeconds 119 = .ok (.aload 4, 2) := by decide +kernel
theorem dX7_calmSeconds_121 : decode cX7_calmSeconds 121 = .ok (.getfield 125, 3) := by decide +kernel
theorem dX7_calmSeconds_124 : decode cX7_calmSeconds 124 = .ok (.invokestatic 108, 3) := by decide +kernel
theorem dX7_calmSeconds_127 : decode cX7_calmSeconds 127 = .ok (.istore_n 2, 1) := by decide +kernel
theorem dX7_calmSeconds_128 : decode cX7_calmSeconds 128 = .ok (.goto 33, 3) := by decide +kernel
theorem dX7_calmSeconds_131 : decode cX7_calmSeconds 131 = .ok (.aload 4, 2) := by decide +kernel
theorem dX7_calmSeconds_133 : decode cX7_calmSeconds 133 = .ok (.getfield 114, 3) := by decide +kernel
theorem dX7_calmSeconds_136 : decode cX7_calmSeconds 136 = .ok (.iconst 1, 1) := by decide +kernel
theorem dX7_calmSeconds_137 : decode cX7_calmSeconds 137 = .ok (.if_icmp .eq 24, 3) := by decide +kernel
theorem dX7_calmSeconds_140 : decode cX7_calmSeconds 140 = .ok (.iload 5, 2) := by decide +kernel
theorem dX7_calmSeconds_142 : decode cX7_calmSeconds 142 = .ok (.aload_n 0, 1) := by decide +kernel
theorem dX7_calmSeconds_143 : decode cX7_calmSeconds 143 = .ok (.getfield 36, 3) := by decide +kernel
theorem dX7_calmSeconds_146 : decode cX7_calmSeconds 146 = .ok (.if_icmp .lt 15, 3) := by decide +kernel
theorem dX7_calmSeconds_149 : decode cX7_calmSeconds 149 = .ok (.iload_n 2, 1) := by decide +kernel
theorem dX7_calmSeconds_150 : decode cX7_calmSeconds 150 = .ok (.iload 5, 2) := by decide +kernel
theorem dX7_calmSeconds_152 : decode cX7_calmSeconds 152 = .ok (.aload_n 0, 1) := by decide +kernel
theorem dX7_calmSeconds_153 : decode cX7_calmSeconds 153 = .ok (.getfield 36, 3) := by decide +kernel
theorem dX7_calmSeconds_156 : decode cX7_calmSeconds 156 = .ok (.isub, 1) := by decide +kernel
theorem dX7_calmSeconds_157 : decode cX7_calmSeconds 157 = .ok (.invokestatic 108, 3) := by decide +kernel
theorem dX7_calmSeconds_160 : decode cX7_calmSeconds 160 = .ok (.istore_n 2, 1) := by decide +kernel
theorem dX7_calmSeconds_161 : decode cX7_calmSeconds 161 = .ok (.iinc 3 1, 3) := by decide +kernel
theorem dX7_calmSeconds_164 : decode cX7_calmSeconds 164 = .ok (.goto (-112), 3) := by decide +kernel
theorem dX7_calmSeconds_167 : decode cX7_calmSeconds 167 = .ok (.iload_n 2, 1) := by decide +kernel
theorem dX7_calmSeconds_168 : decode cX7_calmSeconds 168 = .ok (.ireturn, 1) := by decide +kernel
set_option maxRecDepth 10000 in
theorem vX7_calmSeconds_0 {κ : eg_K} {d : Nat} {post : Int32 → eg_H → Prop} (M : eg_H) {l0 : Nat} (hl0 : l0 < 4) (l1 : Int32) (h : eg_W κ gC mtX7_calmSeconds d (eQI κ gC post) 4 [(0, vR (7, l0)), (2, vI l1), (3, vI (0 : Int32))] [] M) : eg_W κ gC mtX7_calmSeconds d (eQI κ gC post) 0 [(0, vR (7, l0)), (1, vI l1)] [] M := by
  refine eg_iload_n 1 dX7_calmSeconds_0 rfl rfl ?_
  refine eg_istore_n dX7_calmSeconds_1 rfl (by decide) (ls1 := [(2, vI l1), (0, vR (7, l0)), (1, vI l1)]) rfl ?_
  refine eg_iconst dX7_calmSeconds_2 ic_0 ?_
  refine eg_istore_n dX7_calmSeconds_3 rfl (by decide) (ls1 := [(3, vI (0 : Int32)), (2, vI l1), (0, vR (7, l0)), (1, vI l1)]) rfl ?_
  refine eg_sub [2, 1, 0] rfl ?_
  exact h
set_option maxRecDepth 10000 in
theorem vX7_calmSeconds_4 {κ : eg_K} {d : Nat} (hd : 1 ≤ d) {post : Int32 → eg_H → Prop} (M : eg_H) {l0 : Nat} (hl0 : l0 < 4) (l2 : Int32) (l3 : Int32) (h : (∃ p1 : Nat, p1 < 2 ∧ M.2.2 (7, l0) 0 = (5, p1) ∧ ((M.1 (5, p1) 0) ≤ l3 → eg_W κ gC mtX7_calmSeconds d (eQI κ gC post) 52 [(0, vR (7, l0)), (2, vI l2), (3, vI (0 : Int32))] [] M) ∧ ((¬ (M.1 (5, p1) 0) ≤ l3) → (vp_in l3 5 ∧ (∀ x4 : Int32, x4 = (M.1 (4, 5 * l0 + l3.toNatClampNeg) 2) → (x4 = (-1 : Int32) → (∀ x6 : Int32, x6 = (l3 + (1 : Int32)) → eg_W κ gC mtX7_calmSeconds d (eQI κ gC post) 4 [(0, vR (7, l0)), (2, vI l2), (3, vI x6)] [] M)) ∧ ((¬ x4 = (-1 : Int32)) → (∀ x7 : Int32, x7 = (if (x4 - (M.1 (7, l0) 1)) < l2 then (x4 - (M.1 (7, l0) 1)) else l2) → (∀ x8 : Int32, x8 = (l3 + (1 : Int32)) → eg_W κ gC mtX7_calmSeconds d (eQI κ gC post) 4 [(0, vR (7, l0)), (2, vI x7), (3, vI x8)] [] M)))))))) : eg_W κ gC mtX7_calmSeconds d (eQI κ gC post) 4 [(0, vR (7, l0)), (2, vI l2), (3, vI l3)] [] M := by
  refine eg_iload_n 2 dX7_calmSeconds_4 rfl rfl ?_
  refine eg_aload_n 0 dX7_calmSeconds_5 rfl rfl ?_
  refine eg_getD dX7_calmSeconds_6 fl_7_30 rfl rfl (obC_7 hl0) ?_
  obtain ⟨p1, hp1, ep1, h⟩ := h
  rw [ep1]
  refine eg_getI dX7_calmSeconds_9 fl_7_49 rfl trivial (obC_5 hp1) ?_
  refine eg_icmp_ge (tgt := 50) dX7_calmSeconds_12 rfl (fun c2 => ?_) (fun c2 => ?_)
  · have h := h.1 c2
    refine eg_iconst dX7_calmSeconds_50 ic_0 ?_
    refine eg_istore_n dX7_calmSeconds_51 rfl (by decide) (ls1 := [(3, vI (0 : Int32)), (0, vR (7, l0)), (2, vI l2)]) rfl ?_
    refine eg_sub [1, 2, 0] rfl ?_
    exact h
  · have h := h.2 c2
    refine eg_aload_n 0 dX7_calmSeconds_15 rfl rfl ?_
    refine eg_getR dX7_calmSeconds_16 fl_7_17 rfl rfl (obC_7 hl0) ?_
    show eg_W κ gC mtX7_calmSeconds d (eQI κ gC post) 19 [(0, vR (7, l0)), (2, vI l2), (3, vI l3)] [vR (41, l0)] M
    refine eg_iload_n 2 dX7_calmSeconds_19 rfl rfl ?_
    obtain ⟨g3, h⟩ := h
    refine eg_aaload6 dX7_calmSeconds_20 (arC_41 hl0 g3) ?_
    show eg_W κ gC mtX7_calmSeconds d (eQI κ gC post) 21 [(0, vR (7, l0)), (2, vI l2), (3, vI l3)] [vR (4, 5 * l0 + l3.toNatClampNeg)] M
    refine eg_getI dX7_calmSeconds_21 fl_7_105 rfl trivial (obC_4 (ixT5 hl0 g3)) ?_
    refine en_istore (f := fun x4 => [(4, vI x4), (0, vR (7, l0)), (2, vI l2), (3, vI l3)]) dX7_calmSeconds_24 (by decide) rfl (fun x4 ex4 => ?_)
    have h := h x4 ex4
    refine eg_iload 0 dX7_calmSeconds_26 rfl ?_
    refine eg_iconst dX7_calmSeconds_28 ic_m1 ?_
    refine eg_icmp_eq (tgt := 44) dX7_calmSeconds_29 rfl (fun c5 => ?_) (fun c5 => ?_)
    · have h := h.1 c5
      refine en_iinc (f := fun x6 => [(3, vI x6), (4, vI x4), (0, vR (7, l0)), (2, vI l2)]) 3 dX7_calmSeconds_44 rfl rfl (by decide) rfl (fun x6 ex6 => ?_)
      have h := h x6 ex6
      refine eg_goto (tgt := 4) dX7_calmSeconds_47 rfl ?_
      refine eg_sub [2, 3, 0] rfl ?_
      exact h
    · have h := h.2 c5
      refine eg_iload_n 2 dX7_calmSeconds_32 rfl rfl ?_
      refine eg_iload 0 dX7_calmSeconds_33 rfl ?_
      refine eg_aload_n 1 dX7_calmSeconds_35 rfl rfl ?_
      refine eg_getI dX7_calmSeconds_36 fl_7_36 rfl trivial (obC_7 hl0) ?_
      refine eg_isub dX7_calmSeconds_39 ?_
      refine eg_min dX7_calmSeconds_40 ml_7_108 (Nat.le_of_ble_eq_true rfl) (by omega) ?_
      refine en_istore_n (f := fun x7 => [(2, vI x7), (4, vI x4), (0, vR (7, l0)), (3, vI l3)]) dX7_calmSeconds_43 rfl (by decide) rfl (fun x7 ex7 => ?_)
      have h := h x7 ex7
      refine en_iinc (f := fun x8 => [(3, vI x8), (2, vI x7), (4, vI x4), (0, vR (7, l0))]) 3 dX7_calmSeconds_44 rfl rfl (by decide) rfl (fun x8 ex8 => ?_)
      have h := h x8 ex8
      refine eg_goto (tgt := 4) dX7_calmSeconds_47 rfl ?_
      refine eg_sub [3, 1, 0] rfl ?_
      exact h
set_option maxRecDepth 10000 in
theorem vX7_calmSeconds_52 {κ : eg_K} {d : Nat} {post : Int32 → eg_H → Prop} (M : eg_H) {l0 : Nat} (hl0 : l0 < 4) (l2 : Int32) (l3 : Int32) (h : (∃ p1 : Nat, p1 < 2 ∧ M.2.2 (7, l0) 0 = (5, p1) ∧ ((M.1 (5, p1) 2) ≤ l3 → post l2 M) ∧ ((¬ (M.1 (5, p1) 2) ≤ l3) → (vp_in l3 15 ∧ ((¬ (M.1 (2, 15 * l0 + l3.toNatClampNeg) 0) = 0) → eg_W κ gC mtX7_calmSeconds d (eQI κ gC post) 99 [(0, vR (7, l0)), (2, vI l2), (3, vI l3), (4, vR (2, 15 * l0 + l3.toNatClampNeg))] [vI (M.1 (2, 15 * l0 + l3.toNatClampNeg) 6)] M) ∧ ((M.1 (2, 15 * l0 + l3.toNatClampNeg) 0) = 0 → eg_W κ gC mtX7_calmSeconds d (eQI κ gC post) 99 [(0, vR (7, l0)), (2, vI l2), (3, vI l3), (4, vR (2, 15 * l0 + l3.toNatClampNeg))] [vI (M.1 (0, 15 * p1 + l3.toNatClampNeg) 1)] M))))) : eg_W κ gC mtX7_calmSeconds d (eQI κ gC post) 52 [(0, vR (7, l0)), (2, vI l2), (3, vI l3)] [] M := by
  refine eg_iload_n 2 dX7_calmSeconds_52 rfl rfl ?_
  refine eg_aload_n 0 dX7_calmSeconds_53 rfl rfl ?_
  refine eg_getD dX7_calmSeconds_54 fl_7_30 rfl rfl (obC_7 hl0) ?_
  obtain ⟨p1, hp1, ep1, h⟩ := h
  rw [ep1]
  refine eg_getI dX7_calmSeconds_57 fl_7_62 rfl trivial (obC_5 hp1) ?_
  refine eg_icmp_ge (tgt := 167) dX7_calmSeconds_60 rfl (fun c2 => ?_) (fun c2 => ?_)
  · have h := h.1 c2
    refine eg_iload_n 1 dX7_calmSeconds_167 rfl rfl ?_
    exact eg_ireturn dX7_calmSeconds_168 rfl h
  · have h := h.2 c2
    refine eg_aload_n 0 dX7_calmSeconds_63 rfl rfl ?_
    refine eg_getR dX7_calmSeconds_64 fl_7_23 rfl rfl (obC_7 hl0) ?_
    show eg_W κ gC mtX7_calmSeconds d (eQI κ gC post) 67 [(0, vR (7, l0)), (2, vI l2), (3, vI l3)] [vR (42, l0)] M
    refine eg_iload_n 2 dX7_calmSeconds_67 rfl rfl ?_
    obtain ⟨g3, h⟩ := h
    refine eg_aaload7 dX7_calmSeconds_68 (arC_42 hl0 g3) ?_
    show eg_W κ gC mtX7_calmSeconds d (eQI κ gC post) 69 [(0, vR (7, l0)), (2, vI l2), (3, vI l3)] [vR (2, 15 * l0 + l3.toNatClampNeg)] M
    refine eg_astore dX7_calmSeconds_69 (by decide) (ls1 := [(4, vR (2, 15 * l0 + l3.toNatClampNeg)), (0, vR (7, l0)), (2, vI l2), (3, vI l3)]) rfl ?_
    refine eg_aload 0 dX7_calmSeconds_71 rfl ?_
    refine eg_getI dX7_calmSeconds_73 fl_7_114 rfl trivial (obC_2 (ixT15 hl0 g3)) ?_
    refine eg_if_ne (tgt := 94) dX7_calmSeconds_76 rfl (fun c4 => ?_) (fun c4 => ?_)
    · have h := h.1 c4
      refine eg_aload 0 dX7_calmSeconds_94 rfl ?_
      refine eg_getI dX7_calmSeconds_96 fl_7_122 rfl trivial (obC_2 (ixT15 hl0 g3)) ?_
      refine eg_sub [1, 2, 3, 0] rfl ?_
      exact h
    · have h := h.2 c4
      refine eg_aload_n 1 dX7_calmSeconds_79 rfl rfl ?_
      refine eg_getD dX7_calmSeconds_80 fl_7_30 rfl rfl (obC_7 hl0) ?_
      rw [ep1]
      refine eg_getR dX7_calmSeconds_83 fl_7_64 rfl rfl (obC_5 hp1) ?_
      show eg_W κ gC mtX7_calmSeconds d (eQI κ gC post) 86 [(4, vR (2, 15 * l0 + l3.toNatClampNeg)), (0, vR (7, l0)), (2, vI l2), (3, vI l3)] [vR (31, p1)] M
      refine eg_iload_n 3 dX7_calmSeconds_86 rfl rfl ?_
      refine eg_aaload5 dX7_calmSeconds_87 (arC_31 hp1 g3) ?_
      show eg_W κ gC mtX7_calmSeconds d (eQI κ gC post) 88 [(4, vR (2, 15 * l0 + l3.toNatClampNeg)), (0, vR (7, l0)), (2, vI l2), (3, vI l3)] [vR (0, 15 * p1 + l3.toNatClampNeg)] M
      refine eg_getI dX7_calmSeconds_88 fl_7_117 rfl trivial (obC_0 (ixP15 hp1 g3)) ?_
      refine eg_goto (tgt := 99) dX7_calmSeconds_91 rfl ?_
      refine eg_sub [1, 2, 3, 0] rfl ?_
      exact h
set_option maxRecDepth 10000 in
theorem vX7_calmSeconds_99 {κ : eg_K} {d : Nat} (hd : 1 ≤ d) {post : Int32 → eg_H → Prop} (M : eg_H) {l0 : Nat} (hl0 : l0 < 4) (l2 : Int32) (l3 : Int32) {l4 : Nat} (hl4 : l4 < 60) (s0 : Int32) (h : ((¬ (M.1 (2, l4) 0) = (1 : Int32)) → eg_W κ gC mtX7_calmSeconds d (eQI κ gC post) 131 [(0, vR (7, l0)), (2, vI l2), (3, vI l3), (4, vR (2, l4)), (5, vI s0)] [] M) ∧ ((M.1 (2, l4) 0) = (1 : Int32) → ((M.1 (2, l4) 4) ≤ 0 → eg_W κ gC mtX7_calmSeconds d (eQI κ gC post) 131 [(0, vR (7, l0)), (2, vI l2), (3, vI l3), (4, vR (2, l4)), (5, vI s0)] [] M) ∧ ((¬ (M.1 (2, l4) 4) ≤ 0) → (∀ x3 : Int32, x3 = (if (M.1 (2, l4) 4) < l2 then (M.1 (2, l4) 4) else l2) → (∀ x4 : Int32, x4 = (l3 + (1 : Int32)) → eg_W κ gC mtX7_calmSeconds d (eQI κ gC post) 52 [(0, vR (7, l0)), (2, vI x3), (3, vI x4)] [] M))))) : eg_W κ gC mtX7_calmSeconds d (eQI κ gC post) 99 [(0, vR (7, l0)), (2, vI l2), (3, vI l3), (4, vR (2, l4))] [vI s0] M := by
  refine eg_istore dX7_calmSeconds_99 (by decide) (ls1 := [(5, vI s0), (0, vR (7, l0)), (2, vI l2), (3, vI l3), (4, vR (2, l4))]) rfl ?_
  refine eg_aload 4 dX7_calmSeconds_101 rfl ?_
  refine eg_getI dX7_calmSeconds_103 fl_7_114 rfl trivial (obC_2 hl4) ?_
  refine eg_iconst dX7_calmSeconds_106 ic_1 ?_
  refine eg_icmp_ne (tgt := 131) dX7_calmSeconds_107 rfl (fun c1 => ?_) (fun c1 => ?_)
  · have h := h.1 c1
    refine eg_sub [1, 2, 3, 4, 0] rfl ?_
    exact h
  · have h := h.2 c1
    refine eg_aload 4 dX7_calmSeconds_110 rfl ?_
    refine eg_getI dX7_calmSeconds_112 fl_7_125 rfl trivial (obC_2 hl4) ?_
    refine eg_if_le (tgt := 131) dX7_calmSeconds_115 rfl (fun c2 => ?_) (fun c2 => ?_)
    · have h := h.1 c2
      refine eg_sub [1, 2, 3, 4, 0] rfl ?_
      exact h
    · have h := h.2 c2
      refine eg_iload_n 2 dX7_calmSeconds_118 rfl rfl ?_
      refine eg_aload 4 dX7_calmSeconds_119 rfl ?_
      refine eg_getI dX7_calmSeconds_121 fl_7_125 rfl trivial (obC_2 hl4) ?_
      refine eg_min dX7_calmSeconds_124 ml_7_108 (Nat.le_of_ble_eq_true rfl) (by omega) ?_
      refine en_istore_n (f := fun x3 => [(2, vI x3), (5, vI s0), (0, vR (7, l0)), (3, vI l3), (4, vR (2, l4))]) dX7_calmSeconds_127 rfl (by decide) rfl (fun x3 ex3 => ?_)
      have h := h x3 ex3
      refine eg_goto (tgt := 161) dX7_calmSeconds_128 rfl ?_
      refine en_iinc (f := fun x4 => [(3, vI x4), (2, vI x3), (5, vI s0), (0, vR (7, l0)), (4, vR (2, l4))]) 3 dX7_calmSeconds_161 rfl rfl (by decide) rfl (fun x4 ex4 => ?_)
      have h := h x4 ex4
      refine eg_goto (tgt := 52) dX7_calmSeconds_164 rfl ?_
      refine eg_sub [3, 1, 0] rfl ?_
      exact h
set_option maxRecDepth 10000 in
theorem vX7_calmSeconds_131 {κ : eg_K} {d : Nat} (hd : 1 ≤ d) {post : Int32 → eg_H → Prop} (M : eg_H) {l0 : Nat} (hl0 : l0 < 4) (l2 : Int32) (l3 : Int32) {l4 : Nat} (hl4 : l4 < 60) (l5 : Int32) (h : ((M.1 (2, l4) 0) = (1 : Int32) → (∀ x2 : Int32, x2 = (l3 + (1 : Int32)) → eg_W κ gC mtX7_calmSeconds d (eQI κ gC post) 52 [(0, vR (7, l0)), (2, vI l2), (3, vI x2)] [] M)) ∧ ((¬ (M.1 (2, l4) 0) = (1 : Int32)) → (l5 < (M.1 (7, l0) 1) → (∀ x4 : Int32, x4 = (l3 + (1 : Int32)) → eg_W κ gC mtX7_calmSeconds d (eQI κ gC post) 52 [(0, vR (7, l0)), (2, vI l2), (3, vI x4)] [] M)) ∧ ((¬ l5 < (M.1 (7, l0) 1)) → (∀ x5 : Int32, x5 = (if (l5 - (M.1 (7, l0) 1)) < l2 then (l5 - (M.1 (7, l0) 1)) else l2) → (∀ x6 : Int32, x6 = (l3 + (1 : Int32)) → eg_W κ gC mtX7_calmSeconds d (eQI κ gC post) 52 [(0, vR (7, l0)), (2, vI x5), (3, vI x6)] [] M))))) : eg_W κ gC mtX7_calmSeconds d (eQI κ gC post) 131 [(0, vR (7, l0)), (2, vI l2), (3, vI l3), (4, vR (2, l4)), (5, vI l5)] [] M := by
  refine eg_aload 3 dX7_calmSeconds_131 rfl ?_
  refine eg_getI dX7_calmSeconds_133 fl_7_114 rfl trivial (obC_2 hl4) ?_
  refine eg_iconst dX7_calmSeconds_136 ic_1 ?_
  refine eg_icmp_eq (tgt := 161) dX7_calmSeconds_137 rfl (fun c1 => ?_) (fun c1 => ?_)
  · have h := h.1 c1
    refine en_iinc (f := fun x2 => [(3, vI x2), (0, vR (7, l0)), (2, vI l2), (4, vR (2, l4)), (5, vI l5)]) 2 dX7_calmSeconds_161 rfl rfl (by decide) rfl (fun x2 ex2 => ?_)
    have h := h x2 ex2
    refine eg_goto (tgt := 52) dX7_calmSeconds_164 rfl ?_
    refine eg_sub [1, 2, 0] rfl ?_
    exact h
  · have h := h.2 c1
    refine eg_iload 4 dX7_calmSeconds_140 rfl ?_
    refine eg_aload_n 0 dX7_calmSeconds_142 rfl rfl ?_
    refine eg_getI dX7_calmSeconds_143 fl_7_36 rfl trivial (obC_7 hl0) ?_
    refine eg_icmp_lt (tgt := 161) dX7_calmSeconds_146 rfl (fun c3 => ?_) (fun c3 => ?_)
    · have h := h.1 c3
      refine en_iinc (f := fun x4 => [(3, vI x4), (0, vR (7, l0)), (2, vI l2), (4, vR (2, l4)), (5, vI l5)]) 2 dX7_calmSeconds_161 rfl rfl (by decide) rfl (fun x4 ex4 => ?_)
      have h := h x4 ex4
      refine eg_goto (tgt := 52) dX7_calmSeconds_164 rfl ?_
      refine eg_sub [1, 2, 0] rfl ?_
      exact h
    · have h := h.2 c3
      refine eg_iload_n 1 dX7_calmSeconds_149 rfl rfl ?_
      refine eg_iload 4 dX7_calmSeconds_150 rfl ?_
      refine eg_aload_n 0 dX7_calmSeconds_152 rfl rfl ?_
      refine eg_getI dX7_calmSeconds_153 fl_7_36 rfl trivial (obC_7 hl0) ?_
      refine eg_isub dX7_calmSeconds_156 ?_
      refine eg_min dX7_calmSeconds_157 ml_7_108 (Nat.le_of_ble_eq_true rfl) (by omega) ?_
      refine en_istore_n (f := fun x5 => [(2, vI x5), (0, vR (7, l0)), (3, vI l3), (4, vR (2, l4)), (5, vI l5)]) dX7_calmSeconds_160 rfl (by decide) rfl (fun x5 ex5 => ?_)
      have h := h x5 ex5
      refine en_iinc (f := fun x6 => [(3, vI x6), (2, vI x5), (0, vR (7, l0)), (4, vR (2, l4)), (5, vI l5)]) 2 dX7_calmSeconds_161 rfl rfl (by decide) rfl (fun x6 ex6 => ?_)
      have h := h x6 ex6
      refine eg_goto (tgt := 52) dX7_calmSeconds_164 rfl ?_
      refine eg_sub [2, 1, 0] rfl ?_
      exact h
theorem dX7_repeatCalm_0 : decode cX7_repeatCalm 0 = .ok (.iload_n 1, 1) := by decide +kernel
theorem dX7_repeatCalm_1 : decode cX7_repeatCalm 1 = .ok (.ifCond .gt 4, 3) := by decide +kernel
theorem dX7_repeatCalm_4 : decode cX7_repeatCalm 4 = .ok (.return_, 1) := by decide +kernel
theorem dX7_repeatCalm_5 : decode cX7_repeatCalm 5 = .ok (.aload_n 0, 1) := by decide +kernel
theorem dX7_repeatCalm_6 : decode cX7_repeatCalm 6 = .ok (.dup, 1) := by decide +kernel
theorem dX7_repeatCalm_7 : decode cX7_repeatCalm 7 = .ok (.getfield 36, 3) := by decide +kernel
theorem dX7_repeatCalm_10 : decode cX7_repeatCalm 10 = .ok (.iload_n 1, 1) := by decide +kernel
theorem dX7_repeatCalm_11 : decode cX7_repeatCalm 11 = .ok (.iadd, 1) := by decide +kernel
theorem dX7_repeatCalm_12 : decode cX7_repeatCalm 12 = .ok (.putfield 36, 3) := by decide +kernel
theorem dX7_repeatCalm_15 : decode cX7_repeatCalm 15 = .ok (.iconst 0, 1) := by decide +kernel
theorem dX7_repeatCalm_16 : decode cX7_repeatCalm 16 = .ok (.istore_n 2, 1) := by decide +kernel
theorem dX7_repeatCalm_17 : decode cX7_repeatCalm 17 = .ok (.iload_n 2, 1) := by decide +kernel
theorem dX7_repeatCalm_18 : decode cX7_repeatCalm 18 = .ok (.aload_n 0, 1) := by decide +kernel
theorem dX7_repeatCalm_19 : decode cX7_repeatCalm 19 = .ok (.getfield 40, 3) := by decide +kernel
theorem dX7_repeatCalm_22 : decode cX7_repeatCalm 22 = .ok (.if_icmp .ge 51, 3) := by decide +kernel
theorem dX7_repeatCalm_25 : decode cX7_repeatCalm 25 = .ok (.aload_n 0, 1) := by decide +kernel
theorem dX7_repeatCalm_26 : decode cX7_repeatCalm 26 = .ok (.getfield 23, 3) := by decide +kernel
theorem dX7_repeatCalm_29 : decode cX7_repeatCalm 29 = .ok (.aload_n 0, 1) := by decide +kernel
theorem dX7_repeatCalm_30 : decode cX7_repeatCalm 30 = .ok (.getfield 27, 3) := by decide +kernel
theorem dX7_repeatCalm_33 : decode cX7_repeatCalm 33 = .ok (.iload_n 2, 1) := by decide +kernel
theorem dX7_repeatCalm_34 : decode cX7_repeatCalm 34 = .ok (.iaload, 1) := by decide +kernel
theorem dX7_repeatCalm_35 : decode cX7_repeatCalm 35 = .ok (.aaload, 1) := by decide +kernel
theorem dX7_repeatCalm_36 : decode cX7_repeatCalm 36 = .ok (.astore_n 3, 1) := by decide +kernel
theorem dX7_repeatCalm_37 : decode cX7_repeatCalm 37 = .ok (.aload_n 3, 1) := by decide +kernel
theorem dX7_repeatCalm_38 : decode cX7_repeatCalm 38 = .ok (.getfield 125, 3) := by decide +kernel
theorem dX7_repeatCalm_41 : decode cX7_repeatCalm 41 = .ok (.ifCond .le 16, 3) := by decide +kernel
theorem dX7_repeatCalm_44 : decode cX7_repeatCalm 44 = .ok (.aload_n 3, 1) := by decide +kernel
theorem dX7_repeatCalm_45 : decode cX7_repeatCalm 45 = .ok (.dup, 1) := by decide +kernel
theorem dX7_repeatCalm_46 : decode cX7_repeatCalm 46 = .ok (.getfield 125, 3) := by decide +kernel
theorem dX7_repeatCalm_49 : decode cX7_repeatCalm 49 = .ok (.iload_n 1, 1) := by decide +kernel
theorem dX7_repeatCalm_50 : decode cX7_repeatCalm 50 = .ok (.isub, 1) := by decide +kernel
theorem dX7_repeatCalm_51 : decode cX7_repeatCalm 51 = .ok (.putfield 125, 3) := by decide +kernel
theorem dX7_repeatCalm_54 : decode cX7_repeatCalm 54 = .ok (.goto 13, 3) := by decide +kernel
theorem dX7_repeatCalm_57 : decode cX7_repeatCalm 57 = .ok (.aload_n 3, 1) := by decide +kernel
theorem dX7_repeatCalm_58 : decode cX7_repeatCalm 58 = .ok (.dup, 1) := by decide +kernel
theorem dX7_repeatCalm_59 : decode cX7_repeatCalm 59 = .ok (.getfield 128, 3) := by decide +kernel
theorem dX7_repeatCalm_62 : decode cX7_repeatCalm 62 = .ok (.iload_n 1, 1) := by decide +kernel
theorem dX7_repeatCalm_63 : decode cX7_repeatCalm 63 = .ok (.iadd, 1) := by decide +kernel
theorem dX7_repeatCalm_64 : decode cX7_repeatCalm 64 = .ok (.putfield 128, 3) := by decide +kernel
theorem dX7_repeatCalm_67 : decode cX7_repeatCalm 67 = .ok (.iinc 2 1, 3) := by decide +kernel
theorem dX7_repeatCalm_70 : decode cX7_repeatCalm 70 = .ok (.goto (-53), 3) := by decide +kernel
theorem dX7_repeatCalm_73 : decode cX7_repeatCalm 73 = .ok (.iconst 0, 1) := by decide +kernel
theorem dX7_repeatCalm_74 : decode cX7_repeatCalm 74 = .ok (.istore_n 2, 1) := by decide +kernel
theorem dX7_repeatCalm_75 : decode cX7_repeatCalm 75 = .ok (.iload_n 2, 1) := by decide +kernel
theorem dX7_repeatCalm_76 : decode cX7_repeatCalm 76 = .ok (.aload_n 0, 1) := by decide +kernel
theorem dX7_repeatCalm_77 : decode cX7_repeatCalm 77 = .ok (.getfield 30, 3) := by decide +kernel
theorem dX7_repeatCalm_80 : decode cX7_repeatCalm 80 = .ok (.getfield 49, 3) := by decide +kernel
theorem dX7_repeatCalm_83 : decode cX7_repeatCalm 83 = .ok (.if_icmp .ge 70, 3) := by decide +kernel
theorem dX7_repeatCalm_86 : decode cX7_repeatCalm 86 = .ok (.aload_n 0, 1) := by decide +kernel
theorem dX7_repeatCalm_87 : decode cX7_repeatCalm 87 = .ok (.getfield 30, 3) := by decide +kernel
theorem dX7_repeatCalm_90 : decode cX7_repeatCalm 90 = .ok (.getfield 54, 3) := by decide +kernel
theorem dX7_repeatCalm_93 : decode cX7_repeatCalm 93 = .ok (.iload_n 2, 1) := by decide +kernel
theorem dX7_repeatCalm_94 : decode cX7_repeatCalm 94 = .ok (.aaload, 1) := by decide +kernel
theorem dX7_repeatCalm_95 : decode cX7_repeatCalm 95 = .ok (.getfield 131, 3) := by decide +kernel
theorem dX7_repeatCalm_98 : decode cX7_repeatCalm 98 = .ok (.ifCond .le 49, 3) := by decide +kernel
theorem dX7_repeatCalm_101 : decode cX7_repeatCalm 101 = .ok (.aload_n 0, 1) := by decide +kernel
theorem dX7_repeatCalm_102 : decode cX7_repeatCalm 102 = .ok (.getfield 17, 3) := by decide +kernel
theorem dX7_repeatCalm_105 : decode cX7_repeatCalm 105 = .ok (.iload_n 2, 1) := by decide +kernel
theorem dX7_repeatCalm_106 : decode cX7_repeatCalm 106 = .ok (.aaload, 1) := by decide +kernel
theorem dX7_repeatCalm_107 : decode cX7_repeatCalm 107 = .ok (.dup, 1) := by decide +kernel
theorem dX7_repeatCalm_108 : decode cX7_repeatCalm 108 = .ok (.getfield 136, 3) := by decide +kernel
theorem dX7_repeatCalm_111 : decode cX7_repeatCalm 111 = .ok (.iload_n 1, 1) := by decide +kernel
theorem dX7_repeatCalm_112 : decode cX7_repeatCalm 112 = .ok (.iadd, 1) := by decide +kernel
theorem dX7_repeatCalm_113 : decode cX7_repeatCalm 113 = .ok (.putfield 136, 3) := by decide +kernel
theorem dX7_repeatCalm_116 : decode cX7_repeatCalm 116 = .ok (.aload_n 0, 1) := by decide +kernel
theorem dX7_repeatCalm_117 : decode cX7_repeatCalm 117 = .ok (.getfield 17, 3) := by decide +kernel
theorem dX7_repeatCalm_120 : decode cX7_repeatCalm 120 = .ok (.iload_n 2, 1) := by decide +kernel
theorem dX7_repeatCalm_121 : decode cX7_repeatCalm 121 = .ok (.aaload, 1) := by decide +kernel
theorem dX7_repeatCalm_122 : decode cX7_repeatCalm 122 = .ok (.dup, 1) := by decide +kernel
theorem dX7_repeatCalm_123 : decode cX7_repeatCalm 123 = .ok (.getfield 139, 3) := by decide +kernel
theorem dX7_repeatCalm_126 : decode cX7_repeatCalm 126 = .ok (.aload_n 0, 1) := by decide +kernel
theorem dX7_repeatCalm_127 : decode cX7_repeatCalm 127 = .ok (.getfield 17, 3) := by decide +kernel
theorem dX7_repeatCalm_130 : decode cX7_repeatCalm 130 = .ok (.iload_n 2, 1) := by decide +kernel
theorem dX7_repeatCalm_131 : decode cX7_repeatCalm 131 = .ok (.aaload, 1) := by decide +kernel
theorem dX7_repeatCalm_132 : decode cX7_repeatCalm 132 = .ok (.getfield 142, 3) := by decide +kernel
theorem dX7_repeatCalm_135 : decode cX7_repeatCalm 135 = .ok (.ifCond .ne 7, 3) := by decide +kernel
theorem dX7_repeatCalm_138 : decode cX7_repeatCalm 138 = .ok (.iload_n 1, 1) := by decide +kernel
theorem dX7_repeatCalm_139 : decode cX7_repeatCalm 139 = .ok (.goto 4, 3) := by decide +kernel
theorem dX7_repeatCalm_142 : decode cX7_repeatCalm 142 = .ok (.iconst 0, 1) := by decide +kernel
theorem dX7_repeatCalm_143 : decode cX7_repeatCalm 143 = .ok (.iadd, 1) := by decide +kernel
theorem dX7_repeatCalm_144 : decode cX7_repeatCalm 144 = .ok (.putfield 139, 3) := by decide +kernel
theorem dX7_repeatCalm_147 : decode cX7_repeatCalm 147 = .ok (.iinc 2 1, 3) := by decide +kernel
theorem dX7_repeatCalm_150 : decode cX7_repeatCalm 150 = .ok (.goto (-75), 3) := by decide +kernel
theorem dX7_repeatCalm_153 : decode cX7_repeatCalm 153 = .ok (.return_, 1) := by decide +kernel
set_option maxRecDepth 10000 in
theorem vX7_repeatCalm_0 {κ : eg_K} {d : Nat} {post : eg_H → Prop} (M : eg_H) {l0 : Nat} (hl0 : l0 < 4) (l1 : Int32) (h : (0 < l1 → (∀ M2 : eg_H, M2 = (sI M (7, l0) 1 ((M.1 (7, l0) 1) + l1)) → eg_W κ gC mtX7_repeatCalm d (eQV κ gC post) 17 [(0, vR (7, l0)), (1, vI l1), (2, vI (0 : Int32))] [] M2)) ∧ ((¬ 0 < l1) → post M)) : eg_W κ gC mtX7_repeatCalm d (eQV κ gC post) 0 [(0, vR (7, l0)), (1, vI l1)] [] M := by
  refine eg_iload_n 1 dX7_repeatCalm_0 rfl rfl ?_
  refine eg_if_gt (tgt := 5) dX7_repeatCalm_1 rfl (fun c1 => ?_) (fun c1 => ?_)
  · have h := h.1 c1
    refine eg_aload_n 0 dX7_repeatCalm_5 rfl rfl ?_
    refine eg_dup dX7_repeatCalm_6 rfl ?_
    refine eg_getI dX7_repeatCalm_7 fl_7_36 rfl trivial (obC_7 hl0) ?_
    refine eg_iload_n 1 dX7_repeatCalm_10 rfl rfl ?_
    refine eg_iadd dX7_repeatCalm_11 ?_
    refine en_putI dX7_repeatCalm_12 fl_7_36 rfl rfl (obC_7 hl0) (fun M2 eM2 => ?_)
    have h := h M2 eM2
    refine eg_iconst dX7_repeatCalm_15 ic_0 ?_
    refine eg_istore_n dX7_repeatCalm_16 rfl (by decide) (ls1 := [(2, vI (0 : Int32)), (0, vR (7, l0)), (1, vI l1)]) rfl ?_
    refine eg_sub [1, 2, 0] rfl ?_
    exact h
  · have h := h.2 c1
    exact eg_vreturn dX7_repeatCalm_4 rfl h
set_option maxRecDepth 10000 in
theorem vX7_repeatCalm_17 {κ : eg_K} {d : Nat} {post : eg_H → Prop} (M : eg_H) {l0 : Nat} (hl0 : l0 < 4) (l1 : Int32) (l2 : Int32) (h : ((M.1 (7, l0) 6) ≤ l2 → eg_W κ gC mtX7_repeatCalm d (eQV κ gC post) 75 [(0, vR (7, l0)), (1, vI l1), (2, vI (0 : Int32))] [] M) ∧ ((¬ (M.1 (7, l0) 6) ≤ l2) → (vp_in l2 15 ∧ (vp_in (M.1 (43, l0) l2.toNatClampNeg) 15 ∧ ((M.1 (2, 15 * l0 + (M.1 (43, l0) l2.toNatClampNeg).toNatClampNeg) 4) ≤ 0 → (∀ M5 : eg_H, M5 = (sI M (2, 15 * l0 + (M.1 (43, l0) l2.toNatClampNeg).toNatClampNeg) 7 ((M.1 (2, 15 * l0 + (M.1 (43, l0) l2.toNatClampNeg).toNatClampNeg) 7) + l1)) → (∀ x6 : Int32, x6 = (l2 + (1 : Int32)) → eg_W κ gC mtX7_repeatCalm d (eQV κ gC post) 17 [(0, vR (7, l0)), (1, vI l1), (2, vI x6)] [] M5))) ∧ ((¬ (M.1 (2, 15 * l0 + (M.1 (43, l0) l2.toNatClampNeg).toNatClampNeg) 4) ≤ 0) → (∀ M7 : eg_H, M7 = (sI M (2, 15 * l0 + (M.1 (43, l0) l2.toNatClampNeg).toNatClampNeg) 4 ((M.1 (2, 15 * l0 + (M.1 (43, l0) l2.toNatClampNeg).toNatClampNeg) 4) - l1)) → (∀ x8 : Int32, x8 = (l2 + (1 : Int32)) → eg_W κ gC mtX7_repeatCalm d (eQV κ gC post) 17 [(0, vR (7, l0)), (1, vI l1), (2, vI x8)] [] M7))))))) : eg_W κ gC mtX7_repeatCalm d (eQV κ gC post) 17 [(0, vR (7, l0)), (1, vI l1), (2, vI l2)] [] M := by
  refine eg_iload_n 2 dX7_repeatCalm_17 rfl rfl ?_
  refine eg_aload_n 0 dX7_repeatCalm_18 rfl rfl ?_
  refine eg_getI dX7_repeatCalm_19 fl_7_40 rfl trivial (obC_7 hl0) ?_
  refine eg_icmp_ge (tgt := 73) dX7_repeatCalm_22 rfl (fun c1 => ?_) (fun c1 => ?_)
  · have h := h.1 c1
    refine eg_iconst dX7_repeatCalm_73 ic_0 ?_
    refine eg_istore_n dX7_repeatCalm_74 rfl (by decide) (ls1 := [(2, vI (0 : Int32)), (0, vR (7, l0)), (1, vI l1)]) rfl ?_
    refine eg_sub [1, 2, 0] rfl ?_
    exact h
  · have h := h.2 c1
    refine eg_aload_n 0 dX7_repeatCalm_25 rfl rfl ?_
    refine eg_getR dX7_repeatCalm_26 fl_7_23 rfl rfl (obC_7 hl0) ?_
    show eg_W κ gC mtX7_repeatCalm d (eQV κ gC post) 29 [(0, vR (7, l0)), (1, vI l1), (2, vI l2)] [vR (42, l0)] M
    refine eg_aload_n 0 dX7_repeatCalm_29 rfl rfl ?_
    refine eg_getR dX7_repeatCalm_30 fl_7_27 rfl rfl (obC_7 hl0) ?_
    show eg_W κ gC mtX7_repeatCalm d (eQV κ gC post) 33 [(0, vR (7, l0)), (1, vI l1), (2, vI l2)] [vR (43, l0), vR (42, l0)] M
    refine eg_iload_n 2 dX7_repeatCalm_33 rfl rfl ?_
    obtain ⟨g2, h⟩ := h
    refine eg_iaload dX7_repeatCalm_34 (arC_43 hl0 g2) ?_
    obtain ⟨g3, h⟩ := h
    refine eg_aaload7 dX7_repeatCalm_35 (arC_42 hl0 g3) ?_
    show eg_W κ gC mtX7_repeatCalm d (eQV κ gC post) 36 [(0, vR (7, l0)), (1, vI l1), (2, vI l2)] [vR (2, 15 * l0 + (M.1 (43, l0) l2.toNatClampNeg).toNatClampNeg)] M
    refine eg_astore_n dX7_repeatCalm_36 rfl (by decide) (ls1 := [(3, vR (2, 15 * l0 + (M.1 (43, l0) l2.toNatClampNeg).toNatClampNeg)), (0, vR (7, l0)), (1, vI l1), (2, vI l2)]) rfl ?_
    refine eg_aload_n 0 dX7_repeatCalm_37 rfl rfl ?_
    refine eg_getI dX7_repeatCalm_38 fl_7_125 rfl trivial (obC_2 (ixT15 hl0 g3)) ?_
    refine eg_if_le (tgt := 57) dX7_repeatCalm_41 rfl (fun c4 => ?_) (fun c4 => ?_)
    · have h := h.1 c4
      refine eg_aload_n 0 dX7_repeatCalm_57 rfl rfl ?_
      refine eg_dup dX7_repeatCalm_58 rfl ?_
      refine eg_getI dX7_repeatCalm_59 fl_7_128 rfl trivial (obC_2 (ixT15 hl0 g3)) ?_
      refine eg_iload_n 2 dX7_repeatCalm_62 rfl rfl ?_
      refine eg_iadd dX7_repeatCalm_63 ?_
      refine en_putI dX7_repeatCalm_64 fl_7_128 rfl rfl (obC_2 (ixT15 hl0 g3)) (fun M5 eM5 => ?_)
      have h := h M5 eM5
      refine en_iinc (f := fun x6 => [(2, vI x6), (3, vR (2, 15 * l0 + (M.1 (43, l0) l2.toNatClampNeg).toNatClampNeg)), (0, vR (7, l0)), (1, vI l1)]) 3 dX7_repeatCalm_67 rfl rfl (by decide) rfl (fun x6 ex6 => ?_)
      have h := h x6 ex6
      refine eg_goto (tgt := 17) dX7_repeatCalm_70 rfl ?_
      refine eg_sub [2, 3, 0] rfl ?_
      exact h
    · have h := h.2 c4
      refine eg_aload_n 0 dX7_repeatCalm_44 rfl rfl ?_
      refine eg_dup dX7_repeatCalm_45 rfl ?_
      refine eg_getI dX7_repeatCalm_46 fl_7_125 rfl trivial (obC_2 (ixT15 hl0 g3)) ?_
      refine eg_iload_n 2 dX7_repeatCalm_49 rfl rfl ?_
      refine eg_isub dX7_repeatCalm_50 ?_
      refine en_putI dX7_repeatCalm_51 fl_7_125 rfl rfl (obC_2 (ixT15 hl0 g3)) (fun M7 eM7 => ?_)
      have h := h M7 eM7
      refine eg_goto (tgt := 67) dX7_repeatCalm_54 rfl ?_
      refine en_iinc (f := fun x8 => [(2, vI x8), (3, vR (2, 15 * l0 + (M.1 (43, l0) l2.toNatClampNeg).toNatClampNeg)), (0, vR (7, l0)), (1, vI l1)]) 3 dX7_repeatCalm_67 rfl rfl (by decide) rfl (fun x8 ex8 => ?_)
      have h := h x8 ex8
      refine eg_goto (tgt := 17) dX7_repeatCalm_70 rfl ?_
      refine eg_sub [2, 3, 0] rfl ?_
      exact h
set_option maxRecDepth 10000 in
theorem vX7_repeatCalm_75 {κ : eg_K} {d : Nat} {post : eg_H → Prop} (M : eg_H) {l0 : Nat} (hl0 : l0 < 4) (l1 : Int32) (l2 : Int32) (h : (∃ p1 : Nat, p1 < 2 ∧ M.2.2 (7, l0) 0 = (5, p1) ∧ ((M.1 (5, p1) 0) ≤ l2 → post M) ∧ ((¬ (M.1 (5, p1) 0) ≤ l2) → (vp_in l2 5 ∧ ((M.1 (1, 5 * p1 + l2.toNatClampNeg) 3) ≤ 0 → (∀ x5 : Int32, x5 = (l2 + (1 : Int32)) → eg_W κ gC mtX7_repeatCalm d (eQV κ gC post) 75 [(0, vR (7, l0)), (1, vI l1), (2, vI x5)] [] M)) ∧ ((¬ (M.1 (1, 5 * p1 + l2.toNatClampNeg) 3) ≤ 0) → (∀ M6 : eg_H, M6 = (sI M (4, 5 * l0 + l2.toNatClampNeg) 1 ((M.1 (4, 5 * l0 + l2.toNatClampNeg) 1) + l1)) → (∀ x7 : Int32, x7 = ((if (¬ (M6.1 (4, 5 * l0 + l2.toNatClampNeg) 0) = 0) then (0 : Int32) else l1)) → (∀ M8 : eg_H, M8 = (sI M6 (4, 5 * l0 + l2.toNatClampNeg) 5 ((M6.1 (4, 5 * l0 + l2.toNatClampNeg) 5) + x7)) → (∀ x9 : Int32, x9 = (l2 + (1 : Int32)) → eg_W κ gC mtX7_repeatCalm d (eQV κ gC post) 75 [(0, vR (7, l0)), (1, vI l1), (2, vI x9)] [] M8))))))))) : eg_W κ gC mtX7_repeatCalm d (eQV κ gC post) 75 [(0, vR (7, l0)), (1, vI l1), (2, vI l2)] [] M := by
  refine eg_iload_n 2 dX7_repeatCalm_75 rfl rfl ?_
  refine eg_aload_n 0 dX7_repeatCalm_76 rfl rfl ?_
  refine eg_getD dX7_repeatCalm_77 fl_7_30 rfl rfl (obC_7 hl0) ?_
  obtain ⟨p1, hp1, ep1, h⟩ := h
  rw [ep1]
  refine eg_getI dX7_repeatCalm_80 fl_7_49 rfl trivial (obC_5 hp1) ?_
  refine eg_icmp_ge (tgt := 153) dX7_repeatCalm_83 rfl (fun c2 => ?_) (fun c2 => ?_)
  · have h := h.1 c2
    exact eg_vreturn dX7_repeatCalm_153 rfl h
  · have h := h.2 c2
    refine eg_aload_n 0 dX7_repeatCalm_86 rfl rfl ?_
    refine eg_getD dX7_repeatCalm_87 fl_7_30 rfl rfl (obC_7 hl0) ?_
    rw [ep1]
    refine eg_getR dX7_repeatCalm_90 fl_7_54 rfl rfl (obC_5 hp1) ?_
    show eg_W κ gC mtX7_repeatCalm d (eQV κ gC post) 93 [(0, vR (7, l0)), (1, vI l1), (2, vI l2)] [vR (30, p1)] M
    refine eg_iload_n 2 dX7_repeatCalm_93 rfl rfl ?_
    obtain ⟨g3, h⟩ := h
    refine eg_aaload4 dX7_repeatCalm_94 (arC_30 hp1 g3) ?_
    show eg_W κ gC mtX7_repeatCalm d (eQV κ gC post) 95 [(0, vR (7, l0)), (1, vI l1), (2, vI l2)] [vR (1, 5 * p1 + l2.toNatClampNeg)] M
    refine eg_getI dX7_repeatCalm_95 fl_7_131 rfl trivial (obC_1 (ixP5 hp1 g3)) ?_
    refine eg_if_le (tgt := 147) dX7_repeatCalm_98 rfl (fun c4 => ?_) (fun c4 => ?_)
    · have h := h.1 c4
      refine en_iinc (f := fun x5 => [(2, vI x5), (0, vR (7, l0)), (1, vI l1)]) 2 dX7_repeatCalm_147 rfl rfl (by decide) rfl (fun x5 ex5 => ?_)
      have h := h x5 ex5
      refine eg_goto (tgt := 75) dX7_repeatCalm_150 rfl ?_
      refine eg_sub [1, 2, 0] rfl ?_
      exact h
    · have h := h.2 c4
      refine eg_aload_n 0 dX7_repeatCalm_101 rfl rfl ?_
      refine eg_getR dX7_repeatCalm_102 fl_7_17 rfl rfl (obC_7 hl0) ?_
      show eg_W κ gC mtX7_repeatCalm d (eQV κ gC post) 105 [(0, vR (7, l0)), (1, vI l1), (2, vI l2)] [vR (41, l0)] M
      refine eg_iload_n 2 dX7_repeatCalm_105 rfl rfl ?_
      refine eg_aaload6 dX7_repeatCalm_106 (arC_41 hl0 g3) ?_
      show eg_W κ gC mtX7_repeatCalm d (eQV κ gC post) 107 [(0, vR (7, l0)), (1, vI l1), (2, vI l2)] [vR (4, 5 * l0 + l2.toNatClampNeg)] M
      refine eg_dup dX7_repeatCalm_107 rfl ?_
      refine eg_getI dX7_repeatCalm_108 fl_7_136 rfl trivial (obC_4 (ixT5 hl0 g3)) ?_
      refine eg_iload_n 1 dX7_repeatCalm_111 rfl rfl ?_
      refine eg_iadd dX7_repeatCalm_112 ?_
      refine en_putI dX7_repeatCalm_113 fl_7_136 rfl rfl (obC_4 (ixT5 hl0 g3)) (fun M6 eM6 => ?_)
      have h := h M6 eM6
      refine eg_aload_n 0 dX7_repeatCalm_116 rfl rfl ?_
      refine eg_getR dX7_repeatCalm_117 fl_7_17 rfl rfl (obC_7 hl0) ?_
      show eg_W κ gC mtX7_repeatCalm d (eQV κ gC post) 120 [(0, vR (7, l0)), (1, vI l1), (2, vI l2)] [vR (41, l0)] M6
      refine eg_iload_n 2 dX7_repeatCalm_120 rfl rfl ?_
      refine eg_aaload6 dX7_repeatCalm_121 (arC_41 hl0 g3) ?_
      show eg_W κ gC mtX7_repeatCalm d (eQV κ gC post) 122 [(0, vR (7, l0)), (1, vI l1), (2, vI l2)] [vR (4, 5 * l0 + l2.toNatClampNeg)] M6
      refine eg_dup dX7_repeatCalm_122 rfl ?_
      refine eg_getI dX7_repeatCalm_123 fl_7_139 rfl trivial (obC_4 (ixT5 hl0 g3)) ?_
      refine eg_aload_n 0 dX7_repeatCalm_126 rfl rfl ?_
      refine eg_getR dX7_repeatCalm_127 fl_7_17 rfl rfl (obC_7 hl0) ?_
      show eg_W κ gC mtX7_repeatCalm d (eQV κ gC post) 130 [(0, vR (7, l0)), (1, vI l1), (2, vI l2)] [vR (41, l0), vI (M6.1 (4, 5 * l0 + l2.toNatClampNeg) 5), vR (4, 5 * l0 + l2.toNatClampNeg)] M6
      refine eg_iload_n 2 dX7_repeatCalm_130 rfl rfl ?_
      refine eg_aaload6 dX7_repeatCalm_131 (arC_41 hl0 g3) ?_
      show eg_W κ gC mtX7_repeatCalm d (eQV κ gC post) 132 [(0, vR (7, l0)), (1, vI l1), (2, vI l2)] [vR (4, 5 * l0 + l2.toNatClampNeg), vI (M6.1 (4, 5 * l0 + l2.toNatClampNeg) 5), vR (4, 5 * l0 + l2.toNatClampNeg)] M6
      refine eg_getI dX7_repeatCalm_132 fl_7_142 rfl trivial (obC_4 (ixT5 hl0 g3)) ?_
      have J : ∀ x7 : Int32, x7 = (if (¬ (M6.1 (4, 5 * l0 + l2.toNatClampNeg) 0) = 0) then (0 : Int32) else l1) → eg_W κ gC mtX7_repeatCalm d (eQV κ gC post) 143 [(0, vR (7, l0)), (1, vI l1), (2, vI l2)] [vI x7, vI (M6.1 (4, 5 * l0 + l2.toNatClampNeg) 5), vR (4, 5 * l0 + l2.toNatClampNeg)] M6 := by
        intro x7 ex7
        have h := h x7 ex7
        refine eg_iadd dX7_repeatCalm_143 ?_
        refine en_putI dX7_repeatCalm_144 fl_7_139 rfl rfl (obC_4 (ixT5 hl0 g3)) (fun M8 eM8 => ?_)
        have h := h M8 eM8
        refine en_iinc (f := fun x9 => [(2, vI x9), (0, vR (7, l0)), (1, vI l1)]) 2 dX7_repeatCalm_147 rfl rfl (by decide) rfl (fun x9 ex9 => ?_)
        have h := h x9 ex9
        refine eg_goto (tgt := 75) dX7_repeatCalm_150 rfl ?_
        refine eg_sub [1, 2, 0] rfl ?_
        exact h
      clear h
      refine eg_if_ne (tgt := 142) dX7_repeatCalm_135 rfl (fun c10 => ?_) (fun c10 => ?_)
      · refine eg_iconst dX7_repeatCalm_142 ic_0 ?_
        exact J _ (by rw [if_pos c10])
      · have c11 : ¬ (¬ (M6.1 (4, 5 * l0 + l2.toNatClampNeg) 0) = 0) := fun z => z c10
        refine eg_iload_n 1 dX7_repeatCalm_138 rfl rfl ?_
        refine eg_goto (tgt := 143) dX7_repeatCalm_139 rfl ?_
        exact J _ (by rw [if_neg c11])
theorem dX7_fillPans_0 : decode cX7_fillPans 0 = .ok (.iconst 0, 1) := by decide +kernel
theorem dX7_fillPans_1 : decode cX7_fillPans 1 = .ok (.istore_n 1, 1) := by decide +kernel
theorem dX7_fillPans_2 : decode cX7_fillPans 2 = .ok (.iload_n 1, 1) := by decide +kernel
theorem dX7_fillPans_3 : decode cX7_fillPans 3 = .ok (.aload_n 0, 1) := by decide +kernel
theorem dX7_fillPans_4 : decode cX7_fillPans 4 = .ok (.getfield 30, 3) := by decide +kernel
theorem dX7_fillPans_7 : decode cX7_fillPans 7 = .ok (.getfield 49, 3) := by decide +kernel
theorem dX7_fillPans_10 : decode cX7_fillPans 10 = .ok (.if_icmp .ge 53, 3) := by decide +kernel
theorem dX7_fillPans_13 : decode cX7_fillPans 13 = .ok (.aload_n 0, 1) := by decide +kernel
theorem dX7_fillPans_14 : decode cX7_fillPans 14 = .ok (.getfield 17, 3) := by decide +kernel
theorem dX7_fillPans_17 : decode cX7_fillPans 17 = .ok (.iload_n 1, 1) := by decide +kernel
theorem dX7_fillPans_18 : decode cX7_fillPans 18 = .ok (.aaload, 1) := by decide +kernel
theorem dX7_fillPans_19 : decode cX7_fillPans 19 = .ok (.astore_n 2, 1) := by decide +kernel
theorem dX7_fillPans_20 : decode cX7_fillPans 20 = .ok (.aload_n 2, 1) := by decide +kernel
theorem dX7_fillPans_21 : decode cX7_fillPans 21 = .ok (.getfield 105, 3) := by decide +kernel
theorem dX7_fillPans_24 : decode cX7_fillPans 24 = .ok (.iconst (-1), 1) := by decide +kernel
theorem dX7_fillPans_25 : decode cX7_fillPans 25 = .ok (.if_icmp .eq 32, 3) := by decide +kernel
theorem dX7_fillPans_28 : decode cX7_fillPans 28 = .ok (.aload_n 2, 1) := by decide +kernel
theorem dX7_fillPans_29 : decode cX7_fillPans 29 = .ok (.getfield 105, 3) := by decide +kernel
theorem dX7_fillPans_32 : decode cX7_fillPans 32 = .ok (.aload_n 0, 1) := by decide +kernel
theorem dX7_fillPans_33 : decode cX7_fillPans 33 = .ok (.getfield 36, 3) := by decide +kernel
theorem dX7_fillPans_36 : decode cX7_fillPans 36 = .ok (.if_icmp .gt 21, 3) := by decide +kernel
theorem dX7_fillPans_39 : decode cX7_fillPans 39 = .ok (.aload_n 2, 1) := by decide +kernel
theorem dX7_fillPans_40 : decode cX7_fillPans 40 = .ok (.aload_n 0, 1) := by decide +kernel
theorem dX7_fillPans_41 : decode cX7_fillPans 41 = .ok (.getfield 30, 3) := by decide +kernel
theorem dX7_fillPans_44 : decode cX7_fillPans 44 = .ok (.getfield 54, 3) := by decide +kernel
theorem dX7_fillPans_47 : decode cX7_fillPans 47 = .ok (.iload_n 1, 1) := by decide +kernel
theorem dX7_fillPans_48 : decode cX7_fillPans 48 = .ok (.aaload, 1) := by decide +kernel
theorem dX7_fillPans_49 : decode cX7_fillPans 49 = .ok (.invokevirtual 143, 3) := by decide +kernel
theorem dX7_fillPans_52 : decode cX7_fillPans 52 = .ok (.aload_n 2, 1) := by decide +kernel
theorem dX7_fillPans_53 : decode cX7_fillPans 53 = .ok (.iconst (-1), 1) := by decide +kernel
theorem dX7_fillPans_54 : decode cX7_fillPans 54 = .ok (.putfield 105, 3) := by decide +kernel
theorem dX7_fillPans_57 : decode cX7_fillPans 57 = .ok (.iinc 1 1, 3) := by decide +kernel
theorem dX7_fillPans_60 : decode cX7_fillPans 60 = .ok (.goto (-58), 3) := by decide +kernel
theorem dX7_fillPans_63 : decode cX7_fillPans 63 = .ok (.return_, 1) := by decide +kernel
set_option maxRecDepth 10000 in
theorem vX7_fillPans_0 {κ : eg_K} {d : Nat} {post : eg_H → Prop} (M : eg_H) {l0 : Nat} (hl0 : l0 < 4) (h : eg_W κ gC mtX7_fillPans d (eQV κ gC post) 2 [(0, vR (7, l0)), (1, vI (0 : Int32))] [] M) : eg_W κ gC mtX7_fillPans d (eQV κ gC post) 0 [(0, vR (7, l0))] [] M := by
  refine eg_iconst dX7_fillPans_0 ic_0 ?_
  refine eg_istore_n dX7_fillPans_1 rfl (by decide) (ls1 := [(1, vI (0 : Int32)), (0, vR (7, l0))]) rfl ?_
  refine eg_sub [1, 0] rfl ?_
  exact h
set_option maxRecDepth 10000 in
theorem vX7_fillPans_2 {κ : eg_K} {d : Nat} (hd : 1 ≤ d) {post : eg_H → Prop} (M : eg_H) {l0 : Nat} (hl0 : l0 < 4) (l1 : Int32) (h : (∃ p1 : Nat, p1 < 2 ∧ M.2.2 (7, l0) 0 = (5, p1) ∧ ((M.1 (5, p1) 0) ≤ l1 → post M) ∧ ((¬ (M.1 (5, p1) 0) ≤ l1) → (vp_in l1 5 ∧ ((M.1 (4, 5 * l0 + l1.toNatClampNeg) 2) = (-1 : Int32) → (∀ x5 : Int32, x5 = (l1 + (1 : Int32)) → eg_W κ gC mtX7_fillPans d (eQV κ gC post) 2 [(0, vR (7, l0)), (1, vI x5)] [] M)) ∧ ((¬ (M.1 (4, 5 * l0 + l1.toNatClampNeg) 2) = (-1 : Int32)) → ((M.1 (7, l0) 1) < (M.1 (4, 5 * l0 + l1.toNatClampNeg) 2) → (∀ x7 : Int32, x7 = (l1 + (1 : Int32)) → eg_W κ gC mtX7_fillPans d (eQV κ gC post) 2 [(0, vR (7, l0)), (1, vI x7)] [] M)) ∧ ((¬ (M.1 (7, l0) 1) < (M.1 (4, 5 * l0 + l1.toNatClampNeg) 2)) → (∀ M8 : eg_H, M8 = (fX4_addPan M (5 * l0 + l1.toNatClampNeg) (5 * p1 + l1.toNatClampNeg)) → (∀ M10 : eg_H, M10 = (sI M8 (4, 5 * l0 + l1.toNatClampNeg) 2 (-1 : Int32)) → (∀ x11 : Int32, x11 = (l1 + (1 : Int32)) → eg_W κ gC mtX7_fillPans d (eQV κ gC post) 2 [(0, vR (7, l0)), (1, vI x11)] [] M10))))))))) : eg_W κ gC mtX7_fillPans d (eQV κ gC post) 2 [(0, vR (7, l0)), (1, vI l1)] [] M := by
  refine eg_iload_n 1 dX7_fillPans_2 rfl rfl ?_
  refine eg_aload_n 0 dX7_fillPans_3 rfl rfl ?_
  refine eg_getD dX7_fillPans_4 fl_7_30 rfl rfl (obC_7 hl0) ?_
  obtain ⟨p1, hp1, ep1, h⟩ := h
  rw [ep1]
  refine eg_getI dX7_fillPans_7 fl_7_49 rfl trivial (obC_5 hp1) ?_
  refine eg_icmp_ge (tgt := 63) dX7_fillPans_10 rfl (fun c2 => ?_) (fun c2 => ?_)
  · have h := h.1 c2
    exact eg_vreturn dX7_fillPans_63 rfl h
  · have h := h.2 c2
    refine eg_aload_n 0 dX7_fillPans_13 rfl rfl ?_
    refine eg_getR dX7_fillPans_14 fl_7_17 rfl rfl (obC_7 hl0) ?_
    show eg_W κ gC mtX7_fillPans d (eQV κ gC post) 17 [(0, vR (7, l0)), (1, vI l1)] [vR (41, l0)] M
    refine eg_iload_n 1 dX7_fillPans_17 rfl rfl ?_
    obtain ⟨g3, h⟩ := h
    refine eg_aaload6 dX7_fillPans_18 (arC_41 hl0 g3) ?_
    show eg_W κ gC mtX7_fillPans d (eQV κ gC post) 19 [(0, vR (7, l0)), (1, vI l1)] [vR (4, 5 * l0 + l1.toNatClampNeg)] M
    refine eg_astore_n dX7_fillPans_19 rfl (by decide) (ls1 := [(2, vR (4, 5 * l0 + l1.toNatClampNeg)), (0, vR (7, l0)), (1, vI l1)]) rfl ?_
    refine eg_aload_n 0 dX7_fillPans_20 rfl rfl ?_
    refine eg_getI dX7_fillPans_21 fl_7_105 rfl trivial (obC_4 (ixT5 hl0 g3)) ?_
    refine eg_iconst dX7_fillPans_24 ic_m1 ?_
    refine eg_icmp_eq (tgt := 57) dX7_fillPans_25 rfl (fun c4 => ?_) (fun c4 => ?_)
    · have h := h.1 c4
      refine en_iinc (f := fun x5 => [(1, vI x5), (2, vR (4, 5 * l0 + l1.toNatClampNeg)), (0, vR (7, l0))]) 2 dX7_fillPans_57 rfl rfl (by decide) rfl (fun x5 ex5 => ?_)
      have h := h x5 ex5
      refine eg_goto (tgt := 2) dX7_fillPans_60 rfl ?_
      refine eg_sub [2, 0] rfl ?_
      exact h
    · have h := h.2 c4
      refine eg_aload_n 0 dX7_fillPans_28 rfl rfl ?_
      refine eg_getI dX7_fillPans_29 fl_7_105 rfl trivial (obC_4 (ixT5 hl0 g3)) ?_
      refine eg_aload_n 1 dX7_fillPans_32 rfl rfl ?_
      refine eg_getI dX7_fillPans_33 fl_7_36 rfl trivial (obC_7 hl0) ?_
      refine eg_icmp_gt (tgt := 57) dX7_fillPans_36 rfl (fun c6 => ?_) (fun c6 => ?_)
      · have h := h.1 c6
        refine en_iinc (f := fun x7 => [(1, vI x7), (2, vR (4, 5 * l0 + l1.toNatClampNeg)), (0, vR (7, l0))]) 2 dX7_fillPans_57 rfl rfl (by decide) rfl (fun x7 ex7 => ?_)
        have h := h x7 ex7
        refine eg_goto (tgt := 2) dX7_fillPans_60 rfl ?_
        refine eg_sub [2, 0] rfl ?_
        exact h
      · have h := h.2 c6
        refine eg_aload_n 0 dX7_fillPans_39 rfl rfl ?_
        refine eg_aload_n 1 dX7_fillPans_40 rfl rfl ?_
        refine eg_getD dX7_fillPans_41 fl_7_30 rfl rfl (obC_7 hl0) ?_
        rw [ep1]
        refine eg_getR dX7_fillPans_44 fl_7_54 rfl rfl (obC_5 hp1) ?_
        show eg_W κ gC mtX7_fillPans d (eQV κ gC post) 47 [(2, vR (4, 5 * l0 + l1.toNatClampNeg)), (0, vR (7, l0)), (1, vI l1)] [vR (30, p1), vR (4, 5 * l0 + l1.toNatClampNeg)] M
        refine eg_iload_n 2 dX7_fillPans_47 rfl rfl ?_
        refine eg_aaload4 dX7_fillPans_48 (arC_30 hp1 g3) ?_
        show eg_W κ gC mtX7_fillPans d (eQV κ gC post) 49 [(2, vR (4, 5 * l0 + l1.toNatClampNeg)), (0, vR (7, l0)), (1, vI l1)] [vR (1, 5 * p1 + l1.toNatClampNeg), vR (4, 5 * l0 + l1.toNatClampNeg)] M
        refine eg_callVV (av := [vR (1, 5 * p1 + l1.toNatClampNeg)]) (st := []) dX7_fillPans_49 ml_7_143 rfl rfl (obC_4 (ixT5 hl0 g3)) (by decide) rfl (Nat.le_of_ble_eq_true rfl) (eg_dd (by omega)) (sX4_addPan (by omega) M (5 * l0 + l1.toNatClampNeg) (5 * p1 + l1.toNatClampNeg) (ixT5 hl0 g3) (ixP5 hp1 g3) ) (fun M8 eM8 => ?_)
        have h := h M8 eM8
        refine eg_aload_n 0 dX7_fillPans_52 rfl rfl ?_
        refine eg_iconst dX7_fillPans_53 ic_m1 ?_
        refine en_putI dX7_fillPans_54 fl_7_105 rfl rfl (obC_4 (ixT5 hl0 g3)) (fun M10 eM10 => ?_)
        have h := h M10 eM10
        refine en_iinc (f := fun x11 => [(1, vI x11), (2, vR (4, 5 * l0 + l1.toNatClampNeg)), (0, vR (7, l0))]) 2 dX7_fillPans_57 rfl rfl (by decide) rfl (fun x11 ex11 => ?_)
        have h := h x11 ex11
        refine eg_goto (tgt := 2) dX7_fillPans_60 rfl ?_
        refine eg_sub [2, 0] rfl ?_
        exact h
theorem dX7_admitGuests_0 : decode cX7_admitGuests 0 = .ok (.iconst 0, 1) := by decide +kernel
theorem dX7_admitGuests_1 : decode cX7_admitGuests 1 = .ok (.istore_n 1, 1) := by decide +kernel
theorem dX7_admitGuests_2 : decode cX7_admitGuests 2 = .ok (.iload_n 1, 1) := by decide +kernel
theorem dX7_admitGuests_3 : decode cX7_admitGuests 3 = .ok (.aload_n 0, 1) := by decide +kernel
theorem dX7_admitGuests_4 : decode cX7_admitGuests 4 = .ok (.getfield 30, 3) := by decide +kernel
theorem dX7_admitGuests_7 : decode cX7_admitGuests 7 = .ok (.getfield 62, 3) := by decide +kernel
theorem dX7_admitGuests_10 : decode cX7_admitGuests 10 = .ok (.if_icmp .ge 140, 3) := by decide +kernel
theorem dX7_admitGuests_13 : decode cX7_admitGuests 13 = .ok (.aload_n 0, 1) := by decide +kernel
theorem dX7_admitGuests_14 : decode cX7_admitGuests 14 = .ok (.getfield 23, 3) := by decide +kernel
theorem dX7_admitGuests_17 : decode cX7_admitGuests 17 = .ok (.iload_n 1, 1) := by decide +kernel
theorem dX7_admitGuests_18 : decode cX7_admitGuests 18 = .ok (.aaload, 1) := by decide +kernel
theorem dX7_admitGuests_19 : decode cX7_admitGuests 19 = .ok (.astore_n 2, 1) := by decide +kernel
theorem dX7_admitGuests_20 : decode cX7_admitGuests 20 = .ok (.aload_n 2, 1) := by decide +kernel
theorem dX7_admitGuests_21 : decode cX7_admitGuests 21 = .ok (.getfield 114, 3) := by decide +kernel
theorem dX7_admitGuests_24 : decode cX7_admitGuests 24 = .ok (.ifCond .ne 26, 3) := by decide +kernel
theorem dX7_admitGuests_27 : decode cX7_admitGuests 27 = .ok (.aload_n 0, 1) := by decide +kernel
theorem dX7_admitGuests_28 : decode cX7_admitGuests 28 = .ok (.getfield 30, 3) := by decide +kernel
theorem dX7_admitGuests_31 : decode cX7_admitGuests 31 = .ok (.getfield 64, 3) := by decide +kernel
theorem dX7_admitGuests_34 : decode cX7_admitGuests 34 = .ok (.iload_n 1, 1) := by decide +kernel
theorem dX7_admitGuests_35 : decode cX7_admitGuests 35 = .ok (.aaload, 1) := by decide +kernel
theorem dX7_admitGuests_36 : decode cX7_admitGuests 36 = .ok (.getfield 117, 3) := by decide +kernel
theorem dX7_admitGuests_39 : decode cX7_admitGuests 39 = .ok (.aload_n 0, 1) := by decide +kernel
theorem dX7_admitGuests_40 : decode cX7_admitGuests 40 = .ok (.getfield 36, 3) := by decide +kernel
theorem dX7_admitGuests_43 : decode cX7_admitGuests 43 = .ok (.if_icmp .ne 7, 3) := by decide +kernel
theorem dX7_admitGuests_46 : decode cX7_admitGuests 46 = .ok (.iconst 1, 1) := by decide +kernel
theorem dX7_admitGuests_47 : decode cX7_admitGuests 47 = .ok (.goto 4, 3) := by decide +kernel
theorem dX7_admitGuests_50 : decode cX7_admitGuests 50 = .ok (.iconst 0, 1) := by decide +kernel
theorem dX7_admitGuests_51 : decode cX7_admitGuests 51 = .ok (.istore_n 3, 1) := by decide +kernel
theorem dX7_admitGuests_52 : decode cX7_admitGuests 52 = .ok (.aload_n 2, 1) := by decide +kernel
theorem dX7_admitGuests_53 : decode cX7_admitGuests 53 = .ok (.getfield 114, 3) := by decide +kernel
theorem dX7_admitGuests_56 : decode cX7_admitGuests 56 = .ok (.iconst 2, 1) := by decide +kernel
theorem dX7_admitGuests_57 : decode cX7_admitGuests 57 = .ok (.if_icmp .ne 18, 3) := by decide +kernel
theorem dX7_admitGuests_60 : decode cX7_admitGuests 60 = .ok (.aload_n 2, 1) := by decide +kernel
theorem dX7_admitGuests_61 : decode cX7_admitGuests 61 = .ok (.getfield 122, 3) := by decide +kernel
theorem dX7_admitGuests_64 : decode cX7_admitGuests 64 = .ok (.aload_n 0, 1) := by decide +kernel
theorem dX7_admitGuests_65 : decode cX7_admitGuests 65 = .ok (.getfield 36, 3) := by decide +kernel
theorem dX7_admitGuests_68 : decode cX7_admitGuests 68 = .ok (.if_icmp .ne 7, 3) := by decide +kernel
theorem dX7_admitGuests_71 : decode cX7_admitGuests 71 = .ok (.iconst 1, 1) := by decide +kernel
theorem dX7_admitGuests_72 : decode cX7_admitGuests 72 = .ok (.goto 4, 3) := by decide +kernel
theorem dX7_admitGuests_75 : decode cX7_admitGuests 75 = .ok (.iconst 0, 1) := by decide +kernel
theorem dX7_admitGuests_76 : decode cX7_admitGuests 76 = .ok (.istore 4, 2) := by decide +kernel
theorem dX7_admitGuests_78 : decode cX7_admitGuests 78 = .ok (.iload_n 3, 1) := by decide +kernel
theorem dX7_admitGuests_79 : decode cX7_admitGuests 79 = .ok (.ifCond .ne 8, 3) := by decide +kernel
theorem dX7_admitGuests_82 : decode cX7_admitGuests 82 = .ok (.iload 4, 2) := by decide +kernel
theorem dX7_admitGuests_84 : decode cX7_admitGuests 84 = .ok (.ifCond .eq 60, 3) := by decide +kernel
theorem dX7_admitGuests_87 : decode cX7_admitGuests 87 = .ok (.aload_n 0, 1) := by decide +kernel
theorem dX7_admitGuests_88 : decode cX7_admitGuests 88 = .ok (.getfield 40, 3) := by decide +kernel
theorem dX7_admitGuests_91 : decode cX7_admitGuests 91 = .ok (.bipush 15, 2) := by decide +kernel
theorem dX7_admitGuests_93 : decode cX7_admitGuests 93 = .ok (.if_icmp .ge 51, 3) := by decide +kernel
theorem dX7_admitGuests_96 : decode cX7_admitGuests 96 = .ok (.aload_n 2, 1) := by decide +kernel
theorem dX7_admitGuests_97 : decode cX7_admitGuests 97 = .ok (.iconst 1, 1) := by decide +kernel
theorem dX7_admitGuests_98 : decode cX7_admitGuests 98 = .ok (.putfield 114, 3) := by decide +kernel
theorem dX7_admitGuests_101 : decode cX7_admitGuests 101 = .ok (.aload_n 2, 1) := by decide +kernel
theorem dX7_admitGuests_102 : decode cX7_admitGuests 102 = .ok (.dup, 1) := by decide +kernel
theorem dX7_admitGuests_103 : decode cX7_admitGuests 103 = .ok (.getfield 146, 3) := by decide +kernel
theorem dX7_admitGuests_106 : decode cX7_admitGuests 106 = .ok (.iconst 1, 1) := by decide +kernel
theorem dX7_admitGuests_107 : decode cX7_admitGuests 107 = .ok (.iadd, 1) := by decide +kernel
theorem dX7_admitGuests_108 : decode cX7_admitGuests 108 = .ok (.putfield 146, 3) := by decide +kernel
theorem dX7_admitGuests_111 : decode cX7_admitGuests 111 = .ok (.aload_n 2, 1) := by decide +kernel
theorem dX7_admitGuests_112 : decode cX7_admitGuests 112 = .ok (.aload_n 0, 1) := by decide +kernel
theorem dX7_admitGuests_113 : decode cX7_admitGuests 113 = .ok (.getfield 30, 3) := by decide +kernel
theorem dX7_admitGuests_116 : decode cX7_admitGuests 116 = .ok (.getfield 64, 3) := by decide +kernel
theorem dX7_admitGuests_119 : decode cX7_admitGuests 119 = .ok (.iload_n 1, 1) := by decide +kernel
theorem dX7_admitGuests_120 : decode cX7_admitGuests 120 = .ok (.aaload, 1) := by decide +kernel
theorem dX7_admitGuests_121 : decode cX7_admitGuests 121 = .ok (.invokevirtual 149, 3) := by decide +kernel
theorem dX7_admitGuests_124 : decode cX7_admitGuests 124 = .ok (.aload_n 0, 1) := by decide +kernel
theorem dX7_admitGuests_125 : decode cX7_admitGuests 125 = .ok (.getfield 27, 3) := by decide +kernel
theorem dX7_admitGuests_128 : decode cX7_admitGuests 128 = .ok (.aload_n 0, 1) := by decide +kernel
theorem dX7_admitGuests_129 : decode cX7_admitGuests 129 = .ok (.getfield 40, 3) := by decide +kernel
theorem dX7_admitGuests_132 : decode cX7_admitGuests 132 = .ok (.iload_n 1, 1) := by decide +kernel
theorem dX7_admitGuests_133 : decode cX7_admitGuests 133 = .ok (.iastore, 1) := by decide +kernel
theorem dX7_admitGuests_134 : decode cX7_admitGuests 134 = .ok (.aload_n 0, 1) := by decide +kernel
theorem dX7_admitGuests_135 : decode cX7_admitGuests 135 = .ok (.dup, 1) := by decide +kernel
theorem dX7_admitGuests_136 : decode cX7_admitGuests 136 = .ok (.getfield 40, 3) := by decide +kernel
theorem dX7_admitGuests_139 : decode cX7_admitGuests 139 = .ok (.iconst 1, 1) := by decide +kernel
theorem dX7_admitGuests_140 : decode cX7_admitGuests 140 = .ok (.iadd, 1) := by decide +kernel
theorem dX7_admitGuests_141 : decode cX7_admitGuests 141 = .ok (.putfield 40, 3) := by decide +kernel
theorem dX7_admitGuests_144 : decode cX7_admitGuests 144 = .ok (.iinc 1 1, 3) := by decide +kernel
theorem dX7_admitGuests_147 : decode cX7_admitGuests 147 = .ok (.goto (-145), 3) := by decide +kernel
theorem dX7_admitGuests_150 : decode cX7_admitGuests 150 = .ok (.return_, 1) := by decide +kernel
set_option maxRecDepth 10000 in
theorem vX7_admitGuests_0 {κ : eg_K} {d : Nat} {post : eg_H → Prop} (M : eg_H) {l0 : Nat} (hl0 : l0 < 4) (h : eg_W κ gC mtX7_admitGuests d (eQV κ gC post) 2 [(0, vR (7, l0)), (1, vI (0 : Int32))] [] M) : eg_W κ gC mtX7_admitGuests d (eQV κ gC post) 0 [(0, vR (7, l0))] [] M := by
  refine eg_iconst dX7_admitGuests_0 ic_0 ?_
  refine eg_istore_n dX7_admitGuests_1 rfl (by decide) (ls1 := [(1, vI (0 : Int32)), (0, vR (7, l0))]) rfl ?_
  refine eg_sub [1, 0] rfl ?_
  exact h
set_option maxRecDepth 10000 in
theorem vX7_admitGuests_2 {κ : eg_K} {d : Nat} {post : eg_H → Prop} (M : eg_H) {l0 : Nat} (hl0 : l0 < 4) (l1 : Int32) (h : (∃ p1 : Nat, p1 < 2 ∧ M.2.2 (7, l0) 0 = (5, p1) ∧ ((M.1 (5, p1) 2) ≤ l1 → post M) ∧ ((¬ (M.1 (5, p1) 2) ≤ l1) → (vp_in l1 15 ∧ ((¬ (M.1 (2, 15 * l0 + l1.toNatClampNeg) 0) = 0) → eg_W κ gC mtX7_admitGuests d (eQV κ gC post) 51 [(0, vR (7, l0)), (1, vI l1), (2, vR (2, 15 * l0 + l1.toNatClampNeg))] [vI (0 : Int32)] M) ∧ ((M.1 (2, 15 * l0 + l1.toNatClampNeg) 0) = 0 → (∀ x5 : Int32, x5 = ((if (¬ (M.1 (0, 15 * p1 + l1.toNatClampNeg) 1) = (M.1 (7, l0) 1)) then (0 : Int32) else (1 : Int32))) → eg_W κ gC mtX7_admitGuests d (eQV κ gC post) 51 [(0, vR (7, l0)), (1, vI l1), (2, vR (2, 15 * l0 + l1.toNatClampNeg))] [vI x5] M)))))) : eg_W κ gC mtX7_admitGuests d (eQV κ gC post) 2 [(0, vR (7, l0)), (1, vI l1)] [] M := by
  refine eg_iload_n 1 dX7_admitGuests_2 rfl rfl ?_
  refine eg_aload_n 0 dX7_admitGuests_3 rfl rfl ?_
  refine eg_getD dX7_admitGuests_4 fl_7_30 rfl rfl (obC_7 hl0) ?_
  obtain ⟨p1, hp1, ep1, h⟩ := h
  rw [ep1]
  refine eg_getI dX7_admitGuests_7 fl_7_62 rfl trivial (obC_5 hp1) ?_
  refine eg_icmp_ge (tgt := 150) dX7_admitGuests_10 rfl (fun c2 => ?_) (fun c2 => ?_)
  · have h := h.1 c2
    exact eg_vreturn dX7_admitGuests_150 rfl h
  · have h := h.2 c2
    refine eg_aload_n 0 dX7_admitGuests_13 rfl rfl ?_
    refine eg_getR dX7_admitGuests_14 fl_7_23 rfl rfl (obC_7 hl0) ?_
    show eg_W κ gC mtX7_admitGuests d (eQV κ gC post) 17 [(0, vR (7, l0)), (1, vI l1)] [vR (42, l0)] M
    refine eg_iload_n 1 dX7_admitGuests_17 rfl rfl ?_
    obtain ⟨g3, h⟩ := h
    refine eg_aaload7 dX7_admitGuests_18 (arC_42 hl0 g3) ?_
    show eg_W κ gC mtX7_admitGuests d (eQV κ gC post) 19 [(0, vR (7, l0)), (1, vI l1)] [vR (2, 15 * l0 + l1.toNatClampNeg)] M
    refine eg_astore_n dX7_admitGuests_19 rfl (by decide) (ls1 := [(2, vR (2, 15 * l0 + l1.toNatClampNeg)), (0, vR (7, l0)), (1, vI l1)]) rfl ?_
    refine eg_aload_n 0 dX7_admitGuests_20 rfl rfl ?_
    refine eg_getI dX7_admitGuests_21 fl_7_114 rfl trivial (obC_2 (ixT15 hl0 g3)) ?_
    refine eg_if_ne (tgt := 50) dX7_admitGuests_24 rfl (fun c4 => ?_) (fun c4 => ?_)
    · have h := h.1 c4
      refine eg_iconst dX7_admitGuests_50 ic_0 ?_
      refine eg_sub [1, 2, 0] rfl ?_
      exact h
    · have h := h.2 c4
      refine eg_aload_n 1 dX7_admitGuests_27 rfl rfl ?_
      refine eg_getD dX7_admitGuests_28 fl_7_30 rfl rfl (obC_7 hl0) ?_
      rw [ep1]
      refine eg_getR dX7_admitGuests_31 fl_7_64 rfl rfl (obC_5 hp1) ?_
      show eg_W κ gC mtX7_admitGuests d (eQV κ gC post) 34 [(2, vR (2, 15 * l0 + l1.toNatClampNeg)), (0, vR (7, l0)), (1, vI l1)] [vR (31, p1)] M
      refine eg_iload_n 2 dX7_admitGuests_34 rfl rfl ?_
      refine eg_aaload5 dX7_admitGuests_35 (arC_31 hp1 g3) ?_
      show eg_W κ gC mtX7_admitGuests d (eQV κ gC post) 36 [(2, vR (2, 15 * l0 + l1.toNatClampNeg)), (0, vR (7, l0)), (1, vI l1)] [vR (0, 15 * p1 + l1.toNatClampNeg)] M
      refine eg_getI dX7_admitGuests_36 fl_7_117 rfl trivial (obC_0 (ixP15 hp1 g3)) ?_
      refine eg_aload_n 1 dX7_admitGuests_39 rfl rfl ?_
      refine eg_getI dX7_admitGuests_40 fl_7_36 rfl trivial (obC_7 hl0) ?_
      have J : ∀ x5 : Int32, x5 = (if (¬ (M.1 (0, 15 * p1 + l1.toNatClampNeg) 1) = (M.1 (7, l0) 1)) then (0 : Int32) else (1 : Int32)) → eg_W κ gC mtX7_admitGuests d (eQV κ gC post) 51 [(2, vR (2, 15 * l0 + l1.toNatClampNeg)), (0, vR (7, l0)), (1, vI l1)] [vI x5] M := by
        intro x5 ex5
        have h := h x5 ex5
        refine eg_sub [1, 2, 0] rfl ?_
        exact h
      clear h
      refine eg_icmp_ne (tgt := 50) dX7_admitGuests_43 rfl (fun c6 => ?_) (fun c6 => ?_)
      · refine eg_iconst dX7_admitGuests_50 ic_0 ?_
        exact J _ (by rw [if_pos c6])
      · have c7 : ¬ (¬ (M.1 (0, 15 * p1 + l1.toNatClampNeg) 1) = (M.1 (7, l0) 1)) := fun z => z c6
        refine eg_iconst dX7_admitGuests_46 ic_1 ?_
        refine eg_goto (tgt := 51) dX7_admitGuests_47 rfl ?_
        exact J _ (by rw [if_neg c7])
set_option maxRecDepth 10000 in
theorem vX7_admitGuests_51 {κ : eg_K} {d : Nat} {post : eg_H → Prop} (M : eg_H) {l0 : Nat} (hl0 : l0 < 4) (l1 : Int32) {l2 : Nat} (hl2 : l2 < 60) (s0 : Int32) (h : (∀ x1 : Int32, x1 = ((if (¬ (M.1 (2, l2) 0) = (2 : Int32)) then (0 : Int32) else (if (¬ (M.1 (2, l2) 6) = (M.1 (7, l0) 1)) then (0 : Int32) else (1 : Int32)))) → ((¬ s0 = 0) → eg_W κ gC mtX7_admitGuests d (eQV κ gC post) 87 [(0, vR (7, l0)), (1, vI l1), (2, vR (2, l2))] [] M) ∧ (s0 = 0 → (x1 = 0 → (∀ x4 : Int32, x4 = (l1 + (1 : Int32)) → eg_W κ gC mtX7_admitGuests d (eQV κ gC post) 2 [(0, vR (7, l0)), (1, vI x4)] [] M)) ∧ ((¬ x1 = 0) → eg_W κ gC mtX7_admitGuests d (eQV κ gC post) 87 [(0, vR (7, l0)), (1, vI l1), (2, vR (2, l2))] [] M)))) : eg_W κ gC mtX7_admitGuests d (eQV κ gC post) 51 [(0, vR (7, l0)), (1, vI l1), (2, vR (2, l2))] [vI s0] M := by
  refine eg_istore_n dX7_admitGuests_51 rfl (by decide) (ls1 := [(3, vI s0), (0, vR (7, l0)), (1, vI l1), (2, vR (2, l2))]) rfl ?_
  refine eg_aload_n 3 dX7_admitGuests_52 rfl rfl ?_
  refine eg_getI dX7_admitGuests_53 fl_7_114 rfl trivial (obC_2 hl2) ?_
  refine eg_iconst dX7_admitGuests_56 ic_2 ?_
  have J : ∀ x1 : Int32, x1 = (if (¬ (M.1 (2, l2) 0) = (2 : Int32)) then (0 : Int32) else (if (¬ (M.1 (2, l2) 6) = (M.1 (7, l0) 1)) then (0 : Int32) else (1 : Int32))) → eg_W κ gC mtX7_admitGuests d (eQV κ gC post) 76 [(3, vI s0), (0, vR (7, l0)), (1, vI l1), (2, vR (2, l2))] [vI x1] M := by
    intro x1 ex1
    have h := h x1 ex1
    refine eg_istore dX7_admitGuests_76 (by decide) (ls1 := [(4, vI x1), (3, vI s0), (0, vR (7, l0)), (1, vI l1), (2, vR (2, l2))]) rfl ?_
    refine eg_iload_n 1 dX7_admitGuests_78 rfl rfl ?_
    refine eg_if_ne (tgt := 87) dX7_admitGuests_79 rfl (fun c2 => ?_) (fun c2 => ?_)
    · have h := h.1 c2
      refine eg_sub [2, 3, 4] rfl ?_
      exact h
    · have h := h.2 c2
      refine eg_iload 0 dX7_admitGuests_82 rfl ?_
      refine eg_if_eq (tgt := 144) dX7_admitGuests_84 rfl (fun c3 => ?_) (fun c3 => ?_)
      · have h := h.1 c3
        refine en_iinc (f := fun x4 => [(1, vI x4), (4, vI x1), (3, vI s0), (0, vR (7, l0)), (2, vR (2, l2))]) 3 dX7_admitGuests_144 rfl rfl (by decide) rfl (fun x4 ex4 => ?_)
        have h := h x4 ex4
        refine eg_goto (tgt := 2) dX7_admitGuests_147 rfl ?_
        refine eg_sub [3, 0] rfl ?_
        exact h
      · have h := h.2 c3
        refine eg_sub [2, 3, 4] rfl ?_
        exact h
  clear h
  refine eg_icmp_ne (tgt := 75) dX7_admitGuests_57 rfl (fun c5 => ?_) (fun c5 => ?_)
  · refine eg_iconst dX7_admitGuests_75 ic_0 ?_
    exact J _ (by rw [if_pos c5])
  · have c6 : ¬ (¬ (M.1 (2, l2) 0) = (2 : Int32)) := fun z => z c5
    refine eg_aload_n 3 dX7_admitGuests_60 rfl rfl ?_
    refine eg_getI dX7_admitGuests_61 fl_7_122 rfl trivial (obC_2 hl2) ?_
    refine eg_aload_n 1 dX7_admitGuests_64 rfl rfl ?_
    refine eg_getI dX7_admitGuests_65 fl_7_36 rfl trivial (obC_7 hl0) ?_
    refine eg_icmp_ne (tgt := 75) dX7_admitGuests_68 rfl (fun c7 => ?_) (fun c7 => ?_)
    · refine eg_iconst dX7_admitGuests_75 ic_0 ?_
      exact J _ (by rw [if_neg c6, if_pos c7])
    · have c8 : ¬ (¬ (M.1 (2, l2) 6) = (M.1 (7, l0) 1)) := fun z => z c7
      refine eg_iconst dX7_admitGuests_71 ic_1 ?_
      refine eg_goto (tgt := 76) dX7_admitGuests_72 rfl ?_
      exact J _ (by rw [if_neg c6, if_neg c8])
set_option maxRecDepth 10000 in
theorem vX7_admitGuests_87 {κ : eg_K} {d : Nat} (hd : 1 ≤ d) {post : eg_H → Prop} (M : eg_H) {l0 : Nat} (hl0 : l0 < 4) (l1 : Int32) {l2 : Nat} (hl2 : l2 < 60) (h : ((15 : Int32) ≤ (M.1 (7, l0) 6) → (∀ x2 : Int32, x2 = (l1 + (1 : Int32)) → eg_W κ gC mtX7_admitGuests d (eQV κ gC post) 2 [(0, vR (7, l0)), (1, vI x2)] [] M)) ∧ ((¬ (15 : Int32) ≤ (M.1 (7, l0) 6)) → (∀ M3 : eg_H, M3 = (sI M (2, l2) 0 (1 : Int32)) → (∀ M4 : eg_H, M4 = (sI M3 (2, l2) 12 ((M3.1 (2, l2) 12) + (1 : Int32))) → (∃ p5 : Nat, p5 < 2 ∧ M4.2.2 (7, l0) 0 = (5, p5) ∧ (vp_in l1 15 ∧ (∀ M7 : eg_H, M7 = (fX2_clearPlate M4 l2 (15 * p5 + l1.toNatClampNeg)) → (vp_in (M7.1 (7, l0) 6) 15 ∧ (∀ M10 : eg_H, M10 = (sI M7 (43, l0) (M7.1 (7, l0) 6).toNatClampNeg l1) → (∀ M11 : eg_H, M11 = (sI M10 (7, l0) 6 ((M10.1 (7, l0) 6) + (1 : Int32))) → (∀ x12 : Int32, x12 = (l1 + (1 : Int32)) → eg_W κ gC mtX7_admitGuests d (eQV κ gC post) 2 [(0, vR (7, l0)), (1, vI x12)] [] M11))))))))))) : eg_W κ gC mtX7_admitGuests d (eQV κ gC post) 87 [(0, vR (7, l0)), (1, vI l1), (2, vR (2, l2))] [] M := by
  refine eg_aload_n 0 dX7_admitGuests_87 rfl rfl ?_
  refine eg_getI dX7_admitGuests_88 fl_7_40 rfl trivial (obC_7 hl0) ?_
  refine eg_bipush dX7_admitGuests_91 bp_15 ?_
  refine eg_icmp_ge (tgt := 144) dX7_admitGuests_93 rfl (fun c1 => ?_) (fun c1 => ?_)
  · have h := h.1 c1
    refine en_iinc (f := fun x2 => [(1, vI x2), (0, vR (7, l0)), (2, vR (2, l2))]) 1 dX7_admitGuests_144 rfl rfl (by decide) rfl (fun x2 ex2 => ?_)
    have h := h x2 ex2
    refine eg_goto (tgt := 2) dX7_admitGuests_147 rfl ?_
    refine eg_sub [1, 0] rfl ?_
    exact h
  · have h := h.2 c1
    refine eg_aload_n 2 dX7_admitGuests_96 rfl rfl ?_
    refine eg_iconst dX7_admitGuests_97 ic_1 ?_
    refine en_putI dX7_admitGuests_98 fl_7_114 rfl rfl (obC_2 hl2) (fun M3 eM3 => ?_)
    have h := h M3 eM3
    refine eg_aload_n 2 dX7_admitGuests_101 rfl rfl ?_
    refine eg_dup dX7_admitGuests_102 rfl ?_
    refine eg_getI dX7_admitGuests_103 fl_7_146 rfl trivial (obC_2 hl2) ?_
    refine eg_iconst dX7_admitGuests_106 ic_1 ?_
    refine eg_iadd dX7_admitGuests_107 ?_
    refine en_putI dX7_admitGuests_108 fl_7_146 rfl rfl (obC_2 hl2) (fun M4 eM4 => ?_)
    have h := h M4 eM4
    refine eg_aload_n 2 dX7_admitGuests_111 rfl rfl ?_
    refine eg_aload_n 0 dX7_admitGuests_112 rfl rfl ?_
    refine eg_getD dX7_admitGuests_113 fl_7_30 rfl rfl (obC_7 hl0) ?_
    obtain ⟨p5, hp5, ep5, h⟩ := h
    rw [ep5]
    refine eg_getR dX7_admitGuests_116 fl_7_64 rfl rfl (obC_5 hp5) ?_
    show eg_W κ gC mtX7_admitGuests d (eQV κ gC post) 119 [(0, vR (7, l0)), (1, vI l1), (2, vR (2, l2))] [vR (31, p5), vR (2, l2)] M4
    refine eg_iload_n 1 dX7_admitGuests_119 rfl rfl ?_
    obtain ⟨g6, h⟩ := h
    refine eg_aaload5 dX7_admitGuests_120 (arC_31 hp5 g6) ?_
    show eg_W κ gC mtX7_admitGuests d (eQV κ gC post) 121 [(0, vR (7, l0)), (1, vI l1), (2, vR (2, l2))] [vR (0, 15 * p5 + l1.toNatClampNeg), vR (2, l2)] M4
    refine eg_callVV (av := [vR (0, 15 * p5 + l1.toNatClampNeg)]) (st := []) dX7_admitGuests_121 ml_7_149 rfl rfl (obC_2 hl2) (by decide) rfl (Nat.le_of_ble_eq_true rfl) (eg_dd (by omega)) (sX2_clearPlate (by omega) M4 l2 (15 * p5 + l1.toNatClampNeg) hl2 (ixP15 hp5 g6) ) (fun M7 eM7 => ?_)
    have h := h M7 eM7
    refine eg_aload_n 0 dX7_admitGuests_124 rfl rfl ?_
    refine eg_getR dX7_admitGuests_125 fl_7_27 rfl rfl (obC_7 hl0) ?_
    show eg_W κ gC mtX7_admitGuests d (eQV κ gC post) 128 [(0, vR (7, l0)), (1, vI l1), (2, vR (2, l2))] [vR (43, l0)] M7
    refine eg_aload_n 0 dX7_admitGuests_128 rfl rfl ?_
    refine eg_getI dX7_admitGuests_129 fl_7_40 rfl trivial (obC_7 hl0) ?_
    refine eg_iload_n 1 dX7_admitGuests_132 rfl rfl ?_
    obtain ⟨g9, h⟩ := h
    refine en_iastore dX7_admitGuests_133 (arC_43 hl0 g9) (fun M10 eM10 => ?_)
    have h := h M10 eM10
    refine eg_aload_n 0 dX7_admitGuests_134 rfl rfl ?_
    refine eg_dup dX7_admitGuests_135 rfl ?_
    refine eg_getI dX7_admitGuests_136 fl_7_40 rfl trivial (obC_7 hl0) ?_
    refine eg_iconst dX7_admitGuests_139 ic_1 ?_
    refine eg_iadd dX7_admitGuests_140 ?_
    refine en_putI dX7_admitGuests_141 fl_7_40 rfl rfl (obC_7 hl0) (fun M11 eM11 => ?_)
    have h := h M11 eM11
    refine en_iinc (f := fun x12 => [(1, vI x12), (0, vR (7, l0)), (2, vR (2, l2))]) 1 dX7_admitGuests_144 rfl rfl (by decide) rfl (fun x12 ex12 => ?_)
    have h := h x12 ex12
    refine eg_goto (tgt := 2) dX7_admitGuests_147 rfl ?_
    refine eg_sub [1, 0] rfl ?_
    exact h
theorem dX7_walkAll_0 : decode cX7_walkAll 0 = .ok (.iconst 0, 1) := by decide +kernel
theorem dX7_walkAll_1 : decode cX7_walkAll 1 = .ok (.istore_n 1, 1) := by decide +kernel
theorem dX7_walkAll_2 : decode cX7_walkAll 2 = .ok (.aload_n 0, 1) := by decide +kernel
theorem dX7_walkAll_3 : decode cX7_walkAll 3 = .ok (.getfield 40, 3) := by decide +kernel
theorem dX7_walkAll_6 : decode cX7_walkAll 6 = .ok (.istore_n 2, 1) := by decide +kernel
theorem dX7_walkAll_7 : decode cX7_walkAll 7 = .ok (.iload_n 2, 1) := by decide +kernel
theorem dX7_walkAll_8 : decode cX7_walkAll 8 = .ok (.ifCond .le 55, 3) := by decide +kernel
theorem dX7_walkAll_11 : decode cX7_walkAll 11 = .ok (.iload_n 1, 1) := by decide +kernel
theorem dX7_walkAll_12 : decode cX7_walkAll 12 = .ok (.aload_n 0, 1) := by decide +kernel
theorem dX7_walkAll_13 : decode cX7_walkAll 13 = .ok (.getfield 40, 3) := by decide +kernel
theorem dX7_walkAll_16 : decode cX7_walkAll 16 = .ok (.if_icmp .ge 47, 3) := by decide +kernel
theorem dX7_walkAll_19 : decode cX7_walkAll 19 = .ok (.aload_n 0, 1) := by decide +kernel
theorem dX7_walkAll_20 : decode cX7_walkAll 20 = .ok (.getfield 23, 3) := by decide +kernel
theorem dX7_walkAll_23 : decode cX7_walkAll 23 = .ok (.aload_n 0, 1) := by decide +kernel
theorem dX7_walkAll_24 : decode cX7_walkAll 24 = .ok (.getfield 27, 3) := by decide +kernel
theorem dX7_walkAll_27 : decode cX7_walkAll 27 = .ok (.iload_n 1, 1) := by decide +kernel
theorem dX7_walkAll_28 : decode cX7_walkAll 28 = .ok (.iaload, 1) := by decide +kernel
theorem dX7_walkAll_29 : decode cX7_walkAll 29 = .ok (.aaload, 1) := by decide +kernel
theorem dX7_walkAll_30 : decode cX7_walkAll 30 = .ok (.getfield 125, 3) := by decide +kernel
theorem dX7_walkAll_33 : decode cX7_walkAll 33 = .ok (.ifCond .ne 15, 3) := by decide +kernel
theorem dX7_walkAll_36 : decode cX7_walkAll 36 = .ok (.aload_n 0, 1) := by decide +kernel
theorem dX7_walkAll_37 : decode cX7_walkAll 37 = .ok (.iload_n 1, 1) := by decide +kernel
theorem dX7_walkAll_38 : decode cX7_walkAll 38 = .ok (.invokevirtual 152, 3) := by decide +kernel
theorem dX7_walkAll_41 : decode cX7_walkAll 41 = .ok (.ifCond .eq 7, 3) := by decide +kernel
theorem dX7_walkAll_44 : decode cX7_walkAll 44 = .ok (.iconst 1, 1) := by decide +kernel
theorem dX7_walkAll_45 : decode cX7_walkAll 45 = .ok (.goto 4, 3) := by decide +kernel
theorem dX7_walkAll_48 : decode cX7_walkAll 48 = .ok (.iconst 0, 1) := by decide +kernel
theorem dX7_walkAll_49 : decode cX7_walkAll 49 = .ok (.istore_n 3, 1) := by decide +kernel
theorem dX7_walkAll_50 : decode cX7_walkAll 50 = .ok (.iload_n 3, 1) := by decide +kernel
theorem dX7_walkAll_51 : decode cX7_walkAll 51 = .ok (.ifCond .ne 6, 3) := by decide +kernel
theorem dX7_walkAll_54 : decode cX7_walkAll 54 = .ok (.iinc 1 1, 3) := by decide +kernel
theorem dX7_walkAll_57 : decode cX7_walkAll 57 = .ok (.iinc 2 (-1), 3) := by decide +kernel
theorem dX7_walkAll_60 : decode cX7_walkAll 60 = .ok (.goto (-53), 3) := by decide +kernel
theorem dX7_walkAll_63 : decode cX7_walkAll 63 = .ok (.return_, 1) := by decide +kernel
set_option maxRecDepth 10000 in
theorem vX7_walkAll_0 {κ : eg_K} {d : Nat} {post : eg_H → Prop} (M : eg_H) {l0 : Nat} (hl0 : l0 < 4) (h : (∀ x1 : Int32, x1 = (M.1 (7, l0) 6) → eg_W κ gC mtX7_walkAll d (eQV κ gC post) 7 [(0, vR (7, l0)), (1, vI (0 : Int32)), (2, vI x1)] [] M)) : eg_W κ gC mtX7_walkAll d (eQV κ gC post) 0 [(0, vR (7, l0))] [] M := by
  refine eg_iconst dX7_walkAll_0 ic_0 ?_
  refine eg_istore_n dX7_walkAll_1 rfl (by decide) (ls1 := [(1, vI (0 : Int32)), (0, vR (7, l0))]) rfl ?_
  refine eg_aload_n 1 dX7_walkAll_2 rfl rfl ?_
  refine eg_getI dX7_walkAll_3 fl_7_40 rfl trivial (obC_7 hl0) ?_
  refine en_istore_n (f := fun x1 => [(2, vI x1), (1, vI (0 : Int32)), (0, vR (7, l0))]) dX7_walkAll_6 rfl (by decide) rfl (fun x1 ex1 => ?_)
  have h := h x1 ex1
  refine eg_sub [2, 1, 0] rfl ?_
  exact h
set_option maxRecDepth 10000 in
theorem vX7_walkAll_7 {κ : eg_K} {d : Nat} (hd : 1 ≤ d) {post : eg_H → Prop} (M : eg_H) {l0 : Nat} (hl0 : l0 < 4) (l1 : Int32) (l2 : Int32) (h : (l2 ≤ 0 → post M) ∧ ((¬ l2 ≤ 0) → ((M.1 (7, l0) 6) ≤ l1 → post M) ∧ ((¬ (M.1 (7, l0) 6) ≤ l1) → (vp_in l1 15 ∧ (vp_in (M.1 (43, l0) l1.toNatClampNeg) 15 ∧ ((¬ (M.1 (2, 15 * l0 + (M.1 (43, l0) l1.toNatClampNeg).toNatClampNeg) 4) = 0) → ((¬ (0 : Int32) = 0) → (∀ x7 : Int32, x7 = (l2 + (-1 : Int32)) → eg_W κ gC mtX7_walkAll d (eQV κ gC post) 7 [(0, vR (7, l0)), (1, vI l1), (2, vI x7)] [] M)) ∧ ((0 : Int32) = 0 → (∀ x8 : Int32, x8 = (l1 + (1 : Int32)) → (∀ x9 : Int32, x9 = (l2 + (-1 : Int32)) → eg_W κ gC mtX7_walkAll d (eQV κ gC post) 7 [(0, vR (7, l0)), (1, vI x8), (2, vI x9)] [] M)))) ∧ ((M.1 (2, 15 * l0 + (M.1 (43, l0) l1.toNatClampNeg).toNatClampNeg) 4) = 0 → eCI κ gC mtX7_walk d [vR (7, l0), vI l1] M (fun x10 M11 => (∀ x13 : Int32, x13 = ((if x10 = 0 then (0 : Int32) else (1 : Int32))) → ((¬ x13 = 0) → (∀ x15 : Int32, x15 = (l2 + (-1 : Int32)) → eg_W κ gC mtX7_walkAll d (eQV κ gC post) 7 [(0, vR (7, l0)), (1, vI l1), (2, vI x15)] [] M11)) ∧ (x13 = 0 → (∀ x16 : Int32, x16 = (l1 + (1 : Int32)) → (∀ x17 : Int32, x17 = (l2 + (-1 : Int32)) → eg_W κ gC mtX7_walkAll d (eQV κ gC post) 7 [(0, vR (7, l0)), (1, vI x16), (2, vI x17)] [] M11))))))))))) : eg_W κ gC mtX7_walkAll d (eQV κ gC post) 7 [(0, vR (7, l0)), (1, vI l1), (2, vI l2)] [] M := by
  refine eg_iload_n 2 dX7_walkAll_7 rfl rfl ?_
  refine eg_if_le (tgt := 63) dX7_walkAll_8 rfl (fun c1 => ?_) (fun c1 => ?_)
  · have h := h.1 c1
    exact eg_vreturn dX7_walkAll_63 rfl h
  · have h := h.2 c1
    refine eg_iload_n 1 dX7_walkAll_11 rfl rfl ?_
    refine eg_aload_n 0 dX7_walkAll_12 rfl rfl ?_
    refine eg_getI dX7_walkAll_13 fl_7_40 rfl trivial (obC_7 hl0) ?_
    refine eg_icmp_ge (tgt := 63) dX7_walkAll_16 rfl (fun c2 => ?_) (fun c2 => ?_)
    · have h := h.1 c2
      exact eg_vreturn dX7_walkAll_63 rfl h
    · have h := h.2 c2
      refine eg_aload_n 0 dX7_walkAll_19 rfl rfl ?_
      refine eg_getR dX7_walkAll_20 fl_7_23 rfl rfl (obC_7 hl0) ?_
      show eg_W κ gC mtX7_walkAll d (eQV κ gC post) 23 [(0, vR (7, l0)), (1, vI l1), (2, vI l2)] [vR (42, l0)] M
      refine eg_aload_n 0 dX7_walkAll_23 rfl rfl ?_
      refine eg_getR dX7_walkAll_24 fl_7_27 rfl rfl (obC_7 hl0) ?_
      show eg_W κ gC mtX7_walkAll d (eQV κ gC post) 27 [(0, vR (7, l0)), (1, vI l1), (2, vI l2)] [vR (43, l0), vR (42, l0)] M
      refine eg_iload_n 1 dX7_walkAll_27 rfl rfl ?_
      obtain ⟨g3, h⟩ := h
      refine eg_iaload dX7_walkAll_28 (arC_43 hl0 g3) ?_
      obtain ⟨g4, h⟩ := h
      refine eg_aaload7 dX7_walkAll_29 (arC_42 hl0 g4) ?_
      show eg_W κ gC mtX7_walkAll d (eQV κ gC post) 30 [(0, vR (7, l0)), (1, vI l1), (2, vI l2)] [vR (2, 15 * l0 + (M.1 (43, l0) l1.toNatClampNeg).toNatClampNeg)] M
      refine eg_getI dX7_walkAll_30 fl_7_125 rfl trivial (obC_2 (ixT15 hl0 g4)) ?_
      refine eg_if_ne (tgt := 48) dX7_walkAll_33 rfl (fun c5 => ?_) (fun c5 => ?_)
      · have h := h.1 c5
        refine eg_iconst dX7_walkAll_48 ic_0 ?_
        refine eg_istore_n dX7_walkAll_49 rfl (by decide) (ls1 := [(3, vI (0 : Int32)), (0, vR (7, l0)), (1, vI l1), (2, vI l2)]) rfl ?_
        refine eg_iload_n 0 dX7_walkAll_50 rfl rfl ?_
        refine eg_if_ne (tgt := 57) dX7_walkAll_51 rfl (fun c6 => ?_) (fun c6 => ?_)
        · have h := h.1 c6
          refine en_iinc (f := fun x7 => [(2, vI x7), (3, vI (0 : Int32)), (0, vR (7, l0)), (1, vI l1)]) 3 dX7_walkAll_57 rfl rfl (by decide) rfl (fun x7 ex7 => ?_)
          have h := h x7 ex7
          refine eg_goto (tgt := 7) dX7_walkAll_60 rfl ?_
          refine eg_sub [2, 3, 0] rfl ?_
          exact h
        · have h := h.2 c6
          refine en_iinc (f := fun x8 => [(1, vI x8), (3, vI (0 : Int32)), (0, vR (7, l0)), (2, vI l2)]) 2 dX7_walkAll_54 rfl rfl (by decide) rfl (fun x8 ex8 => ?_)
          have h := h x8 ex8
          refine en_iinc (f := fun x9 => [(2, vI x9), (1, vI x8), (3, vI (0 : Int32)), (0, vR (7, l0))]) 3 dX7_walkAll_57 rfl rfl (by decide) rfl (fun x9 ex9 => ?_)
          have h := h x9 ex9
          refine eg_goto (tgt := 7) dX7_walkAll_60 rfl ?_
          refine eg_sub [3, 1, 0] rfl ?_
          exact h
      · have h := h.2 c5
        refine eg_aload_n 0 dX7_walkAll_36 rfl rfl ?_
        refine eg_iload_n 1 dX7_walkAll_37 rfl rfl ?_
        obtain ⟨q12, hq12, h⟩ := h
        refine eg_callVI (av := [vI l1]) (st := []) dX7_walkAll_38 ml_7_152 rfl rfl (obC_7 hl0) (by decide) rfl (Nat.le_of_ble_eq_true rfl) (eg_dd (by omega)) hq12 (fun x10 M11 hp => ?_)
        have h := h x10 M11 hp
        have J : ∀ x13 : Int32, x13 = (if x10 = 0 then (0 : Int32) else (1 : Int32)) → eg_W κ gC mtX7_walkAll d (eQV κ gC post) 49 [(0, vR (7, l0)), (1, vI l1), (2, vI l2)] [vI x13] M11 := by
          intro x13 ex13
          have h := h x13 ex13
          refine eg_istore_n dX7_walkAll_49 rfl (by decide) (ls1 := [(3, vI x13), (0, vR (7, l0)), (1, vI l1), (2, vI l2)]) rfl ?_
          refine eg_iload_n 0 dX7_walkAll_50 rfl rfl ?_
          refine eg_if_ne (tgt := 57) dX7_walkAll_51 rfl (fun c14 => ?_) (fun c14 => ?_)
          · have h := h.1 c14
            refine en_iinc (f := fun x15 => [(2, vI x15), (3, vI x13), (0, vR (7, l0)), (1, vI l1)]) 3 dX7_walkAll_57 rfl rfl (by decide) rfl (fun x15 ex15 => ?_)
            have h := h x15 ex15
            refine eg_goto (tgt := 7) dX7_walkAll_60 rfl ?_
            refine eg_sub [2, 3, 0] rfl ?_
            exact h
          · have h := h.2 c14
            refine en_iinc (f := fun x16 => [(1, vI x16), (3, vI x13), (0, vR (7, l0)), (2, vI l2)]) 2 dX7_walkAll_54 rfl rfl (by decide) rfl (fun x16 ex16 => ?_)
            have h := h x16 ex16
            refine en_iinc (f := fun x17 => [(2, vI x17), (1, vI x16), (3, vI x13), (0, vR (7, l0))]) 3 dX7_walkAll_57 rfl rfl (by decide) rfl (fun x17 ex17 => ?_)
            have h := h x17 ex17
            refine eg_goto (tgt := 7) dX7_walkAll_60 rfl ?_
            refine eg_sub [3, 1, 0] rfl ?_
            exact h
        clear h
        refine eg_if_eq (tgt := 48) dX7_walkAll_41 rfl (fun c18 => ?_) (fun c18 => ?_)
        · refine eg_iconst dX7_walkAll_48 ic_0 ?_
          exact J _ (by rw [if_pos c18])
        · refine eg_iconst dX7_walkAll_44 ic_1 ?_
          refine eg_goto (tgt := 49) dX7_walkAll_45 rfl ?_
          exact J _ (by rw [if_neg c18])
theorem dX7_walk_0 : decode cX7_walk 0 = .ok (.aload_n 0, 1) := by decide +kernel
theorem dX7_walk_1 : decode cX7_walk 1 = .ok (.getfield 23, 3) := by decide +kernel
theorem dX7_walk_4 : decode cX7_walk 4 = .ok (.aload_n 0, 1) := by decide +kernel
theorem dX7_walk_5 : decode cX7_walk 5 = .ok (.getfield 27, 3) := by decide +kernel
theorem dX7_walk_8 : decode cX7_walk 8 = .ok (.iload_n 1, 1) := by decide +kernel
theorem dX7_walk_9 : decode cX7_walk 9 = .ok (.iaload, 1) := by decide +kernel
theorem dX7_walk_10 : decode cX7_walk 10 = .ok (.aaload, 1) := by decide +kernel
theorem dX7_walk_11 : decode cX7_walk 11 = .ok (.astore_n 2, 1) := by decide +kernel
theorem dX7_walk_12 : decode cX7_walk 12 = .ok (.aload_n 0, 1) := by decide +kernel
theorem dX7_walk_13 : decode cX7_walk 13 = .ok (.aload_n 2, 1) := by decide +kernel
theorem dX7_walk_14 : decode cX7_walk 14 = .ok (.invokevirtual 156, 3) := by decide +kernel
theorem dX7_walk_17 : decode cX7_walk 17 = .ok (.istore_n 3, 1) := by decide +kernel
theorem dX7_walk_18 : decode cX7_walk 18 = .ok (.aload_n 0, 1) := by decide +kernel
theorem dX7_walk_19 : decode cX7_walk 19 = .ok (.getfield 30, 3) := by decide +kernel
theorem dX7_walk_22 : decode cX7_walk 22 = .ok (.getfield 160, 3) := by decide +kernel
theorem dX7_walk_25 : decode cX7_walk 25 = .ok (.ifCond .ne 65, 3) := by decide +kernel
theorem dX7_walk_28 : decode cX7_walk 28 = .ok (.iload_n 1, 1) := by decide +kernel
theorem dX7_walk_29 : decode cX7_walk 29 = .ok (.ifCond .le 61, 3) := by decide +kernel
theorem dX7_walk_32 : decode cX7_walk 32 = .ok (.aload_n 0, 1) := by decide +kernel
theorem dX7_walk_33 : decode cX7_walk 33 = .ok (.getfield 23, 3) := by decide +kernel
theorem dX7_walk_36 : decode cX7_walk 36 = .ok (.aload_n 0, 1) := by decide +kernel
theorem dX7_walk_37 : decode cX7_walk 37 = .ok (.getfield 27, 3) := by decide +kernel
theorem dX7_walk_40 : decode cX7_walk 40 = .ok (.iload_n 1, 1) := by decide +kernel
theorem dX7_walk_41 : decode cX7_walk 41 = .ok (.iconst 1, 1) := by decide +kernel
theorem dX7_walk_42 : decode cX7_walk 42 = .ok (.isub, 1) := by decide +kernel
theorem dX7_walk_43 : decode cX7_walk 43 = .ok (.iaload, 1) := by decide +kernel
theorem dX7_walk_44 : decode cX7_walk 44 = .ok (.aaload, 1) := by decide +kernel
theorem dX7_walk_45 : decode cX7_walk 45 = .ok (.getfield 163, 3) := by decide +kernel
theorem dX7_walk_48 : decode cX7_walk 48 = .ok (.istore 4, 2) := by decide +kernel
theorem dX7_walk_50 : decode cX7_walk 50 = .ok (.iload 4, 2) := by decide +kernel
theorem dX7_walk_52 : decode cX7_walk 52 = .ok (.iload_n 3, 1) := by decide +kernel
theorem dX7_walk_53 : decode cX7_walk 53 = .ok (.if_icmp .ge 37, 3) := by decide +kernel
theorem dX7_walk_56 : decode cX7_walk 56 = .ok (.aload_n 2, 1) := by decide +kernel
theorem dX7_walk_57 : decode cX7_walk 57 = .ok (.iload 4, 2) := by decide +kernel
theorem dX7_walk_59 : decode cX7_walk 59 = .ok (.aload_n 2, 1) := by decide +kernel
theorem dX7_walk_60 : decode cX7_walk 60 = .ok (.getfield 163, 3) := by decide +kernel
theorem dX7_walk_63 : decode cX7_walk 63 = .ok (.if_icmp .le 8, 3) := by decide +kernel
theorem dX7_walk_66 : decode cX7_walk 66 = .ok (.iload 4, 2) := by decide +kernel
theorem dX7_walk_68 : decode cX7_walk 68 = .ok (.goto 7, 3) := by decide +kernel
theorem dX7_walk_71 : decode cX7_walk 71 = .ok (.aload_n 2, 1) := by decide +kernel
theorem dX7_walk_72 : decode cX7_walk 72 = .ok (.getfield 163, 3) := by decide +kernel
theorem dX7_walk_75 : decode cX7_walk 75 = .ok (.putfield 163, 3) := by decide +kernel
theorem dX7_walk_78 : decode cX7_walk 78 = .ok (.aload_n 2, 1) := by decide +kernel
theorem dX7_walk_79 : decode cX7_walk 79 = .ok (.dup, 1) := by decide +kernel
theorem dX7_walk_80 : decode cX7_walk 80 = .ok (.getfield 128, 3) := by decide +kernel
theorem dX7_walk_83 : decode cX7_walk 83 = .ok (.iconst 1, 1) := by decide +kernel
theorem dX7_walk_84 : decode cX7_walk 84 = .ok (.iadd, 1) := by decide +kernel
theorem dX7_walk_85 : decode cX7_walk 85 = .ok (.putfield 128, 3) := by decide +kernel
theorem dX7_walk_88 : decode cX7_walk 88 = .ok (.iconst 0, 1) := by decide +kernel
theorem dX7_walk_89 : decode cX7_walk 89 = .ok (.ireturn, 1) := by decide +kernel
theorem dX7_walk_90 : decode cX7_walk 90 = .ok (.iload_n 3, 1) := by decide +kernel
theorem dX7_walk_91 : decode cX7_walk 91 = .ok (.aload_n 0, 1) := by decide +kernel
theorem dX7_walk_92 : decode cX7_walk 92 = .ok (.getfield 30, 3) := by decide +kernel
theorem dX7_walk_95 : decode cX7_walk 95 = .ok (.getfield 49, 3) := by decide +kernel
theorem dX7_walk_98 : decode cX7_walk 98 = .ok (.if_icmp .lt 15, 3) := by decide +kernel
theorem dX7_walk_101 : decode cX7_walk 101 = .ok (.aload_n 0, 1) := by decide +kernel
theorem dX7_walk_102 : decode cX7_walk 102 = .ok (.iconst 0, 1) := by decide +kernel
theorem dX7_walk_103 : decode cX7_walk 103 = .ok (.putfield 78, 3) := by decide +kernel
theorem dX7_walk_106 : decode cX7_walk 106 = .ok (.aload_n 0, 1) := by decide +kernel
theorem dX7_walk_107 : decode cX7_walk 107 = .ok (.iload_n 1, 1) := by decide +kernel
theorem dX7_walk_108 : decode cX7_walk 108 = .ok (.invokevirtual 166, 3) := by decide +kernel
theorem dX7_walk_111 : decode cX7_walk 111 = .ok (.iconst 1, 1) := by decide +kernel
theorem dX7_walk_112 : decode cX7_walk 112 = .ok (.ireturn, 1) := by decide +kernel
theorem dX7_walk_113 : decode cX7_walk 113 = .ok (.aload_n 2, 1) := by decide +kernel
theorem dX7_walk_114 : decode cX7_walk 114 = .ok (.iload_n 3, 1) := by decide +kernel
theorem dX7_walk_115 : decode cX7_walk 115 = .ok (.putfield 163, 3) := by decide +kernel
theorem dX7_walk_118 : decode cX7_walk 118 = .ok (.aload_n 2, 1) := by decide +kernel
theorem dX7_walk_119 : decode cX7_walk 119 = .ok (.iconst 0, 1) := by decide +kernel
theorem dX7_walk_120 : decode cX7_walk 120 = .ok (.putfield 169, 3) := by decide +kernel
theorem dX7_walk_123 : decode cX7_walk 123 = .ok (.aload_n 0, 1) := by decide +kernel
theorem dX7_walk_124 : decode cX7_walk 124 = .ok (.getfield 9, 3) := by decide +kernel
theorem dX7_walk_127 : decode cX7_walk 127 = .ok (.iload_n 3, 1) := by decide +kernel
theorem dX7_walk_128 : decode cX7_walk 128 = .ok (.iaload, 1) := by decide +kernel
theorem dX7_walk_129 : decode cX7_walk 129 = .ok (.istore 4, 2) := by decide +kernel
theorem dX7_walk_131 : decode cX7_walk 131 = .ok (.aload_n 0, 1) := by decide +kernel
theorem dX7_walk_132 : decode cX7_walk 132 = .ok (.getfield 30, 3) := by decide +kernel
theorem dX7_walk_135 : decode cX7_walk 135 = .ok (.iload 4, 2) := by decide +kernel
theorem dX7_walk_137 : decode cX7_walk 137 = .ok (.invokevirtual 172, 3) := by decide +kernel
theorem dX7_walk_140 : decode cX7_walk 140 = .ok (.ifCond .eq 20, 3) := by decide +kernel
theorem dX7_walk_143 : decode cX7_walk 143 = .ok (.aload_n 0, 1) := by decide +kernel
theorem dX7_walk_144 : decode cX7_walk 144 = .ok (.getfield 17, 3) := by decide +kernel
theorem dX7_walk_147 : decode cX7_walk 147 = .ok (.iload 4, 2) := by decide +kernel
theorem dX7_walk_149 : decode cX7_walk 149 = .ok (.aaload, 1) := by decide +kernel
theorem dX7_walk_150 : decode cX7_walk 150 = .ok (.getfield 142, 3) := by decide +kernel
theorem dX7_walk_153 : decode cX7_walk 153 = .ok (.ifCond .ne 7, 3) := by decide +kernel
theorem dX7_walk_156 : decode cX7_walk 156 = .ok (.iconst 1, 1) := by decide +kernel
theorem dX7_walk_157 : decode cX7_walk 157 = .ok (.goto 4, 3) := by decide +kernel
theorem dX7_walk_160 : decode cX7_walk 160 = .ok (.iconst 0, 1) := by decide +kernel
theorem dX7_walk_161 : decode cX7_walk 161 = .ok (.istore 5, 2) := by decide +kernel
theorem dX7_walk_163 : decode cX7_walk 163 = .ok (.iload 5, 2) := by decide +kernel
theorem dX7_walk_165 : decode cX7_walk 165 = .ok (.ifCond .ne 44, 3) := by decide +kernel
theorem dX7_walk_168 : decode cX7_walk 168 = .ok (.aload_n 0, 1) := by decide +kernel
theorem dX7_walk_169 : decode cX7_walk 169 = .ok (.iload_n 3, 1) := by decide +kernel
theorem dX7_walk_170 : decode cX7_walk 170 = .ok (.invokevirtual 175, 3) := by decide +kernel
theorem dX7_walk_173 : decode cX7_walk 173 = .ok (.aload_n 0, 1) := by decide +kernel
theorem dX7_walk_174 : decode cX7_walk 174 = .ok (.getfield 30, 3) := by decide +kernel
theorem dX7_walk_177 : decode cX7_walk 177 = .ok (.getfield 54, 3) := by decide +kernel
theorem dX7_walk_180 : decode cX7_walk 180 = .ok (.iload 4, 2) := by decide +kernel
theorem dX7_walk_182 : decode cX7_walk 182 = .ok (.aaload, 1) := by decide +kernel
theorem dX7_walk_183 : decode cX7_walk 183 = .ok (.getfield 178, 3) := by decide +kernel
theorem dX7_walk_186 : decode cX7_walk 186 = .ok (.if_icmp .ge 23, 3) := by decide +kernel
theorem dX7_walk_189 : decode cX7_walk 189 = .ok (.aload_n 0, 1) := by decide +kernel
theorem dX7_walk_190 : decode cX7_walk 190 = .ok (.iconst 0, 1) := by decide +kernel
theorem dX7_walk_191 : decode cX7_walk 191 = .ok (.putfield 78, 3) := by decide +kernel
theorem dX7_walk_194 : decode cX7_walk 194 = .ok (.aload_n 0, 1) := by decide +kernel
theorem dX7_walk_195 : decode cX7_walk 195 = .ok (.aload_n 0, 1) := by decide +kernel
theorem dX7_walk_196 : decode cX7_walk 196 = .ok (.getfield 27, 3) := by decide +kernel
theorem dX7_walk_199 : decode cX7_walk 199 = .ok (.iload_n 1, 1) := by decide +kernel
theorem dX7_walk_200 : decode cX7_walk 200 = .ok (.iaload, 1) := by decide +kernel
theorem dX7_walk_201 : decode cX7_walk 201 = .ok (.iload 4, 2) := by decide +kernel
theorem dX7_walk_203 : decode cX7_walk 203 = .ok (.invokevirtual 181, 3) := by decide +kernel
theorem dX7_walk_206 : decode cX7_walk 206 = .ok (.goto 81, 3) := by decide +kernel
theorem dX7_walk_209 : decode cX7_walk 209 = .ok (.iload 5, 2) := by decide +kernel
theorem dX7_walk_211 : decode cX7_walk 211 = .ok (.ifCond .ne 18, 3) := by decide +kernel
theorem dX7_walk_214 : decode cX7_walk 214 = .ok (.aload_n 0, 1) := by decide +kernel
theorem dX7_walk_215 : decode cX7_walk 215 = .ok (.aload_n 0, 1) := by decide +kernel
theorem dX7_walk_216 : decode cX7_walk 216 = .ok (.getfield 27, 3) := by decide +kernel
theorem dX7_walk_219 : decode cX7_walk 219 = .ok (.iload_n 1, 1) := by decide +kernel
theorem dX7_walk_220 : decode cX7_walk 220 = .ok (.iaload, 1) := by decide +kernel
theorem dX7_walk_221 : decode cX7_walk 221 = .ok (.iload 4, 2) := by decide +kernel
theorem dX7_walk_223 : decode cX7_walk 223 = .ok (.invokevirtual 185, 3) := by decide +kernel
theorem dX7_walk_226 : decode cX7_walk 226 = .ok (.ifCond .eq 17, 3) := by decide +kernel
theorem dX7_walk_229 : decode cX7_walk 229 = .ok (.aload_n 0, 1) := by decide +kernel
theorem dX7_walk_230 : decode cX7_walk 230 = .ok (.iconst 0, 1) := by decide +kernel
theorem dX7_walk_231 : decode cX7_walk 231 = .ok (.putfield 78, 3) := by decide +kernel
theorem dX7_walk_234 : decode cX7_walk 234 = .ok (.aload_n 2, 1) := by decide +kernel
theorem dX7_walk_235 : decode cX7_walk 235 = .ok (.iload 4, 2) := by decide +kernel
theorem dX7_walk_237 : decode cX7_walk 237 = .ok (.invokevirtual 189, 3) := by decide +kernel
theorem dX7_walk_240 : decode cX7_walk 240 = .ok (.goto 47, 3) := by decide +kernel
theorem dX7_walk_243 : decode cX7_walk 243 = .ok (.aload_n 0, 1) := by decide +kernel
theorem dX7_walk_244 : decode cX7_walk 244 = .ok (.aload_n 0, 1) := by decide +kernel
theorem dX7_walk_245 : decode cX7_walk 245 = .ok (.getfield 78, 3) := by decide +kernel
theorem dX7_walk_248 : decode cX7_walk 248 = .ok (.ifCond .eq 20, 3) := by decide +kernel
theorem dX7_walk_251 : decode cX7_walk 251 = .ok (.aload_n 0, 1) := by decide +kernel
theorem dX7_walk_252 : decode cX7_walk 252 = .ok (.getfield 30, 3) := by decide +kernel
theorem dX7_walk_255 : decode cX7_walk 255 = .ok (.getfield 192, 3) := by decide +kernel
theorem dX7_walk_258 : decode cX7_walk 258 = .ok (.iconst 1, 1) := by decide +kernel
theorem dX7_walk_259 : decode cX7_walk 259 = .ok (.iaload, 1) := by decide +kernel
theorem dX7_walk_260 : decode cX7_walk 260 = .ok (.iconst (-1), 1) := by decide +kernel
theorem dX7_walk_261 : decode cX7_walk 261 = .ok (.if_icmp .ne 7, 3) := by decide +kernel
theorem dX7_walk_264 : decode cX7_walk 264 = .ok (.iconst 1, 1) := by decide +kernel
theorem dX7_walk_265 : decode cX7_walk 265 = .ok (.goto 4, 3) := by decide +kernel
theorem dX7_walk_268 : decode cX7_walk 268 = .ok (.iconst 0, 1) := by decide +kernel
theorem dX7_walk_269 : decode cX7_walk 269 = .ok (.putfield 78, 3) := by decide +kernel
theorem dX7_walk_272 : decode cX7_walk 272 = .ok (.aload_n 2, 1) := by decide +kernel
theorem dX7_walk_273 : decode cX7_walk 273 = .ok (.iconst 1, 1) := by decide +kernel
theorem dX7_walk_274 : decode cX7_walk 274 = .ok (.putfield 169, 3) := by decide +kernel
theorem dX7_walk_277 : decode cX7_walk 277 = .ok (.aload_n 2, 1) := by decide +kernel
theorem dX7_walk_278 : decode cX7_walk 278 = .ok (.dup, 1) := by decide +kernel
theorem dX7_walk_279 : decode cX7_walk 279 = .ok (.getfield 128, 3) := by decide +kernel
theorem dX7_walk_282 : decode cX7_walk 282 = .ok (.iconst 1, 1) := by decide +kernel
theorem dX7_walk_283 : decode cX7_walk 283 = .ok (.iadd, 1) := by decide +kernel
theorem dX7_walk_284 : decode cX7_walk 284 = .ok (.putfield 128, 3) := by decide +kernel
theorem dX7_walk_287 : decode cX7_walk 287 = .ok (.iconst 0, 1) := by decide +kernel
theorem dX7_walk_288 : decode cX7_walk 288 = .ok (.ireturn, 1) := by decide +kernel
set_option maxRecDepth 10000 in
theorem vX7_walk_0 {κ : eg_K} {d : Nat} (hd : 1 ≤ d) {post : Int32 → eg_H → Prop} (M : eg_H) {l0 : Nat} (hl0 : l0 < 4) (l1 : Int32) (h : (vp_in l1 15 ∧ (vp_in (M.1 (43, l0) l1.toNatClampNeg) 15 ∧ eCI κ gC mtX7_nextPlace d [vR (7, l0), vR (2, 15 * l0 + (M.1 (43, l0) l1.toNatClampNeg).toNatClampNeg)] M (fun x3 M4 => (∃ p6 : Nat, p6 < 2 ∧ M4.2.2 (7, l0) 0 = (5, p6) ∧ ((¬ (M4.1 (5, p6) 4) = 0) → eg_W κ gC mtX7_walk d (eQI κ gC post) 90 [(0, vR (7, l0)), (1, vI l1), (2, vR (2, 15 * l0 + (M.1 (43, l0) l1.toNatClampNeg).toNatClampNeg)), (3, vI x3)] [] M4) ∧ ((M4.1 (5, p6) 4) = 0 → (l1 ≤ 0 → eg_W κ gC mtX7_walk d (eQI κ gC post) 90 [(0, vR (7, l0)), (1, vI l1), (2, vR (2, 15 * l0 + (M.1 (43, l0) l1.toNatClampNeg).toNatClampNeg)), (3, vI x3)] [] M4) ∧ ((¬ l1 ≤ 0) → (vp_in (l1 - (1 : Int32)) 15 ∧ (vp_in (M4.1 (43, l0) (l1 - (1 : Int32)).toNatClampNeg) 15 ∧ (∀ x11 : Int32, x11 = (M4.1 (2, 15 * l0 + (M4.1 (43, l0) (l1 - (1 : Int32)).toNatClampNeg).toNatClampNeg) 1) → (x3 ≤ x11 → eg_W κ gC mtX7_walk d (eQI κ gC post) 90 [(0, vR (7, l0)), (1, vI l1), (2, vR (2, 15 * l0 + (M.1 (43, l0) l1.toNatClampNeg).toNatClampNeg)), (3, vI x3)] [] M4) ∧ ((¬ x3 ≤ x11) → (∀ x13 : Int32, x13 = ((if x11 ≤ (M4.1 (2, 15 * l0 + (M.1 (43, l0) l1.toNatClampNeg).toNatClampNeg) 1) then (M4.1 (2, 15 * l0 + (M.1 (43, l0) l1.toNatClampNeg).toNatClampNeg) 1) else x11)) → (∀ M14 : eg_H, M14 = (sI M4 (2, 15 * l0 + (M.1 (43, l0) l1.toNatClampNeg).toNatClampNeg) 1 x13) → (∀ M15 : eg_H, M15 = (sI M14 (2, 15 * l0 + (M.1 (43, l0) l1.toNatClampNeg).toNatClampNeg) 7 ((M14.1 (2, 15 * l0 + (M.1 (43, l0) l1.toNatClampNeg).toNatClampNeg) 7) + (1 : Int32))) → post (0 : Int32) M15)))))))))))))) : eg_W κ gC mtX7_walk d (eQI κ gC post) 0 [(0, vR (7, l0)), (1, vI l1)] [] M := by
  refine eg_aload_n 0 dX7_walk_0 rfl rfl ?_
  refine eg_getR dX7_walk_1 fl_7_23 rfl rfl (obC_7 hl0) ?_
  show eg_W κ gC mtX7_walk d (eQI κ gC post) 4 [(0, vR (7, l0)), (1, vI l1)] [vR (42, l0)] M
  refine eg_aload_n 0 dX7_walk_4 rfl rfl ?_
  refine eg_getR dX7_walk_5 fl_7_27 rfl rfl (obC_7 hl0) ?_
  show eg_W κ gC mtX7_walk d (eQI κ gC post) 8 [(0, vR (7, l0)), (1, vI l1)] [vR (43, l0), vR (42, l0)] M
  refine eg_iload_n 1 dX7_walk_8 rfl rfl ?_
  obtain ⟨g1, h⟩ := h
  refine eg_iaload dX7_walk_9 (arC_43 hl0 g1) ?_
  obtain ⟨g2, h⟩ := h
  refine eg_aaload7 dX7_walk_10 (arC_42 hl0 g2) ?_
  show eg_W κ gC mtX7_walk d (eQI κ gC post) 11 [(0, vR (7, l0)), (1, vI l1)] [vR (2, 15 * l0 + (M.1 (43, l0) l1.toNatClampNeg).toNatClampNeg)] M
  refine eg_astore_n dX7_walk_11 rfl (by decide) (ls1 := [(2, vR (2, 15 * l0 + (M.1 (43, l0) l1.toNatClampNeg).toNatClampNeg)), (0, vR (7, l0)), (1, vI l1)]) rfl ?_
  refine eg_aload_n 1 dX7_walk_12 rfl rfl ?_
  refine eg_aload_n 0 dX7_walk_13 rfl rfl ?_
  obtain ⟨q5, hq5, h⟩ := h
  refine eg_callVI (av := [vR (2, 15 * l0 + (M.1 (43, l0) l1.toNatClampNeg).toNatClampNeg)]) (st := []) dX7_walk_14 ml_7_156 rfl rfl (obC_7 hl0) (by decide) rfl (Nat.le_of_ble_eq_true rfl) (eg_dd (by omega)) hq5 (fun x3 M4 hp => ?_)
  have h := h x3 M4 hp
  refine eg_istore_n dX7_walk_17 rfl (by decide) (ls1 := [(3, vI x3), (2, vR (2, 15 * l0 + (M.1 (43, l0) l1.toNatClampNeg).toNatClampNeg)), (0, vR (7, l0)), (1, vI l1)]) rfl ?_
  refine eg_aload_n 2 dX7_walk_18 rfl rfl ?_
  refine eg_getD dX7_walk_19 fl_7_30 rfl rfl (obC_7 hl0) ?_
  obtain ⟨p6, hp6, ep6, h⟩ := h
  rw [ep6]
  refine eg_getI dX7_walk_22 fl_7_160 rfl trivial (obC_5 hp6) ?_
  refine eg_if_ne (tgt := 90) dX7_walk_25 rfl (fun c7 => ?_) (fun c7 => ?_)
  · have h := h.1 c7
    refine eg_sub [2, 3, 1, 0] rfl ?_
    exact h
  · have h := h.2 c7
    refine eg_iload_n 3 dX7_walk_28 rfl rfl ?_
    refine eg_if_le (tgt := 90) dX7_walk_29 rfl (fun c8 => ?_) (fun c8 => ?_)
    · have h := h.1 c8
      refine eg_sub [2, 3, 1, 0] rfl ?_
      exact h
    · have h := h.2 c8
      refine eg_aload_n 2 dX7_walk_32 rfl rfl ?_
      refine eg_getR dX7_walk_33 fl_7_23 rfl rfl (obC_7 hl0) ?_
      show eg_W κ gC mtX7_walk d (eQI κ gC post) 36 [(3, vI x3), (2, vR (2, 15 * l0 + (M.1 (43, l0) l1.toNatClampNeg).toNatClampNeg)), (0, vR (7, l0)), (1, vI l1)] [vR (42, l0)] M4
      refine eg_aload_n 2 dX7_walk_36 rfl rfl ?_
      refine eg_getR dX7_walk_37 fl_7_27 rfl rfl (obC_7 hl0) ?_
      show eg_W κ gC mtX7_walk d (eQI κ gC post) 40 [(3, vI x3), (2, vR (2, 15 * l0 + (M.1 (43, l0) l1.toNatClampNeg).toNatClampNeg)), (0, vR (7, l0)), (1, vI l1)] [vR (43, l0), vR (42, l0)] M4
      refine eg_iload_n 3 dX7_walk_40 rfl rfl ?_
      refine eg_iconst dX7_walk_41 ic_1 ?_
      refine eg_isub dX7_walk_42 ?_
      obtain ⟨g9, h⟩ := h
      refine eg_iaload dX7_walk_43 (arC_43 hl0 g9) ?_
      obtain ⟨g10, h⟩ := h
      refine eg_aaload7 dX7_walk_44 (arC_42 hl0 g10) ?_
      show eg_W κ gC mtX7_walk d (eQI κ gC post) 45 [(3, vI x3), (2, vR (2, 15 * l0 + (M.1 (43, l0) l1.toNatClampNeg).toNatClampNeg)), (0, vR (7, l0)), (1, vI l1)] [vR (2, 15 * l0 + (M4.1 (43, l0) (l1 - (1 : Int32)).toNatClampNeg).toNatClampNeg)] M4
      refine eg_getI dX7_walk_45 fl_7_163 rfl trivial (obC_2 (ixT15 hl0 g10)) ?_
      refine en_istore (f := fun x11 => [(4, vI x11), (3, vI x3), (2, vR (2, 15 * l0 + (M.1 (43, l0) l1.toNatClampNeg).toNatClampNeg)), (0, vR (7, l0)), (1, vI l1)]) dX7_walk_48 (by decide) rfl (fun x11 ex11 => ?_)
      have h := h x11 ex11
      refine eg_iload 0 dX7_walk_50 rfl ?_
      refine eg_iload_n 1 dX7_walk_52 rfl rfl ?_
      refine eg_icmp_ge (tgt := 90) dX7_walk_53 rfl (fun c12 => ?_) (fun c12 => ?_)
      · have h := h.1 c12
        refine eg_sub [3, 4, 2, 1] rfl ?_
        exact h
      · have h := h.2 c12
        refine eg_aload_n 2 dX7_walk_56 rfl rfl ?_
        refine eg_iload 0 dX7_walk_57 rfl ?_
        refine eg_aload_n 2 dX7_walk_59 rfl rfl ?_
        refine eg_getI dX7_walk_60 fl_7_163 rfl trivial (obC_2 (ixT15 hl0 g2)) ?_
        have J : ∀ x13 : Int32, x13 = (if x11 ≤ (M4.1 (2, 15 * l0 + (M.1 (43, l0) l1.toNatClampNeg).toNatClampNeg) 1) then (M4.1 (2, 15 * l0 + (M.1 (43, l0) l1.toNatClampNeg).toNatClampNeg) 1) else x11) → eg_W κ gC mtX7_walk d (eQI κ gC post) 75 [(4, vI x11), (3, vI x3), (2, vR (2, 15 * l0 + (M.1 (43, l0) l1.toNatClampNeg).toNatClampNeg)), (0, vR (7, l0)), (1, vI l1)] [vI x13, vR (2, 15 * l0 + (M.1 (43, l0) l1.toNatClampNeg).toNatClampNeg)] M4 := by
          intro x13 ex13
          have h := h x13 ex13
          refine en_putI dX7_walk_75 fl_7_163 rfl rfl (obC_2 (ixT15 hl0 g2)) (fun M14 eM14 => ?_)
          have h := h M14 eM14
          refine eg_aload_n 2 dX7_walk_78 rfl rfl ?_
          refine eg_dup dX7_walk_79 rfl ?_
          refine eg_getI dX7_walk_80 fl_7_128 rfl trivial (obC_2 (ixT15 hl0 g2)) ?_
          refine eg_iconst dX7_walk_83 ic_1 ?_
          refine eg_iadd dX7_walk_84 ?_
          refine en_putI dX7_walk_85 fl_7_128 rfl rfl (obC_2 (ixT15 hl0 g2)) (fun M15 eM15 => ?_)
          have h := h M15 eM15
          refine eg_iconst dX7_walk_88 ic_0 ?_
          exact eg_zreturn dX7_walk_89 rfl (Or.inl rfl) h
        clear h
        refine eg_icmp_le (tgt := 71) dX7_walk_63 rfl (fun c16 => ?_) (fun c16 => ?_)
        · refine eg_aload_n 2 dX7_walk_71 rfl rfl ?_
          refine eg_getI dX7_walk_72 fl_7_163 rfl trivial (obC_2 (ixT15 hl0 g2)) ?_
          exact J _ (by rw [if_pos c16])
        · refine eg_iload 0 dX7_walk_66 rfl ?_
          refine eg_goto (tgt := 75) dX7_walk_68 rfl ?_
          exact J _ (by rw [if_neg c16])
set_option maxRecDepth 10000 in
theorem vX7_walk_90 {κ : eg_K} {d : Nat} (hd : 1 ≤ d) {post : Int32 → eg_H → Prop} (M : eg_H) {l0 : Nat} (hl0 : l0 < 4) (l1 : Int32) {l2 : Nat} (hl2 : l2 < 60) (l3 : Int32) (h : (∃ p1 : Nat, p1 < 2 ∧ M.2.2 (7, l0) 0 = (5, p1) ∧ (l3 < (M.1 (5, p1) 0) → (∀ M3 : eg_H, M3 = (sI M (2, l2) 1 l3) → (∀ M4 : eg_H, M4 = (sI M3 (2, l2) 5 (0 : Int32)) → (vp_in l3 5 ∧ (∀ x6 : Int32, x6 = (M4.1 (40, l0) l3.toNatClampNeg) → (gX5_hasPan M4 p1 x6 ∧ (∀ x9 : Int32, x9 = (fX5_hasPan M4 p1 x6) → (((¬ x9 = 0) → vp_in x6 5) ∧ (∀ x11 : Int32, x11 = ((if x9 = 0 then (0 : Int32) else (if (¬ (M4.1 (4, 5 * l0 + x6.toNatClampNeg) 0) = 0) then (0 : Int32) else (1 : Int32)))) → ((¬ x11 = 0) → eg_W κ gC mtX7_walk d (eQI κ gC post) 209 [(0, vR (7, l0)), (1, vI l1), (2, vR (2, l2)), (4, vI x6), (5, vI x11)] [] M4) ∧ (x11 = 0 → eCI κ gC mtX7_takersAt d [vR (7, l0), vI l3] M4 (fun x13 M14 => (∃ p16 : Nat, p16 < 2 ∧ M14.2.2 (7, l0) 0 = (5, p16) ∧ (vp_in x6 5 ∧ ((M14.1 (1, 5 * p16 + x6.toNatClampNeg) 2) ≤ x13 → eg_W κ gC mtX7_walk d (eQI κ gC post) 209 [(0, vR (7, l0)), (1, vI l1), (2, vR (2, l2)), (4, vI x6), (5, vI x11)] [] M14) ∧ ((¬ (M14.1 (1, 5 * p16 + x6.toNatClampNeg) 2) ≤ x13) → (∀ M19 : eg_H, M19 = (sI M14 (7, l0) 7 (0 : Int32)) → (vp_in l1 15 ∧ eCV κ gC mtX7_take d [vR (7, l0), vI (M19.1 (43, l0) l1.toNatClampNeg), vI x6] M19 (fun M21 => post (0 : Int32) M21))))))))))))))))) ∧ ((¬ l3 < (M.1 (5, p1) 0)) → (∀ M26 : eg_H, M26 = (sI M (7, l0) 7 (0 : Int32)) → eCV κ gC mtX7_leaveLine d [vR (7, l0), vI l1] M26 (fun M27 => post (1 : Int32) M27))))) : eg_W κ gC mtX7_walk d (eQI κ gC post) 90 [(0, vR (7, l0)), (1, vI l1), (2, vR (2, l2)), (3, vI l3)] [] M := by
  refine eg_iload_n 3 dX7_walk_90 rfl rfl ?_
  refine eg_aload_n 0 dX7_walk_91 rfl rfl ?_
  refine eg_getD dX7_walk_92 fl_7_30 rfl rfl (obC_7 hl0) ?_
  obtain ⟨p1, hp1, ep1, h⟩ := h
  rw [ep1]
  refine eg_getI dX7_walk_95 fl_7_49 rfl trivial (obC_5 hp1) ?_
  refine eg_icmp_lt (tgt := 113) dX7_walk_98 rfl (fun c2 => ?_) (fun c2 => ?_)
  · have h := h.1 c2
    refine eg_aload_n 2 dX7_walk_113 rfl rfl ?_
    refine eg_iload_n 3 dX7_walk_114 rfl rfl ?_
    refine en_putI dX7_walk_115 fl_7_163 rfl rfl (obC_2 hl2) (fun M3 eM3 => ?_)
    have h := h M3 eM3
    refine eg_aload_n 2 dX7_walk_118 rfl rfl ?_
    refine eg_iconst dX7_walk_119 ic_0 ?_
    refine en_putZ dX7_walk_120 fl_7_169 rfl rfl (Or.inl rfl) (obC_2 hl2) (fun M4 eM4 => ?_)
    have h := h M4 eM4
    refine eg_aload_n 0 dX7_walk_123 rfl rfl ?_
    refine eg_getR dX7_walk_124 fl_7_9 rfl rfl (obC_7 hl0) ?_
    show eg_W κ gC mtX7_walk d (eQI κ gC post) 127 [(0, vR (7, l0)), (1, vI l1), (2, vR (2, l2)), (3, vI l3)] [vR (40, l0)] M4
    refine eg_iload_n 3 dX7_walk_127 rfl rfl ?_
    obtain ⟨g5, h⟩ := h
    refine eg_iaload dX7_walk_128 (arC_40 hl0 g5) ?_
    refine en_istore (f := fun x6 => [(4, vI x6), (0, vR (7, l0)), (1, vI l1), (2, vR (2, l2)), (3, vI l3)]) dX7_walk_129 (by decide) rfl (fun x6 ex6 => ?_)
    have h := h x6 ex6
    refine eg_aload_n 1 dX7_walk_131 rfl rfl ?_
    refine eg_getD dX7_walk_132 fl_7_30 rfl rfl (obC_7 hl0) ?_
    rw [(show M4.2.2 (7, l0) 0 = (5, p1) from by rw [eM4]; exact (show M3.2.2 (7, l0) 0 = (5, p1) from by rw [eM3]; exact ep1))]
    refine eg_iload 0 dX7_walk_135 rfl ?_
    obtain ⟨g7, h⟩ := h
    refine eg_callVI (av := [vI x6]) (st := []) dX7_walk_137 ml_7_172 rfl rfl (obC_5 hp1) (by decide) rfl (Nat.le_of_ble_eq_true rfl) (eg_dd (by omega)) (sX5_hasPan (by omega) M4 p1 x6 hp1 g7) (fun x9 M8 hp => ?_)
    obtain ⟨ex9, eM8⟩ := hp
    rw [eM8]
    have h := h x9 ex9
    obtain ⟨g10, h⟩ := h
    have J : ∀ x11 : Int32, x11 = (if x9 = 0 then (0 : Int32) else (if (¬ (M4.1 (4, 5 * l0 + x6.toNatClampNeg) 0) = 0) then (0 : Int32) else (1 : Int32))) → eg_W κ gC mtX7_walk d (eQI κ gC post) 161 [(4, vI x6), (0, vR (7, l0)), (1, vI l1), (2, vR (2, l2)), (3, vI l3)] [vI x11] M4 := by
      intro x11 ex11
      have h := h x11 ex11
      refine eg_istore dX7_walk_161 (by decide) (ls1 := [(5, vI x11), (4, vI x6), (0, vR (7, l0)), (1, vI l1), (2, vR (2, l2)), (3, vI l3)]) rfl ?_
      refine eg_iload 0 dX7_walk_163 rfl ?_
      refine eg_if_ne (tgt := 209) dX7_walk_165 rfl (fun c12 => ?_) (fun c12 => ?_)
      · have h := h.1 c12
        refine eg_sub [2, 3, 4, 1, 0] rfl ?_
        exact h
      · have h := h.2 c12
        refine eg_aload_n 2 dX7_walk_168 rfl rfl ?_
        refine eg_iload_n 5 dX7_walk_169 rfl rfl ?_
        obtain ⟨q15, hq15, h⟩ := h
        refine eg_callVI (av := [vI l3]) (st := []) dX7_walk_170 ml_7_175 rfl rfl (obC_7 hl0) (by decide) rfl (Nat.le_of_ble_eq_true rfl) (eg_dd (by omega)) hq15 (fun x13 M14 hp => ?_)
        have h := h x13 M14 hp
        refine eg_aload_n 2 dX7_walk_173 rfl rfl ?_
        refine eg_getD dX7_walk_174 fl_7_30 rfl rfl (obC_7 hl0) ?_
        obtain ⟨p16, hp16, ep16, h⟩ := h
        rw [ep16]
        refine eg_getR dX7_walk_177 fl_7_54 rfl rfl (obC_5 hp16) ?_
        show eg_W κ gC mtX7_walk d (eQI κ gC post) 180 [(5, vI x11), (4, vI x6), (0, vR (7, l0)), (1, vI l1), (2, vR (2, l2)), (3, vI l3)] [vR (30, p16), vI x13] M14
        refine eg_iload 1 dX7_walk_180 rfl ?_
        obtain ⟨g17, h⟩ := h
        refine eg_aaload4 dX7_walk_182 (arC_30 hp16 g17) ?_
        show eg_W κ gC mtX7_walk d (eQI κ gC post) 183 [(5, vI x11), (4, vI x6), (0, vR (7, l0)), (1, vI l1), (2, vR (2, l2)), (3, vI l3)] [vR (1, 5 * p16 + x6.toNatClampNeg), vI x13] M14
        refine eg_getI dX7_walk_183 fl_7_178 rfl trivial (obC_1 (ixP5 hp16 g17)) ?_
        refine eg_icmp_ge (tgt := 209) dX7_walk_186 rfl (fun c18 => ?_) (fun c18 => ?_)
        · have h := h.1 c18
          refine eg_sub [2, 3, 4, 1, 0] rfl ?_
          exact h
        · have h := h.2 c18
          refine eg_aload_n 2 dX7_walk_189 rfl rfl ?_
          refine eg_iconst dX7_walk_190 ic_0 ?_
          refine en_putZ dX7_walk_191 fl_7_78 rfl rfl (Or.inl rfl) (obC_7 hl0) (fun M19 eM19 => ?_)
          have h := h M19 eM19
          refine eg_aload_n 2 dX7_walk_194 rfl rfl ?_
          refine eg_aload_n 2 dX7_walk_195 rfl rfl ?_
          refine eg_getR dX7_walk_196 fl_7_27 rfl rfl (obC_7 hl0) ?_
          show eg_W κ gC mtX7_walk d (eQI κ gC post) 199 [(5, vI x11), (4, vI x6), (0, vR (7, l0)), (1, vI l1), (2, vR (2, l2)), (3, vI l3)] [vR (43, l0), vR (7, l0)] M19
          refine eg_iload_n 3 dX7_walk_199 rfl rfl ?_
          obtain ⟨g20, h⟩ := h
          refine eg_iaload dX7_walk_200 (arC_43 hl0 g20) ?_
          refine eg_iload 1 dX7_walk_201 rfl ?_
          obtain ⟨q22, hq22, h⟩ := h
          refine eg_callVV (av := [vI (M19.1 (43, l0) l1.toNatClampNeg), vI x6]) (st := []) dX7_walk_203 ml_7_181 rfl rfl (obC_7 hl0) (by decide) rfl (Nat.le_of_ble_eq_true rfl) (eg_dd (by omega)) hq22 (fun M21 hp => ?_)
          have h := h M21 hp
          refine eg_goto (tgt := 287) dX7_walk_206 rfl ?_
          refine eg_iconst dX7_walk_287 ic_0 ?_
          exact eg_zreturn dX7_walk_288 rfl (Or.inl rfl) h
    clear h
    refine eg_if_eq (tgt := 160) dX7_walk_140 rfl (fun c23 => ?_) (fun c23 => ?_)
    · refine eg_iconst dX7_walk_160 ic_0 ?_
      exact J _ (by rw [if_pos c23])
    · refine eg_aload_n 1 dX7_walk_143 rfl rfl ?_
      refine eg_getR dX7_walk_144 fl_7_17 rfl rfl (obC_7 hl0) ?_
      show eg_W κ gC mtX7_walk d (eQI κ gC post) 147 [(4, vI x6), (0, vR (7, l0)), (1, vI l1), (2, vR (2, l2)), (3, vI l3)] [vR (41, l0)] M4
      refine eg_iload 0 dX7_walk_147 rfl ?_
      refine eg_aaload6 dX7_walk_149 (arC_41 hl0 (g10 (show (¬ x9 = 0) from by first | exact c23 | exact Classical.not_not.mp c23))) ?_
      show eg_W κ gC mtX7_walk d (eQI κ gC post) 150 [(4, vI x6), (0, vR (7, l0)), (1, vI l1), (2, vR (2, l2)), (3, vI l3)] [vR (4, 5 * l0 + x6.toNatClampNeg)] M4
      refine eg_getI dX7_walk_150 fl_7_142 rfl trivial (obC_4 (ixT5 hl0 (g10 (show (¬ x9 = 0) from by first | exact c23 | exact Classical.not_not.mp c23)))) ?_
      refine eg_if_ne (tgt := 160) dX7_walk_153 rfl (fun c24 => ?_) (fun c24 => ?_)
      · refine eg_iconst dX7_walk_160 ic_0 ?_
        exact J _ (by rw [if_neg c23, if_pos c24])
      · have c25 : ¬ (¬ (M4.1 (4, 5 * l0 + x6.toNatClampNeg) 0) = 0) := fun z => z c24
        refine eg_iconst dX7_walk_156 ic_1 ?_
        refine eg_goto (tgt := 161) dX7_walk_157 rfl ?_
        exact J _ (by rw [if_neg c23, if_neg c25])
  · have h := h.2 c2
    refine eg_aload_n 0 dX7_walk_101 rfl rfl ?_
    refine eg_iconst dX7_walk_102 ic_0 ?_
    refine en_putZ dX7_walk_103 fl_7_78 rfl rfl (Or.inl rfl) (obC_7 hl0) (fun M26 eM26 => ?_)
    have h := h M26 eM26
    refine eg_aload_n 0 dX7_walk_106 rfl rfl ?_
    refine eg_iload_n 1 dX7_walk_107 rfl rfl ?_
    obtain ⟨q28, hq28, h⟩ := h
    refine eg_callVV (av := [vI l1]) (st := []) dX7_walk_108 ml_7_166 rfl rfl (obC_7 hl0) (by decide) rfl (Nat.le_of_ble_eq_true rfl) (eg_dd (by omega)) hq28 (fun M27 hp => ?_)
    have h := h M27 hp
    refine eg_iconst dX7_walk_111 ic_1 ?_
    exact eg_zreturn dX7_walk_112 rfl (Or.inr rfl) h
set_option maxRecDepth 10000 in
theorem vX7_walk_209 {κ : eg_K} {d : Nat} (hd : 1 ≤ d) {post : Int32 → eg_H → Prop} (M : eg_H) {l0 : Nat} (hl0 : l0 < 4) (l1 : Int32) {l2 : Nat} (hl2 : l2 < 60) (l4 : Int32) (l5 : Int32) (h : ((¬ l5 = 0) → (∀ M2 : eg_H, M2 = (sI M (7, l0) 7 (0 : Int32)) → (gX2_goWithout M2 l2 l4 ∧ (∀ M4 : eg_H, M4 = (fX2_goWithout M2 l2 l4) → post (0 : Int32) M4)))) ∧ (l5 = 0 → (vp_in l1 15 ∧ eCI κ gC mtX7_leavesOut d [vR (7, l0), vI (M.1 (43, l0) l1.toNatClampNeg), vI l4] M (fun x7 M8 => (x7 = 0 → ((M8.1 (7, l0) 7) = 0 → eg_W κ gC mtX7_walk d (eQI κ gC post) 269 [(2, vR (2, l2))] [vI (0 : Int32), vR (7, l0)] M8) ∧ ((¬ (M8.1 (7, l0) 7) = 0) → (∃ p12 : Nat, p12 < 2 ∧ M8.2.2 (7, l0) 0 = (5, p12) ∧ (vp_in (1 : Int32) 3 ∧ (∀ x14 : Int32, x14 = ((if (¬ (M8.1 (35, p12) (1 : Int32).toNatClampNeg) = (-1 : Int32)) then (0 : Int32) else (1 : Int32))) → eg_W κ gC mtX7_walk d (eQI κ gC post) 269 [(2, vR (2, l2))] [vI x14, vR (7, l0)] M8))))) ∧ ((¬ x7 = 0) → (∀ M17 : eg_H, M17 = (sI M8 (7, l0) 7 (0 : Int32)) → (gX2_goWithout M17 l2 l4 ∧ (∀ M19 : eg_H, M19 = (fX2_goWithout M17 l2 l4) → post (0 : Int32) M19)))))))) : eg_W κ gC mtX7_walk d (eQI κ gC post) 209 [(0, vR (7, l0)), (1, vI l1), (2, vR (2, l2)), (4, vI l4), (5, vI l5)] [] M := by
  refine eg_iload 4 dX7_walk_209 rfl ?_
  refine eg_if_ne (tgt := 229) dX7_walk_211 rfl (fun c1 => ?_) (fun c1 => ?_)
  · have h := h.1 c1
    refine eg_aload_n 0 dX7_walk_229 rfl rfl ?_
    refine eg_iconst dX7_walk_230 ic_0 ?_
    refine en_putZ dX7_walk_231 fl_7_78 rfl rfl (Or.inl rfl) (obC_7 hl0) (fun M2 eM2 => ?_)
    have h := h M2 eM2
    refine eg_aload_n 2 dX7_walk_234 rfl rfl ?_
    refine eg_iload 3 dX7_walk_235 rfl ?_
    obtain ⟨g3, h⟩ := h
    refine eg_callVV (av := [vI l4]) (st := []) dX7_walk_237 ml_7_189 rfl rfl (obC_2 hl2) (by decide) rfl (Nat.le_of_ble_eq_true rfl) (eg_dd (by omega)) (sX2_goWithout (by omega) M2 l2 l4 hl2 g3) (fun M4 eM4 => ?_)
    have h := h M4 eM4
    refine eg_goto (tgt := 287) dX7_walk_240 rfl ?_
    refine eg_iconst dX7_walk_287 ic_0 ?_
    exact eg_zreturn dX7_walk_288 rfl (Or.inl rfl) h
  · have h := h.2 c1
    refine eg_aload_n 0 dX7_walk_214 rfl rfl ?_
    refine eg_aload_n 0 dX7_walk_215 rfl rfl ?_
    refine eg_getR dX7_walk_216 fl_7_27 rfl rfl (obC_7 hl0) ?_
    show eg_W κ gC mtX7_walk d (eQI κ gC post) 219 [(0, vR (7, l0)), (1, vI l1), (2, vR (2, l2)), (4, vI l4), (5, vI l5)] [vR (43, l0), vR (7, l0)] M
    refine eg_iload_n 1 dX7_walk_219 rfl rfl ?_
    obtain ⟨g6, h⟩ := h
    refine eg_iaload dX7_walk_220 (arC_43 hl0 g6) ?_
    refine eg_iload 3 dX7_walk_221 rfl ?_
    obtain ⟨q9, hq9, h⟩ := h
    refine eg_callVI (av := [vI (M.1 (43, l0) l1.toNatClampNeg), vI l4]) (st := []) dX7_walk_223 ml_7_185 rfl rfl (obC_7 hl0) (by decide) rfl (Nat.le_of_ble_eq_true rfl) (eg_dd (by omega)) hq9 (fun x7 M8 hp => ?_)
    have h := h x7 M8 hp
    refine eg_if_eq (tgt := 243) dX7_walk_226 rfl (fun c10 => ?_) (fun c10 => ?_)
    · have h := h.1 c10
      refine eg_aload_n 0 dX7_walk_243 rfl rfl ?_
      refine eg_aload_n 0 dX7_walk_244 rfl rfl ?_
      refine eg_getI dX7_walk_245 fl_7_78 rfl trivial (obC_7 hl0) ?_
      refine eg_if_eq (tgt := 268) dX7_walk_248 rfl (fun c11 => ?_) (fun c11 => ?_)
      · have h := h.1 c11
        refine eg_iconst dX7_walk_268 ic_0 ?_
        refine eg_sub [2] rfl ?_
        exact h
      · have h := h.2 c11
        refine eg_aload_n 0 dX7_walk_251 rfl rfl ?_
        refine eg_getD dX7_walk_252 fl_7_30 rfl rfl (obC_7 hl0) ?_
        obtain ⟨p12, hp12, ep12, h⟩ := h
        rw [ep12]
        refine eg_getR dX7_walk_255 fl_7_192 rfl rfl (obC_5 hp12) ?_
        show eg_W κ gC mtX7_walk d (eQI κ gC post) 258 [(0, vR (7, l0)), (1, vI l1), (2, vR (2, l2)), (4, vI l4), (5, vI l5)] [vR (35, p12), vR (7, l0)] M8
        refine eg_iconst dX7_walk_258 ic_1 ?_
        obtain ⟨g13, h⟩ := h
        refine eg_iaload dX7_walk_259 (arC_35 hp12 g13) ?_
        refine eg_iconst dX7_walk_260 ic_m1 ?_
        have J : ∀ x14 : Int32, x14 = (if (¬ (M8.1 (35, p12) (1 : Int32).toNatClampNeg) = (-1 : Int32)) then (0 : Int32) else (1 : Int32)) → eg_W κ gC mtX7_walk d (eQI κ gC post) 269 [(0, vR (7, l0)), (1, vI l1), (2, vR (2, l2)), (4, vI l4), (5, vI l5)] [vI x14, vR (7, l0)] M8 := by
          intro x14 ex14
          have h := h x14 ex14
          refine eg_sub [2] rfl ?_
          exact h
        clear h
        refine eg_icmp_ne (tgt := 268) dX7_walk_261 rfl (fun c15 => ?_) (fun c15 => ?_)
        · refine eg_iconst dX7_walk_268 ic_0 ?_
          exact J _ (by rw [if_pos c15])
        · have c16 : ¬ (¬ (M8.1 (35, p12) (1 : Int32).toNatClampNeg) = (-1 : Int32)) := fun z => z c15
          refine eg_iconst dX7_walk_264 ic_1 ?_
          refine eg_goto (tgt := 269) dX7_walk_265 rfl ?_
          exact J _ (by rw [if_neg c16])
    · have h := h.2 c10
      refine eg_aload_n 0 dX7_walk_229 rfl rfl ?_
      refine eg_iconst dX7_walk_230 ic_0 ?_
      refine en_putZ dX7_walk_231 fl_7_78 rfl rfl (Or.inl rfl) (obC_7 hl0) (fun M17 eM17 => ?_)
      have h := h M17 eM17
      refine eg_aload_n 2 dX7_walk_234 rfl rfl ?_
      refine eg_iload 3 dX7_walk_235 rfl ?_
      obtain ⟨g18, h⟩ := h
      refine eg_callVV (av := [vI l4]) (st := []) dX7_walk_237 ml_7_189 rfl rfl (obC_2 hl2) (by decide) rfl (Nat.le_of_ble_eq_true rfl) (eg_dd (by omega)) (sX2_goWithout (by omega) M17 l2 l4 hl2 g18) (fun M19 eM19 => ?_)
      have h := h M19 eM19
      refine eg_goto (tgt := 287) dX7_walk_240 rfl ?_
      refine eg_iconst dX7_walk_287 ic_0 ?_
      exact eg_zreturn dX7_walk_288 rfl (Or.inl rfl) h
set_option maxRecDepth 10000 in
theorem vX7_walk_269 {κ : eg_K} {d : Nat} {post : Int32 → eg_H → Prop} (M : eg_H) {l2 : Nat} (hl2 : l2 < 60) (s0 : Int32) {s1 : Nat} (hs1 : s1 < 4) (h : ((s0 = 0 ∨ s0 = 1) ∧ (∀ M1 : eg_H, M1 = (sI M (7, s1) 7 s0) → (∀ M3 : eg_H, M3 = (sI M1 (2, l2) 5 (1 : Int32)) → (∀ M4 : eg_H, M4 = (sI M3 (2, l2) 7 ((M3.1 (2, l2) 7) + (1 : Int32))) → post (0 : Int32) M4))))) : eg_W κ gC mtX7_walk d (eQI κ gC post) 269 [(2, vR (2, l2))] [vI s0, vR (7, s1)] M := by
  obtain ⟨g2, h⟩ := h
  refine en_putZ dX7_walk_269 fl_7_78 rfl rfl g2 (obC_7 hs1) (fun M1 eM1 => ?_)
  have h := h M1 eM1
  refine eg_aload_n 0 dX7_walk_272 rfl rfl ?_
  refine eg_iconst dX7_walk_273 ic_1 ?_
  refine en_putZ dX7_walk_274 fl_7_169 rfl rfl (Or.inr rfl) (obC_2 hl2) (fun M3 eM3 => ?_)
  have h := h M3 eM3
  refine eg_aload_n 0 dX7_walk_277 rfl rfl ?_
  refine eg_dup dX7_walk_278 rfl ?_
  refine eg_getI dX7_walk_279 fl_7_128 rfl trivial (obC_2 hl2) ?_
  refine eg_iconst dX7_walk_282 ic_1 ?_
  refine eg_iadd dX7_walk_283 ?_
  refine en_putI dX7_walk_284 fl_7_128 rfl rfl (obC_2 hl2) (fun M4 eM4 => ?_)
  have h := h M4 eM4
  refine eg_iconst dX7_walk_287 ic_0 ?_
  exact eg_zreturn dX7_walk_288 rfl (Or.inl rfl) h
theorem dX7_take_0 : decode cX7_take 0 = .ok (.aload_n 0, 1) := by decide +kernel
theorem dX7_take_1 : decode cX7_take 1 = .ok (.getfield 23, 3) := by decide +kernel
theorem dX7_take_4 : decode cX7_take 4 = .ok (.iload_n 1, 1) := by decide +kernel
theorem dX7_take_5 : decode cX7_take 5 = .ok (.aaload, 1) := by decide +kernel
theorem dX7_take_6 : decode cX7_take 6 = .ok (.astore_n 3, 1) := by decide +kernel
theorem dX7_take_7 : decode cX7_take 7 = .ok (.aload_n 0, 1) := by decide +kernel
theorem dX7_take_8 : decode cX7_take 8 = .ok (.getfield 17, 3) := by decide +kernel
theorem dX7_take_11 : decode cX7_take 11 = .ok (.iload_n 2, 1) := by decide +kernel
theorem dX7_take_12 : decode cX7_take 12 = .ok (.aaload, 1) := by decide +kernel
theorem dX7_take_13 : decode cX7_take 13 = .ok (.astore 4, 2) := by decide +kernel
theorem dX7_take_15 : decode cX7_take 15 = .ok (.aload_n 0, 1) := by decide +kernel
theorem dX7_take_16 : decode cX7_take 16 = .ok (.getfield 30, 3) := by decide +kernel
theorem dX7_take_19 : decode cX7_take 19 = .ok (.getfield 54, 3) := by decide +kernel
theorem dX7_take_22 : decode cX7_take 22 = .ok (.iload_n 2, 1) := by decide +kernel
theorem dX7_take_23 : decode cX7_take 23 = .ok (.aaload, 1) := by decide +kernel
theorem dX7_take_24 : decode cX7_take 24 = .ok (.astore 5, 2) := by decide +kernel
theorem dX7_take_26 : decode cX7_take 26 = .ok (.aload_n 0, 1) := by decide +kernel
theorem dX7_take_27 : decode cX7_take 27 = .ok (.iload_n 1, 1) := by decide +kernel
theorem dX7_take_28 : decode cX7_take 28 = .ok (.iload_n 2, 1) := by decide +kernel
theorem dX7_take_29 : decode cX7_take 29 = .ok (.invokevirtual 201, 3) := by decide +kernel
theorem dX7_take_32 : decode cX7_take 32 = .ok (.aload_n 0, 1) := by decide +kernel
theorem dX7_take_33 : decode cX7_take 33 = .ok (.getfield 30, 3) := by decide +kernel
theorem dX7_take_36 : decode cX7_take 36 = .ok (.getfield 204, 3) := by decide +kernel
theorem dX7_take_39 : decode cX7_take 39 = .ok (.aload_n 0, 1) := by decide +kernel
theorem dX7_take_40 : decode cX7_take 40 = .ok (.getfield 30, 3) := by decide +kernel
theorem dX7_take_43 : decode cX7_take 43 = .ok (.getfield 192, 3) := by decide +kernel
theorem dX7_take_46 : decode cX7_take 46 = .ok (.iconst 0, 1) := by decide +kernel
theorem dX7_take_47 : decode cX7_take 47 = .ok (.iaload, 1) := by decide +kernel
theorem dX7_take_48 : decode cX7_take 48 = .ok (.invokevirtual 208, 3) := by decide +kernel
theorem dX7_take_51 : decode cX7_take 51 = .ok (.lstore 6, 2) := by decide +kernel
theorem dX7_take_53 : decode cX7_take 53 = .ok (.lload 6, 2) := by decide +kernel
theorem dX7_take_55 : decode cX7_take 55 = .ok (.ldc2_w 214, 3) := by decide +kernel
theorem dX7_take_58 : decode cX7_take 58 = .ok (.lcmp, 1) := by decide +kernel
theorem dX7_take_59 : decode cX7_take 59 = .ok (.ifCond .ne 13, 3) := by decide +kernel
theorem dX7_take_62 : decode cX7_take 62 = .ok (.aload_n 3, 1) := by decide +kernel
theorem dX7_take_63 : decode cX7_take 63 = .ok (.getfield 198, 3) := by decide +kernel
theorem dX7_take_66 : decode cX7_take 66 = .ok (.iload_n 2, 1) := by decide +kernel
theorem dX7_take_67 : decode cX7_take 67 = .ok (.iaload, 1) := by decide +kernel
theorem dX7_take_68 : decode cX7_take 68 = .ok (.i2l, 1) := by decide +kernel
theorem dX7_take_69 : decode cX7_take 69 = .ok (.goto 5, 3) := by decide +kernel
theorem dX7_take_72 : decode cX7_take 72 = .ok (.lload 6, 2) := by decide +kernel
theorem dX7_take_74 : decode cX7_take 74 = .ok (.lstore 6, 2) := by decide +kernel
theorem dX7_take_76 : decode cX7_take 76 = .ok (.lload 6, 2) := by decide +kernel
theorem dX7_take_78 : decode cX7_take 78 = .ok (.lconst 0, 1) := by decide +kernel
theorem dX7_take_79 : decode cX7_take 79 = .ok (.lcmp, 1) := by decide +kernel
theorem dX7_take_80 : decode cX7_take 80 = .ok (.ifCond .ge 7, 3) := by decide +kernel
theorem dX7_take_83 : decode cX7_take 83 = .ok (.lconst 0, 1) := by decide +kernel
theorem dX7_take_84 : decode cX7_take 84 = .ok (.goto 5, 3) := by decide +kernel
theorem dX7_take_87 : decode cX7_take 87 = .ok (.lload 6, 2) := by decide +kernel
theorem dX7_take_89 : decode cX7_take 89 = .ok (.lstore 6, 2) := by decide +kernel
theorem dX7_take_91 : decode cX7_take 91 = .ok (.lload 6, 2) := by decide +kernel
theorem dX7_take_93 : decode cX7_take 93 = .ok (.aload_n 3, 1) := by decide +kernel
theorem dX7_take_94 : decode cX7_take 94 = .ok (.getfield 195, 3) := by decide +kernel
theorem dX7_take_97 : decode cX7_take 97 = .ok (.i2l, 1) := by decide +kernel
theorem dX7_take_98 : decode cX7_take 98 = .ok (.lcmp, 1) := by decide +kernel
theorem dX7_take_99 : decode cX7_take 99 = .ok (.ifCond .le 11, 3) := by decide +kernel
theorem dX7_take_102 : decode cX7_take 102 = .ok (.aload_n 3, 1) := by decide +kernel
theorem dX7_take_103 : decode cX7_take 103 = .ok (.getfield 195, 3) := by decide +kernel
theorem dX7_take_106 : decode cX7_take 106 = .ok (.i2l, 1) := by decide +kernel
theorem dX7_take_107 : decode cX7_take 107 = .ok (.goto 5, 3) := by decide +kernel
theorem dX7_take_110 : decode cX7_take 110 = .ok (.lload 6, 2) := by decide +kernel
theorem dX7_take_112 : decode cX7_take 112 = .ok (.lstore 6, 2) := by decide +kernel
theorem dX7_take_114 : decode cX7_take 114 = .ok (.aload_n 0, 1) := by decide +kernel
theorem dX7_take_115 : decode cX7_take 115 = .ok (.getfield 30, 3) := by decide +kernel
theorem dX7_take_118 : decode cX7_take 118 = .ok (.iload_n 2, 1) := by decide +kernel
theorem dX7_take_119 : decode cX7_take 119 = .ok (.invokevirtual 172, 3) := by decide +kernel
theorem dX7_take_122 : decode cX7_take 122 = .ok (.ifCond .eq 23, 3) := by decide +kernel
theorem dX7_take_125 : decode cX7_take 125 = .ok (.lload 6, 2) := by decide +kernel
theorem dX7_take_127 : decode cX7_take 127 = .ok (.aload 4, 2) := by decide +kernel
theorem dX7_take_129 : decode cX7_take 129 = .ok (.getfield 142, 3) := by decide +kernel
theorem dX7_take_132 : decode cX7_take 132 = .ok (.i2l, 1) := by decide +kernel
theorem dX7_take_133 : decode cX7_take 133 = .ok (.lcmp, 1) := by decide +kernel
theorem dX7_take_134 : decode cX7_take 134 = .ok (.ifCond .le 11, 3) := by decide +kernel
theorem dX7_take_137 : decode cX7_take 137 = .ok (.aload 4, 2) := by decide +kernel
theorem dX7_take_139 : decode cX7_take 139 = .ok (.getfield 142, 3) := by decide +kernel
theorem dX7_take_142 : decode cX7_take 142 = .ok (.i2l, 1) := by decide +kernel
theorem dX7_take_143 : decode cX7_take 143 = .ok (.lstore 6, 2) := by decide +kernel
theorem dX7_take_145 : decode cX7_take 145 = .ok (.lload 6, 2) := by decide +kernel
theorem dX7_take_147 : decode cX7_take 147 = .ok (.l2i, 1) := by decide +kernel
theorem dX7_take_148 : decode cX7_take 148 = .ok (.istore 8, 2) := by decide +kernel
theorem dX7_take_150 : decode cX7_take 150 = .ok (.aload_n 0, 1) := by decide +kernel
theorem dX7_take_151 : decode cX7_take 151 = .ok (.getfield 30, 3) := by decide +kernel
theorem dX7_take_154 : decode cX7_take 154 = .ok (.iload_n 2, 1) := by decide +kernel
theorem dX7_take_155 : decode cX7_take 155 = .ok (.invokevirtual 172, 3) := by decide +kernel
theorem dX7_take_158 : decode cX7_take 158 = .ok (.ifCond .eq 15, 3) := by decide +kernel
theorem dX7_take_161 : decode cX7_take 161 = .ok (.aload 4, 2) := by decide +kernel
theorem dX7_take_163 : decode cX7_take 163 = .ok (.dup, 1) := by decide +kernel
theorem dX7_take_164 : decode cX7_take 164 = .ok (.getfield 142, 3) := by decide +kernel
theorem dX7_take_167 : decode cX7_take 167 = .ok (.iload 8, 2) := by decide +kernel
theorem dX7_take_169 : decode cX7_take 169 = .ok (.isub, 1) := by decide +kernel
theorem dX7_take_170 : decode cX7_take 170 = .ok (.putfield 142, 3) := by decide +kernel
theorem dX7_take_173 : decode cX7_take 173 = .ok (.aload 4, 2) := by decide +kernel
theorem dX7_take_175 : decode cX7_take 175 = .ok (.dup, 1) := by decide +kernel
theorem dX7_take_176 : decode cX7_take 176 = .ok (.getfield 216, 3) := by decide +kernel
theorem dX7_take_179 : decode cX7_take 179 = .ok (.iload 8, 2) := by decide +kernel
theorem dX7_take_181 : decode cX7_take 181 = .ok (.iadd, 1) := by decide +kernel
theorem dX7_take_182 : decode cX7_take 182 = .ok (.putfield 216, 3) := by decide +kernel
theorem dX7_take_185 : decode cX7_take 185 = .ok (.aload 5, 2) := by decide +kernel
theorem dX7_take_187 : decode cX7_take 187 = .ok (.getfield 219, 3) := by decide +kernel
theorem dX7_take_190 : decode cX7_take 190 = .ok (.ifCond .le 28, 3) := by decide +kernel
theorem dX7_take_193 : decode cX7_take 193 = .ok (.aload 4, 2) := by decide +kernel
theorem dX7_take_195 : decode cX7_take 195 = .ok (.getfield 136, 3) := by decide +kernel
theorem dX7_take_198 : decode cX7_take 198 = .ok (.aload 5, 2) := by decide +kernel
theorem dX7_take_200 : decode cX7_take 200 = .ok (.getfield 219, 3) := by decide +kernel
theorem dX7_take_203 : decode cX7_take 203 = .ok (.if_icmp .lt 15, 3) := by decide +kernel
theorem dX7_take_206 : decode cX7_take 206 = .ok (.aload 4, 2) := by decide +kernel
theorem dX7_take_208 : decode cX7_take 208 = .ok (.dup, 1) := by decide +kernel
theorem dX7_take_209 : decode cX7_take 209 = .ok (.getfield 222, 3) := by decide +kernel
theorem dX7_take_212 : decode cX7_take 212 = .ok (.iload 8, 2) := by decide +kernel
theorem dX7_take_214 : decode cX7_take 214 = .ok (.iadd, 1) := by decide +kernel
theorem dX7_take_215 : decode cX7_take 215 = .ok (.putfield 222, 3) := by decide +kernel
theorem dX7_take_218 : decode cX7_take 218 = .ok (.aload_n 3, 1) := by decide +kernel
theorem dX7_take_219 : decode cX7_take 219 = .ok (.dup, 1) := by decide +kernel
theorem dX7_take_220 : decode cX7_take 220 = .ok (.getfield 195, 3) := by decide +kernel
theorem dX7_take_223 : decode cX7_take 223 = .ok (.iload 8, 2) := by decide +kernel
theorem dX7_take_225 : decode cX7_take 225 = .ok (.isub, 1) := by decide +kernel
theorem dX7_take_226 : decode cX7_take 226 = .ok (.putfield 195, 3) := by decide +kernel
theorem dX7_take_229 : decode cX7_take 229 = .ok (.aload_n 3, 1) := by decide +kernel
theorem dX7_take_230 : decode cX7_take 230 = .ok (.dup, 1) := by decide +kernel
theorem dX7_take_231 : decode cX7_take 231 = .ok (.getfield 223, 3) := by decide +kernel
theorem dX7_take_234 : decode cX7_take 234 = .ok (.iload 8, 2) := by decide +kernel
theorem dX7_take_236 : decode cX7_take 236 = .ok (.iadd, 1) := by decide +kernel
theorem dX7_take_237 : decode cX7_take 237 = .ok (.putfield 223, 3) := by decide +kernel
theorem dX7_take_240 : decode cX7_take 240 = .ok (.aload_n 3, 1) := by decide +kernel
theorem dX7_take_241 : decode cX7_take 241 = .ok (.getfield 198, 3) := by decide +kernel
theorem dX7_take_244 : decode cX7_take 244 = .ok (.iload_n 2, 1) := by decide +kernel
theorem dX7_take_245 : decode cX7_take 245 = .ok (.iload 8, 2) := by decide +kernel
theorem dX7_take_247 : decode cX7_take 247 = .ok (.aload_n 3, 1) := by decide +kernel
theorem dX7_take_248 : decode cX7_take 248 = .ok (.getfield 198, 3) := by decide +kernel
theorem dX7_take_251 : decode cX7_take 251 = .ok (.iload_n 2, 1) := by decide +kernel
theorem dX7_take_252 : decode cX7_take 252 = .ok (.iaload, 1) := by decide +kernel
theorem dX7_take_253 : decode cX7_take 253 = .ok (.if_icmp .ge 15, 3) := by decide +kernel
theorem dX7_take_256 : decode cX7_take 256 = .ok (.aload_n 3, 1) := by decide +kernel
theorem dX7_take_257 : decode cX7_take 257 = .ok (.getfield 198, 3) := by decide +kernel
theorem dX7_take_260 : decode cX7_take 260 = .ok (.iload_n 2, 1) := by decide +kernel
theorem dX7_take_261 : decode cX7_take 261 = .ok (.iaload, 1) := by decide +kernel
theorem dX7_take_262 : decode cX7_take 262 = .ok (.iload 8, 2) := by decide +kernel
theorem dX7_take_264 : decode cX7_take 264 = .ok (.isub, 1) := by decide +kernel
theorem dX7_take_265 : decode cX7_take 265 = .ok (.goto 4, 3) := by decide +kernel
theorem dX7_take_268 : decode cX7_take 268 = .ok (.iconst 0, 1) := by decide +kernel
theorem dX7_take_269 : decode cX7_take 269 = .ok (.iastore, 1) := by decide +kernel
theorem dX7_take_270 : decode cX7_take 270 = .ok (.aload_n 3, 1) := by decide +kernel
theorem dX7_take_271 : decode cX7_take 271 = .ok (.aload 5, 2) := by decide +kernel
theorem dX7_take_273 : decode cX7_take 273 = .ok (.getfield 224, 3) := by decide +kernel
theorem dX7_take_276 : decode cX7_take 276 = .ok (.putfield 125, 3) := by decide +kernel
theorem dX7_take_279 : decode cX7_take 279 = .ok (.return_, 1) := by decide +kernel
set_option maxRecDepth 10000 in
theorem vX7_take_0 {κ : eg_K} {d : Nat} (hd : 1 ≤ d) {post : eg_H → Prop} (M : eg_H) {l0 : Nat} (hl0 : l0 < 4) (l1 : Int32) (l2 : Int32) (h : (vp_in l1 15 ∧ (vp_in l2 5 ∧ (∃ p3 : Nat, p3 < 2 ∧ M.2.2 (7, l0) 0 = (5, p3) ∧ eCV κ gC mtX7_describe d [vR (7, l0), vI l1, vI l2] M (fun M4 => (∃ p6 : Nat, p6 < 2 ∧ M4.2.2 (7, l0) 0 = (5, p6) ∧ (vp_in (0 : Int32) 3 ∧ eCL κ gC mtX3_value d [vR (3, p6), vI (M4.1 (35, p6) (0 : Int32).toNatClampNeg)] M4 (fun x8 M9 => (∀ x11 : Int64, x11 = ((if (¬ (lg_cmp x8 (-9223372036854775808 : Int64)) = 0) then x8 else ((M9.1 (22, 15 * l0 + l1.toNatClampNeg) l2.toNatClampNeg).toInt64))) → (∀ x12 : Int64, x12 = ((if 0 ≤ (lg_cmp x11 (0 : Int64)) then x11 else (0 : Int64))) → (∀ x13 : Int64, x13 = ((if (lg_cmp x12 ((M9.1 (2, 15 * l0 + l1.toNatClampNeg) 2).toInt64)) ≤ 0 then x12 else ((M9.1 (2, 15 * l0 + l1.toNatClampNeg) 2).toInt64))) → (∃ p14 : Nat, p14 < 2 ∧ M9.2.2 (7, l0) 0 = (5, p14) ∧ (gX5_hasPan M9 p14 l2 ∧ (∀ x17 : Int32, x17 = (fX5_hasPan M9 p14 l2) → (x17 = 0 → eg_W κ gC mtX7_take d (eQV κ gC post) 145 [(0, vR (7, l0)), (2, vI l2), (3, vR (2, 15 * l0 + l1.toNatClampNeg)), (4, vR (4, 5 * l0 + l2.toNatClampNeg)), (5, vR (1, 5 * p3 + l2.toNatClampNeg)), (6, vL x13)] [] M9) ∧ ((¬ x17 = 0) → ((lg_cmp x13 ((M9.1 (4, 5 * l0 + l2.toNatClampNeg) 0).toInt64)) ≤ 0 → eg_W κ gC mtX7_take d (eQV κ gC post) 145 [(0, vR (7, l0)), (2, vI l2), (3, vR (2, 15 * l0 + l1.toNatClampNeg)), (4, vR (4, 5 * l0 + l2.toNatClampNeg)), (5, vR (1, 5 * p3 + l2.toNatClampNeg)), (6, vL x13)] [] M9) ∧ ((¬ (lg_cmp x13 ((M9.1 (4, 5 * l0 + l2.toNatClampNeg) 0).toInt64)) ≤ 0) → (∀ x20 : Int64, x20 = ((M9.1 (4, 5 * l0 + l2.toNatClampNeg) 0).toInt64) → eg_W κ gC mtX7_take d (eQV κ gC post) 145 [(0, vR (7, l0)), (2, vI l2), (3, vR (2, 15 * l0 + l1.toNatClampNeg)), (4, vR (4, 5 * l0 + l2.toNatClampNeg)), (5, vR (1, 5 * p3 + l2.toNatClampNeg)), (6, vL x20)] [] M9))))))))))))))))) : eg_W κ gC mtX7_take d (eQV κ gC post) 0 [(0, vR (7, l0)), (1, vI l1), (2, vI l2)] [] M := by
  refine eg_aload_n 0 dX7_take_0 rfl rfl ?_
  refine eg_getR dX7_take_1 fl_7_23 rfl rfl (obC_7 hl0) ?_
  show eg_W κ gC mtX7_take d (eQV κ gC post) 4 [(0, vR (7, l0)), (1, vI l1), (2, vI l2)] [vR (42, l0)] M
  refine eg_iload_n 1 dX7_take_4 rfl rfl ?_
  obtain ⟨g1, h⟩ := h
  refine eg_aaload7 dX7_take_5 (arC_42 hl0 g1) ?_
  show eg_W κ gC mtX7_take d (eQV κ gC post) 6 [(0, vR (7, l0)), (1, vI l1), (2, vI l2)] [vR (2, 15 * l0 + l1.toNatClampNeg)] M
  refine eg_astore_n dX7_take_6 rfl (by decide) (ls1 := [(3, vR (2, 15 * l0 + l1.toNatClampNeg)), (0, vR (7, l0)), (1, vI l1), (2, vI l2)]) rfl ?_
  refine eg_aload_n 1 dX7_take_7 rfl rfl ?_
  refine eg_getR dX7_take_8 fl_7_17 rfl rfl (obC_7 hl0) ?_
  show eg_W κ gC mtX7_take d (eQV κ gC post) 11 [(3, vR (2, 15 * l0 + l1.toNatClampNeg)), (0, vR (7, l0)), (1, vI l1), (2, vI l2)] [vR (41, l0)] M
  refine eg_iload_n 3 dX7_take_11 rfl rfl ?_
  obtain ⟨g2, h⟩ := h
  refine eg_aaload6 dX7_take_12 (arC_41 hl0 g2) ?_
  show eg_W κ gC mtX7_take d (eQV κ gC post) 13 [(3, vR (2, 15 * l0 + l1.toNatClampNeg)), (0, vR (7, l0)), (1, vI l1), (2, vI l2)] [vR (4, 5 * l0 + l2.toNatClampNeg)] M
  refine eg_astore dX7_take_13 (by decide) (ls1 := [(4, vR (4, 5 * l0 + l2.toNatClampNeg)), (3, vR (2, 15 * l0 + l1.toNatClampNeg)), (0, vR (7, l0)), (1, vI l1), (2, vI l2)]) rfl ?_
  refine eg_aload_n 2 dX7_take_15 rfl rfl ?_
  refine eg_getD dX7_take_16 fl_7_30 rfl rfl (obC_7 hl0) ?_
  obtain ⟨p3, hp3, ep3, h⟩ := h
  rw [ep3]
  refine eg_getR dX7_take_19 fl_7_54 rfl rfl (obC_5 hp3) ?_
  show eg_W κ gC mtX7_take d (eQV κ gC post) 22 [(4, vR (4, 5 * l0 + l2.toNatClampNeg)), (3, vR (2, 15 * l0 + l1.toNatClampNeg)), (0, vR (7, l0)), (1, vI l1), (2, vI l2)] [vR (30, p3)] M
  refine eg_iload_n 4 dX7_take_22 rfl rfl ?_
  refine eg_aaload4 dX7_take_23 (arC_30 hp3 g2) ?_
  show eg_W κ gC mtX7_take d (eQV κ gC post) 24 [(4, vR (4, 5 * l0 + l2.toNatClampNeg)), (3, vR (2, 15 * l0 + l1.toNatClampNeg)), (0, vR (7, l0)), (1, vI l1), (2, vI l2)] [vR (1, 5 * p3 + l2.toNatClampNeg)] M
  refine eg_astore dX7_take_24 (by decide) (ls1 := [(5, vR (1, 5 * p3 + l2.toNatClampNeg)), (4, vR (4, 5 * l0 + l2.toNatClampNeg)), (3, vR (2, 15 * l0 + l1.toNatClampNeg)), (0, vR (7, l0)), (1, vI l1), (2, vI l2)]) rfl ?_
  refine eg_aload_n 3 dX7_take_26 rfl rfl ?_
  refine eg_iload_n 4 dX7_take_27 rfl rfl ?_
  refine eg_iload_n 5 dX7_take_28 rfl rfl ?_
  obtain ⟨q5, hq5, h⟩ := h
  refine eg_callVV (av := [vI l1, vI l2]) (st := []) dX7_take_29 ml_7_201 rfl rfl (obC_7 hl0) (by decide) rfl (Nat.le_of_ble_eq_true rfl) (eg_dd (by omega)) hq5 (fun M4 hp => ?_)
  have h := h M4 hp
  refine eg_aload_n 3 dX7_take_32 rfl rfl ?_
  refine eg_getD dX7_take_33 fl_7_30 rfl rfl (obC_7 hl0) ?_
  obtain ⟨p6, hp6, ep6, h⟩ := h
  rw [ep6]
  refine eg_getR dX7_take_36 fl_7_204 rfl rfl (obC_5 hp6) ?_
  show eg_W κ gC mtX7_take d (eQV κ gC post) 39 [(5, vR (1, 5 * p3 + l2.toNatClampNeg)), (4, vR (4, 5 * l0 + l2.toNatClampNeg)), (3, vR (2, 15 * l0 + l1.toNatClampNeg)), (0, vR (7, l0)), (1, vI l1), (2, vI l2)] [vR (3, p6)] M4
  refine eg_aload_n 3 dX7_take_39 rfl rfl ?_
  refine eg_getD dX7_take_40 fl_7_30 rfl rfl (obC_7 hl0) ?_
  rw [ep6]
  refine eg_getR dX7_take_43 fl_7_192 rfl rfl (obC_5 hp6) ?_
  show eg_W κ gC mtX7_take d (eQV κ gC post) 46 [(5, vR (1, 5 * p3 + l2.toNatClampNeg)), (4, vR (4, 5 * l0 + l2.toNatClampNeg)), (3, vR (2, 15 * l0 + l1.toNatClampNeg)), (0, vR (7, l0)), (1, vI l1), (2, vI l2)] [vR (35, p6), vR (3, p6)] M4
  refine eg_iconst dX7_take_46 ic_0 ?_
  obtain ⟨g7, h⟩ := h
  refine eg_iaload dX7_take_47 (arC_35 hp6 g7) ?_
  obtain ⟨q10, hq10, h⟩ := h
  refine eg_callVL (av := [vI (M4.1 (35, p6) (0 : Int32).toNatClampNeg)]) (st := []) dX7_take_48 ml_7_208 rfl rfl (obC_3 hp6) (by decide) rfl (Nat.le_of_ble_eq_true rfl) (eg_dd (by omega)) hq10 (fun x8 M9 hp => ?_)
  have h := h x8 M9 hp
  refine eg_lstore dX7_take_51 (by decide) (ls1 := [(6, vL x8), (5, vR (1, 5 * p3 + l2.toNatClampNeg)), (4, vR (4, 5 * l0 + l2.toNatClampNeg)), (3, vR (2, 15 * l0 + l1.toNatClampNeg)), (0, vR (7, l0)), (1, vI l1), (2, vI l2)]) rfl ?_
  refine eg_lload 0 dX7_take_53 rfl ?_
  refine eg_ldc2 dX7_take_55 kc_7_214 ?_
  refine eg_lcmp dX7_take_58 ?_
  have J : ∀ x11 : Int64, x11 = (if (¬ (lg_cmp x8 (-9223372036854775808 : Int64)) = 0) then x8 else ((M9.1 (22, 15 * l0 + l1.toNatClampNeg) l2.toNatClampNeg).toInt64)) → eg_W κ gC mtX7_take d (eQV κ gC post) 74 [(6, vL x8), (5, vR (1, 5 * p3 + l2.toNatClampNeg)), (4, vR (4, 5 * l0 + l2.toNatClampNeg)), (3, vR (2, 15 * l0 + l1.toNatClampNeg)), (0, vR (7, l0)), (1, vI l1), (2, vI l2)] [vL x11] M9 := by
    intro x11 ex11
    have h := h x11 ex11
    refine eg_lstore dX7_take_74 (by decide) (ls1 := [(6, vL x11), (5, vR (1, 5 * p3 + l2.toNatClampNeg)), (4, vR (4, 5 * l0 + l2.toNatClampNeg)), (3, vR (2, 15 * l0 + l1.toNatClampNeg)), (0, vR (7, l0)), (1, vI l1), (2, vI l2)]) rfl ?_
    refine eg_lload 0 dX7_take_76 rfl ?_
    refine eg_lconst dX7_take_78 lc_0 ?_
    refine eg_lcmp dX7_take_79 ?_
    have J : ∀ x12 : Int64, x12 = (if 0 ≤ (lg_cmp x11 (0 : Int64)) then x11 else (0 : Int64)) → eg_W κ gC mtX7_take d (eQV κ gC post) 89 [(6, vL x11), (5, vR (1, 5 * p3 + l2.toNatClampNeg)), (4, vR (4, 5 * l0 + l2.toNatClampNeg)), (3, vR (2, 15 * l0 + l1.toNatClampNeg)), (0, vR (7, l0)), (1, vI l1), (2, vI l2)] [vL x12] M9 := by
      intro x12 ex12
      have h := h x12 ex12
      refine eg_lstore dX7_take_89 (by decide) (ls1 := [(6, vL x12), (5, vR (1, 5 * p3 + l2.toNatClampNeg)), (4, vR (4, 5 * l0 + l2.toNatClampNeg)), (3, vR (2, 15 * l0 + l1.toNatClampNeg)), (0, vR (7, l0)), (1, vI l1), (2, vI l2)]) rfl ?_
      refine eg_lload 0 dX7_take_91 rfl ?_
      refine eg_aload_n 3 dX7_take_93 rfl rfl ?_
      refine eg_getI dX7_take_94 fl_7_195 rfl trivial (obC_2 (ixT15 hl0 g1)) ?_
      refine eg_i2l dX7_take_97 ?_
      refine eg_lcmp dX7_take_98 ?_
      have J : ∀ x13 : Int64, x13 = (if (lg_cmp x12 ((M9.1 (2, 15 * l0 + l1.toNatClampNeg) 2).toInt64)) ≤ 0 then x12 else ((M9.1 (2, 15 * l0 + l1.toNatClampNeg) 2).toInt64)) → eg_W κ gC mtX7_take d (eQV κ gC post) 112 [(6, vL x12), (5, vR (1, 5 * p3 + l2.toNatClampNeg)), (4, vR (4, 5 * l0 + l2.toNatClampNeg)), (3, vR (2, 15 * l0 + l1.toNatClampNeg)), (0, vR (7, l0)), (1, vI l1), (2, vI l2)] [vL x13] M9 := by
        intro x13 ex13
        have h := h x13 ex13
        refine eg_lstore dX7_take_112 (by decide) (ls1 := [(6, vL x13), (5, vR (1, 5 * p3 + l2.toNatClampNeg)), (4, vR (4, 5 * l0 + l2.toNatClampNeg)), (3, vR (2, 15 * l0 + l1.toNatClampNeg)), (0, vR (7, l0)), (1, vI l1), (2, vI l2)]) rfl ?_
        refine eg_aload_n 4 dX7_take_114 rfl rfl ?_
        refine eg_getD dX7_take_115 fl_7_30 rfl rfl (obC_7 hl0) ?_
        obtain ⟨p14, hp14, ep14, h⟩ := h
        rw [ep14]
        refine eg_iload_n 6 dX7_take_118 rfl rfl ?_
        obtain ⟨g15, h⟩ := h
        refine eg_callVI (av := [vI l2]) (st := []) dX7_take_119 ml_7_172 rfl rfl (obC_5 hp14) (by decide) rfl (Nat.le_of_ble_eq_true rfl) (eg_dd (by omega)) (sX5_hasPan (by omega) M9 p14 l2 hp14 g15) (fun x17 M16 hp => ?_)
        obtain ⟨ex17, eM16⟩ := hp
        rw [eM16]
        have h := h x17 ex17
        refine eg_if_eq (tgt := 145) dX7_take_122 rfl (fun c18 => ?_) (fun c18 => ?_)
        · have h := h.1 c18
          refine eg_sub [4, 6, 3, 2, 1, 0] rfl ?_
          exact h
        · have h := h.2 c18
          refine eg_lload 0 dX7_take_125 rfl ?_
          refine eg_aload 2 dX7_take_127 rfl ?_
          refine eg_getI dX7_take_129 fl_7_142 rfl trivial (obC_4 (ixT5 hl0 g2)) ?_
          refine eg_i2l dX7_take_132 ?_
          refine eg_lcmp dX7_take_133 ?_
          refine eg_if_le (tgt := 145) dX7_take_134 rfl (fun c19 => ?_) (fun c19 => ?_)
          · have h := h.1 c19
            refine eg_sub [4, 6, 3, 2, 1, 0] rfl ?_
            exact h
          · have h := h.2 c19
            refine eg_aload 2 dX7_take_137 rfl ?_
            refine eg_getI dX7_take_139 fl_7_142 rfl trivial (obC_4 (ixT5 hl0 g2)) ?_
            refine eg_i2l dX7_take_142 ?_
            refine en_lstore (f := fun x20 => [(6, vL x20), (5, vR (1, 5 * p3 + l2.toNatClampNeg)), (4, vR (4, 5 * l0 + l2.toNatClampNeg)), (3, vR (2, 15 * l0 + l1.toNatClampNeg)), (0, vR (7, l0)), (1, vI l1), (2, vI l2)]) dX7_take_143 (by decide) rfl (fun x20 ex20 => ?_)
            have h := h x20 ex20
            refine eg_sub [4, 6, 3, 2, 1, 0] rfl ?_
            exact h
      clear h
      refine eg_if_le (tgt := 110) dX7_take_99 rfl (fun c21 => ?_) (fun c21 => ?_)
      · refine eg_lload 0 dX7_take_110 rfl ?_
        exact J _ (by rw [if_pos c21])
      · refine eg_aload_n 3 dX7_take_102 rfl rfl ?_
        refine eg_getI dX7_take_103 fl_7_195 rfl trivial (obC_2 (ixT15 hl0 g1)) ?_
        refine eg_i2l dX7_take_106 ?_
        refine eg_goto (tgt := 112) dX7_take_107 rfl ?_
        exact J _ (by rw [if_neg c21])
    clear h
    refine eg_if_ge (tgt := 87) dX7_take_80 rfl (fun c22 => ?_) (fun c22 => ?_)
    · refine eg_lload 0 dX7_take_87 rfl ?_
      exact J _ (by rw [if_pos c22])
    · refine eg_lconst dX7_take_83 lc_0 ?_
      refine eg_goto (tgt := 89) dX7_take_84 rfl ?_
      exact J _ (by rw [if_neg c22])
  clear h
  refine eg_if_ne (tgt := 72) dX7_take_59 rfl (fun c23 => ?_) (fun c23 => ?_)
  · refine eg_lload 0 dX7_take_72 rfl ?_
    exact J _ (by rw [if_pos c23])
  · have c24 : ¬ (¬ (lg_cmp x8 (-9223372036854775808 : Int64)) = 0) := fun z => z c23
    refine eg_aload_n 3 dX7_take_62 rfl rfl ?_
    refine eg_getR dX7_take_63 fl_7_198 rfl rfl (obC_2 (ixT15 hl0 g1)) ?_
    show eg_W κ gC mtX7_take d (eQV κ gC post) 66 [(6, vL x8), (5, vR (1, 5 * p3 + l2.toNatClampNeg)), (4, vR (4, 5 * l0 + l2.toNatClampNeg)), (3, vR (2, 15 * l0 + l1.toNatClampNeg)), (0, vR (7, l0)), (1, vI l1), (2, vI l2)] [vR (22, 15 * l0 + l1.toNatClampNeg)] M9
    refine eg_iload_n 6 dX7_take_66 rfl rfl ?_
    refine eg_iaload dX7_take_67 (arC_22 (ixT15 hl0 g1) g2) ?_
    refine eg_i2l dX7_take_68 ?_
    refine eg_goto (tgt := 74) dX7_take_69 rfl ?_
    exact J _ (by rw [if_neg c24])
set_option maxRecDepth 10000 in
theorem vX7_take_145 {κ : eg_K} {d : Nat} (hd : 1 ≤ d) {post : eg_H → Prop} (M : eg_H) {l0 : Nat} (hl0 : l0 < 4) (l2 : Int32) {l3 : Nat} (hl3 : l3 < 60) {l4 : Nat} (hl4 : l4 < 20) {l5 : Nat} (hl5 : l5 < 10) (l6 : Int64) (h : (∀ x1 : Int32, x1 = (l6.toInt32) → (∃ p2 : Nat, p2 < 2 ∧ M.2.2 (7, l0) 0 = (5, p2) ∧ (gX5_hasPan M p2 l2 ∧ (∀ x5 : Int32, x5 = (fX5_hasPan M p2 l2) → (x5 = 0 → eg_W κ gC mtX7_take d (eQV κ gC post) 173 [(2, vI l2), (3, vR (2, l3)), (4, vR (4, l4)), (5, vR (1, l5)), (8, vI x1)] [] M) ∧ ((¬ x5 = 0) → (∀ M7 : eg_H, M7 = (sI M (4, l4) 0 ((M.1 (4, l4) 0) - x1)) → eg_W κ gC mtX7_take d (eQV κ gC post) 173 [(2, vI l2), (3, vR (2, l3)), (4, vR (4, l4)), (5, vR (1, l5)), (8, vI x1)] [] M7))))))) : eg_W κ gC mtX7_take d (eQV κ gC post) 145 [(0, vR (7, l0)), (2, vI l2), (3, vR (2, l3)), (4, vR (4, l4)), (5, vR (1, l5)), (6, vL l6)] [] M := by
  refine eg_lload 5 dX7_take_145 rfl ?_
  refine eg_l2i dX7_take_147 ?_
  refine en_istore (f := fun x1 => [(8, vI x1), (0, vR (7, l0)), (2, vI l2), (3, vR (2, l3)), (4, vR (4, l4)), (5, vR (1, l5)), (6, vL l6)]) dX7_take_148 (by decide) rfl (fun x1 ex1 => ?_)
  have h := h x1 ex1
  refine eg_aload_n 1 dX7_take_150 rfl rfl ?_
  refine eg_getD dX7_take_151 fl_7_30 rfl rfl (obC_7 hl0) ?_
  obtain ⟨p2, hp2, ep2, h⟩ := h
  rw [ep2]
  refine eg_iload_n 2 dX7_take_154 rfl rfl ?_
  obtain ⟨g3, h⟩ := h
  refine eg_callVI (av := [vI l2]) (st := []) dX7_take_155 ml_7_172 rfl rfl (obC_5 hp2) (by decide) rfl (Nat.le_of_ble_eq_true rfl) (eg_dd (by omega)) (sX5_hasPan (by omega) M p2 l2 hp2 g3) (fun x5 M4 hp => ?_)
  obtain ⟨ex5, eM4⟩ := hp
  rw [eM4]
  have h := h x5 ex5
  refine eg_if_eq (tgt := 173) dX7_take_158 rfl (fun c6 => ?_) (fun c6 => ?_)
  · have h := h.1 c6
    refine eg_sub [2, 3, 4, 5, 0] rfl ?_
    exact h
  · have h := h.2 c6
    refine eg_aload 4 dX7_take_161 rfl ?_
    refine eg_dup dX7_take_163 rfl ?_
    refine eg_getI dX7_take_164 fl_7_142 rfl trivial (obC_4 hl4) ?_
    refine eg_iload 0 dX7_take_167 rfl ?_
    refine eg_isub dX7_take_169 ?_
    refine en_putI dX7_take_170 fl_7_142 rfl rfl (obC_4 hl4) (fun M7 eM7 => ?_)
    have h := h M7 eM7
    refine eg_sub [2, 3, 4, 5, 0] rfl ?_
    exact h
set_option maxRecDepth 10000 in
theorem vX7_take_173 {κ : eg_K} {d : Nat} {post : eg_H → Prop} (M : eg_H) (l2 : Int32) {l3 : Nat} (hl3 : l3 < 60) {l4 : Nat} (hl4 : l4 < 20) {l5 : Nat} (hl5 : l5 < 10) (l8 : Int32) (h : (∀ M1 : eg_H, M1 = (sI M (4, l4) 3 ((M.1 (4, l4) 3) + l8)) → ((M1.1 (1, l5) 6) ≤ 0 → eg_W κ gC mtX7_take d (eQV κ gC post) 218 [(2, vI l2), (3, vR (2, l3)), (5, vR (1, l5)), (8, vI l8)] [] M1) ∧ ((¬ (M1.1 (1, l5) 6) ≤ 0) → ((M1.1 (4, l4) 1) < (M1.1 (1, l5) 6) → eg_W κ gC mtX7_take d (eQV κ gC post) 218 [(2, vI l2), (3, vR (2, l3)), (5, vR (1, l5)), (8, vI l8)] [] M1) ∧ ((¬ (M1.1 (4, l4) 1) < (M1.1 (1, l5) 6)) → (∀ M4 : eg_H, M4 = (sI M1 (4, l4) 4 ((M1.1 (4, l4) 4) + l8)) → eg_W κ gC mtX7_take d (eQV κ gC post) 218 [(2, vI l2), (3, vR (2, l3)), (5, vR (1, l5)), (8, vI l8)] [] M4))))) : eg_W κ gC mtX7_take d (eQV κ gC post) 173 [(2, vI l2), (3, vR (2, l3)), (4, vR (4, l4)), (5, vR (1, l5)), (8, vI l8)] [] M := by
  refine eg_aload 2 dX7_take_173 rfl ?_
  refine eg_dup dX7_take_175 rfl ?_
  refine eg_getI dX7_take_176 fl_7_216 rfl trivial (obC_4 hl4) ?_
  refine eg_iload 4 dX7_take_179 rfl ?_
  refine eg_iadd dX7_take_181 ?_
  refine en_putI dX7_take_182 fl_7_216 rfl rfl (obC_4 hl4) (fun M1 eM1 => ?_)
  have h := h M1 eM1
  refine eg_aload 3 dX7_take_185 rfl ?_
  refine eg_getI dX7_take_187 fl_7_219 rfl trivial (obC_1 hl5) ?_
  refine eg_if_le (tgt := 218) dX7_take_190 rfl (fun c2 => ?_) (fun c2 => ?_)
  · have h := h.1 c2
    refine eg_sub [0, 1, 3, 4] rfl ?_
    exact h
  · have h := h.2 c2
    refine eg_aload 2 dX7_take_193 rfl ?_
    refine eg_getI dX7_take_195 fl_7_136 rfl trivial (obC_4 hl4) ?_
    refine eg_aload 3 dX7_take_198 rfl ?_
    refine eg_getI dX7_take_200 fl_7_219 rfl trivial (obC_1 hl5) ?_
    refine eg_icmp_lt (tgt := 218) dX7_take_203 rfl (fun c3 => ?_) (fun c3 => ?_)
    · have h := h.1 c3
      refine eg_sub [0, 1, 3, 4] rfl ?_
      exact h
    · have h := h.2 c3
      refine eg_aload 2 dX7_take_206 rfl ?_
      refine eg_dup dX7_take_208 rfl ?_
      refine eg_getI dX7_take_209 fl_7_222 rfl trivial (obC_4 hl4) ?_
      refine eg_iload 4 dX7_take_212 rfl ?_
      refine eg_iadd dX7_take_214 ?_
      refine en_putI dX7_take_215 fl_7_222 rfl rfl (obC_4 hl4) (fun M4 eM4 => ?_)
      have h := h M4 eM4
      refine eg_sub [0, 1, 3, 4] rfl ?_
      exact h
set_option maxRecDepth 10000 in
theorem vX7_take_218 {κ : eg_K} {d : Nat} {post : eg_H → Prop} (M : eg_H) (l2 : Int32) {l3 : Nat} (hl3 : l3 < 60) {l5 : Nat} (hl5 : l5 < 10) (l8 : Int32) (h : (∀ M1 : eg_H, M1 = (sI M (2, l3) 2 ((M.1 (2, l3) 2) - l8)) → (∀ M2 : eg_H, M2 = (sI M1 (2, l3) 8 ((M1.1 (2, l3) 8) + l8)) → (vp_in l2 5 ∧ (∀ x4 : Int32, x4 = ((if (M2.1 (22, l3) l2.toNatClampNeg) ≤ l8 then (0 : Int32) else ((M2.1 (22, l3) l2.toNatClampNeg) - l8))) → (∀ M5 : eg_H, M5 = (sI M2 (22, l3) l2.toNatClampNeg x4) → (∀ M6 : eg_H, M6 = (sI M5 (2, l3) 4 (M5.1 (1, l5) 1)) → post M6))))))) : eg_W κ gC mtX7_take d (eQV κ gC post) 218 [(2, vI l2), (3, vR (2, l3)), (5, vR (1, l5)), (8, vI l8)] [] M := by
  refine eg_aload_n 1 dX7_take_218 rfl rfl ?_
  refine eg_dup dX7_take_219 rfl ?_
  refine eg_getI dX7_take_220 fl_7_195 rfl trivial (obC_2 hl3) ?_
  refine eg_iload 3 dX7_take_223 rfl ?_
  refine eg_isub dX7_take_225 ?_
  refine en_putI dX7_take_226 fl_7_195 rfl rfl (obC_2 hl3) (fun M1 eM1 => ?_)
  have h := h M1 eM1
  refine eg_aload_n 1 dX7_take_229 rfl rfl ?_
  refine eg_dup dX7_take_230 rfl ?_
  refine eg_getI dX7_take_231 fl_7_223 rfl trivial (obC_2 hl3) ?_
  refine eg_iload 3 dX7_take_234 rfl ?_
  refine eg_iadd dX7_take_236 ?_
  refine en_putI dX7_take_237 fl_7_223 rfl rfl (obC_2 hl3) (fun M2 eM2 => ?_)
  have h := h M2 eM2
  refine eg_aload_n 1 dX7_take_240 rfl rfl ?_
  refine eg_getR dX7_take_241 fl_7_198 rfl rfl (obC_2 hl3) ?_
  show eg_W κ gC mtX7_take d (eQV κ gC post) 244 [(2, vI l2), (3, vR (2, l3)), (5, vR (1, l5)), (8, vI l8)] [vR (22, l3)] M2
  refine eg_iload_n 0 dX7_take_244 rfl rfl ?_
  refine eg_iload 3 dX7_take_245 rfl ?_
  refine eg_aload_n 1 dX7_take_247 rfl rfl ?_
  refine eg_getR dX7_take_248 fl_7_198 rfl rfl (obC_2 hl3) ?_
  show eg_W κ gC mtX7_take d (eQV κ gC post) 251 [(2, vI l2), (3, vR (2, l3)), (5, vR (1, l5)), (8, vI l8)] [vR (22, l3), vI l8, vI l2, vR (22, l3)] M2
  refine eg_iload_n 0 dX7_take_251 rfl rfl ?_
  obtain ⟨g3, h⟩ := h
  refine eg_iaload dX7_take_252 (arC_22 hl3 g3) ?_
  have J : ∀ x4 : Int32, x4 = (if (M2.1 (22, l3) l2.toNatClampNeg) ≤ l8 then (0 : Int32) else ((M2.1 (22, l3) l2.toNatClampNeg) - l8)) → eg_W κ gC mtX7_take d (eQV κ gC post) 269 [(2, vI l2), (3, vR (2, l3)), (5, vR (1, l5)), (8, vI l8)] [vI x4, vI l2, vR (22, l3)] M2 := by
    intro x4 ex4
    have h := h x4 ex4
    refine en_iastore dX7_take_269 (arC_22 hl3 g3) (fun M5 eM5 => ?_)
    have h := h M5 eM5
    refine eg_aload_n 1 dX7_take_270 rfl rfl ?_
    refine eg_aload 2 dX7_take_271 rfl ?_
    refine eg_getI dX7_take_273 fl_7_224 rfl trivial (obC_1 hl5) ?_
    refine en_putI dX7_take_276 fl_7_125 rfl rfl (obC_2 hl3) (fun M6 eM6 => ?_)
    have h := h M6 eM6
    exact eg_vreturn dX7_take_279 rfl h
  clear h
  refine eg_icmp_ge (tgt := 268) dX7_take_253 rfl (fun c7 => ?_) (fun c7 => ?_)
  · refine eg_iconst dX7_take_268 ic_0 ?_
    exact J _ (by rw [if_pos c7])
  · refine eg_aload_n 1 dX7_take_256 rfl rfl ?_
    refine eg_getR dX7_take_257 fl_7_198 rfl rfl (obC_2 hl3) ?_
    show eg_W κ gC mtX7_take d (eQV κ gC post) 260 [(2, vI l2), (3, vR (2, l3)), (5, vR (1, l5)), (8, vI l8)] [vR (22, l3), vI l2, vR (22, l3)] M2
    refine eg_iload_n 0 dX7_take_260 rfl rfl ?_
    refine eg_iaload dX7_take_261 (arC_22 hl3 g3) ?_
    refine eg_iload 3 dX7_take_262 rfl ?_
    refine eg_isub dX7_take_264 ?_
    refine eg_goto (tgt := 269) dX7_take_265 rfl ?_
    exact J _ (by rw [if_neg c7])
theorem dX7_leavesOut_0 : decode cX7_leavesOut 0 = .ok (.aload_n 0, 1) := by decide +kernel
theorem dX7_leavesOut_1 : decode cX7_leavesOut 1 = .ok (.iload_n 1, 1) := by decide +kernel
theorem dX7_leavesOut_2 : decode cX7_leavesOut 2 = .ok (.iload_n 2, 1) := by decide +kernel
theorem dX7_leavesOut_3 : decode cX7_leavesOut 3 = .ok (.invokevirtual 201, 3) := by decide +kernel
theorem dX7_leavesOut_6 : decode cX7_leavesOut 6 = .ok (.aload_n 0, 1) := by decide +kernel
theorem dX7_leavesOut_7 : decode cX7_leavesOut 7 = .ok (.getfield 30, 3) := by decide +kernel
theorem dX7_leavesOut_10 : decode cX7_leavesOut 10 = .ok (.getfield 204, 3) := by decide +kernel
theorem dX7_leavesOut_13 : decode cX7_leavesOut 13 = .ok (.aload_n 0, 1) := by decide +kernel
theorem dX7_leavesOut_14 : decode cX7_leavesOut 14 = .ok (.getfield 30, 3) := by decide +kernel
theorem dX7_leavesOut_17 : decode cX7_leavesOut 17 = .ok (.getfield 192, 3) := by decide +kernel
theorem dX7_leavesOut_20 : decode cX7_leavesOut 20 = .ok (.iconst 1, 1) := by decide +kernel
theorem dX7_leavesOut_21 : decode cX7_leavesOut 21 = .ok (.iaload, 1) := by decide +kernel
theorem dX7_leavesOut_22 : decode cX7_leavesOut 22 = .ok (.invokevirtual 208, 3) := by decide +kernel
theorem dX7_leavesOut_25 : decode cX7_leavesOut 25 = .ok (.lstore_n 3, 1) := by decide +kernel
theorem dX7_leavesOut_26 : decode cX7_leavesOut 26 = .ok (.lload_n 3, 1) := by decide +kernel
theorem dX7_leavesOut_27 : decode cX7_leavesOut 27 = .ok (.ldc2_w 214, 3) := by decide +kernel
theorem dX7_leavesOut_30 : decode cX7_leavesOut 30 = .ok (.lcmp, 1) := by decide +kernel
theorem dX7_leavesOut_31 : decode cX7_leavesOut 31 = .ok (.ifCond .eq 13, 3) := by decide +kernel
theorem dX7_leavesOut_34 : decode cX7_leavesOut 34 = .ok (.lload_n 3, 1) := by decide +kernel
theorem dX7_leavesOut_35 : decode cX7_leavesOut 35 = .ok (.lconst 0, 1) := by decide +kernel
theorem dX7_leavesOut_36 : decode cX7_leavesOut 36 = .ok (.lcmp, 1) := by decide +kernel
theorem dX7_leavesOut_37 : decode cX7_leavesOut 37 = .ok (.ifCond .eq 7, 3) := by decide +kernel
theorem dX7_leavesOut_40 : decode cX7_leavesOut 40 = .ok (.iconst 1, 1) := by decide +kernel
theorem dX7_leavesOut_41 : decode cX7_leavesOut 41 = .ok (.goto 4, 3) := by decide +kernel
theorem dX7_leavesOut_44 : decode cX7_leavesOut 44 = .ok (.iconst 0, 1) := by decide +kernel
theorem dX7_leavesOut_45 : decode cX7_leavesOut 45 = .ok (.ireturn, 1) := by decide +kernel
set_option maxRecDepth 10000 in
theorem vX7_leavesOut_0 {κ : eg_K} {d : Nat} (hd : 1 ≤ d) {post : Int32 → eg_H → Prop} (M : eg_H) {l0 : Nat} (hl0 : l0 < 4) (l1 : Int32) (l2 : Int32) (h : eCV κ gC mtX7_describe d [vR (7, l0), vI l1, vI l2] M (fun M1 => (∃ p3 : Nat, p3 < 2 ∧ M1.2.2 (7, l0) 0 = (5, p3) ∧ (vp_in (1 : Int32) 3 ∧ eCL κ gC mtX3_value d [vR (3, p3), vI (M1.1 (35, p3) (1 : Int32).toNatClampNeg)] M1 (fun x5 M6 => (∀ x8 : Int32, x8 = ((if (lg_cmp x5 (-9223372036854775808 : Int64)) = 0 then (0 : Int32) else (if (lg_cmp x5 (0 : Int64)) = 0 then (0 : Int32) else (1 : Int32)))) → post x8 M6)))))) : eg_W κ gC mtX7_leavesOut d (eQI κ gC post) 0 [(0, vR (7, l0)), (1, vI l1), (2, vI l2)] [] M := by
  refine eg_aload_n 0 dX7_leavesOut_0 rfl rfl ?_
  refine eg_iload_n 1 dX7_leavesOut_1 rfl rfl ?_
  refine eg_iload_n 2 dX7_leavesOut_2 rfl rfl ?_
  obtain ⟨q2, hq2, h⟩ := h
  refine eg_callVV (av := [vI l1, vI l2]) (st := []) dX7_leavesOut_3 ml_7_201 rfl rfl (obC_7 hl0) (by decide) rfl (Nat.le_of_ble_eq_true rfl) (eg_dd (by omega)) hq2 (fun M1 hp => ?_)
  have h := h M1 hp
  refine eg_aload_n 0 dX7_leavesOut_6 rfl rfl ?_
  refine eg_getD dX7_leavesOut_7 fl_7_30 rfl rfl (obC_7 hl0) ?_
  obtain ⟨p3, hp3, ep3, h⟩ := h
  rw [ep3]
  refine eg_getR dX7_leavesOut_10 fl_7_204 rfl rfl (obC_5 hp3) ?_
  show eg_W κ gC mtX7_leavesOut d (eQI κ gC post) 13 [(0, vR (7, l0)), (1, vI l1), (2, vI l2)] [vR (3, p3)] M1
  refine eg_aload_n 0 dX7_leavesOut_13 rfl rfl ?_
  refine eg_getD dX7_leavesOut_14 fl_7_30 rfl rfl (obC_7 hl0) ?_
  rw [ep3]
  refine eg_getR dX7_leavesOut_17 fl_7_192 rfl rfl (obC_5 hp3) ?_
  show eg_W κ gC mtX7_leavesOut d (eQI κ gC post) 20 [(0, vR (7, l0)), (1, vI l1), (2, vI l2)] [vR (35, p3), vR (3, p3)] M1
  refine eg_iconst dX7_leavesOut_20 ic_1 ?_
  obtain ⟨g4, h⟩ := h
  refine eg_iaload dX7_leavesOut_21 (arC_35 hp3 g4) ?_
  obtain ⟨q7, hq7, h⟩ := h
  refine eg_callVL (av := [vI (M1.1 (35, p3) (1 : Int32).toNatClampNeg)]) (st := []) dX7_leavesOut_22 ml_7_208 rfl rfl (obC_3 hp3) (by decide) rfl (Nat.le_of_ble_eq_true rfl) (eg_dd (by omega)) hq7 (fun x5 M6 hp => ?_)
  have h := h x5 M6 hp
  refine eg_lstore_n dX7_leavesOut_25 rfl (by decide) (ls1 := [(3, vL x5), (0, vR (7, l0)), (1, vI l1), (2, vI l2)]) rfl ?_
  refine eg_lload_n 0 dX7_leavesOut_26 rfl rfl ?_
  refine eg_ldc2 dX7_leavesOut_27 kc_7_214 ?_
  refine eg_lcmp dX7_leavesOut_30 ?_
  have J : ∀ x8 : Int32, x8 = (if (lg_cmp x5 (-9223372036854775808 : Int64)) = 0 then (0 : Int32) else (if (lg_cmp x5 (0 : Int64)) = 0 then (0 : Int32) else (1 : Int32))) → eg_W κ gC mtX7_leavesOut d (eQI κ gC post) 45 [(3, vL x5), (0, vR (7, l0)), (1, vI l1), (2, vI l2)] [vI x8] M6 := by
    intro x8 ex8
    have h := h x8 ex8
    exact eg_zreturn dX7_leavesOut_45 rfl (show x8 = 0 ∨ x8 = 1 from by rw [ex8]; exact (eg_zi (Or.inl rfl) (eg_zi (Or.inl rfl) (Or.inr rfl)))) h
  clear h
  refine eg_if_eq (tgt := 44) dX7_leavesOut_31 rfl (fun c9 => ?_) (fun c9 => ?_)
  · refine eg_iconst dX7_leavesOut_44 ic_0 ?_
    exact J _ (by rw [if_pos c9])
  · refine eg_lload_n 0 dX7_leavesOut_34 rfl rfl ?_
    refine eg_lconst dX7_leavesOut_35 lc_0 ?_
    refine eg_lcmp dX7_leavesOut_36 ?_
    refine eg_if_eq (tgt := 44) dX7_leavesOut_37 rfl (fun c10 => ?_) (fun c10 => ?_)
    · refine eg_iconst dX7_leavesOut_44 ic_0 ?_
      exact J _ (by rw [if_neg c9, if_pos c10])
    · refine eg_iconst dX7_leavesOut_40 ic_1 ?_
      refine eg_goto (tgt := 45) dX7_leavesOut_41 rfl ?_
      exact J _ (by rw [if_neg c9, if_neg c10])
theorem dX7_leaveLine_0 : decode cX7_leaveLine 0 = .ok (.aload_n 0, 1) := by decide +kernel
theorem dX7_leaveLine_1 : decode cX7_leaveLine 1 = .ok (.getfield 27, 3) := by decide +kernel
theorem dX7_leaveLine_4 : decode cX7_leaveLine 4 = .ok (.iload_n 1, 1) := by decide +kernel
theorem dX7_leaveLine_5 : decode cX7_leaveLine 5 = .ok (.iaload, 1) := by decide +kernel
theorem dX7_leaveLine_6 : decode cX7_leaveLine 6 = .ok (.istore_n 2, 1) := by decide +kernel
theorem dX7_leaveLine_7 : decode cX7_leaveLine 7 = .ok (.aload_n 0, 1) := by decide +kernel
theorem dX7_leaveLine_8 : decode cX7_leaveLine 8 = .ok (.getfield 23, 3) := by decide +kernel
theorem dX7_leaveLine_11 : decode cX7_leaveLine 11 = .ok (.iload_n 2, 1) := by decide +kernel
theorem dX7_leaveLine_12 : decode cX7_leaveLine 12 = .ok (.aaload, 1) := by decide +kernel
theorem dX7_leaveLine_13 : decode cX7_leaveLine 13 = .ok (.astore_n 3, 1) := by decide +kernel
theorem dX7_leaveLine_14 : decode cX7_leaveLine 14 = .ok (.aload_n 0, 1) := by decide +kernel
theorem dX7_leaveLine_15 : decode cX7_leaveLine 15 = .ok (.getfield 30, 3) := by decide +kernel
theorem dX7_leaveLine_18 : decode cX7_leaveLine 18 = .ok (.getfield 64, 3) := by decide +kernel
theorem dX7_leaveLine_21 : decode cX7_leaveLine 21 = .ok (.iload_n 2, 1) := by decide +kernel
theorem dX7_leaveLine_22 : decode cX7_leaveLine 22 = .ok (.aaload, 1) := by decide +kernel
theorem dX7_leaveLine_23 : decode cX7_leaveLine 23 = .ok (.getfield 227, 3) := by decide +kernel
theorem dX7_leaveLine_26 : decode cX7_leaveLine 26 = .ok (.aload_n 3, 1) := by decide +kernel
theorem dX7_leaveLine_27 : decode cX7_leaveLine 27 = .ok (.getfield 195, 3) := by decide +kernel
theorem dX7_leaveLine_30 : decode cX7_leaveLine 30 = .ok (.isub, 1) := by decide +kernel
theorem dX7_leaveLine_31 : decode cX7_leaveLine 31 = .ok (.istore 4, 2) := by decide +kernel
theorem dX7_leaveLine_33 : decode cX7_leaveLine 33 = .ok (.aload_n 0, 1) := by decide +kernel
theorem dX7_leaveLine_34 : decode cX7_leaveLine 34 = .ok (.iload_n 2, 1) := by decide +kernel
theorem dX7_leaveLine_35 : decode cX7_leaveLine 35 = .ok (.iconst (-1), 1) := by decide +kernel
theorem dX7_leaveLine_36 : decode cX7_leaveLine 36 = .ok (.invokevirtual 201, 3) := by decide +kernel
theorem dX7_leaveLine_39 : decode cX7_leaveLine 39 = .ok (.aload_n 0, 1) := by decide +kernel
theorem dX7_leaveLine_40 : decode cX7_leaveLine 40 = .ok (.getfield 30, 3) := by decide +kernel
theorem dX7_leaveLine_43 : decode cX7_leaveLine 43 = .ok (.getfield 204, 3) := by decide +kernel
theorem dX7_leaveLine_46 : decode cX7_leaveLine 46 = .ok (.aload_n 0, 1) := by decide +kernel
theorem dX7_leaveLine_47 : decode cX7_leaveLine 47 = .ok (.getfield 30, 3) := by decide +kernel
theorem dX7_leaveLine_50 : decode cX7_leaveLine 50 = .ok (.getfield 192, 3) := by decide +kernel
theorem dX7_leaveLine_53 : decode cX7_leaveLine 53 = .ok (.iconst 2, 1) := by decide +kernel
theorem dX7_leaveLine_54 : decode cX7_leaveLine 54 = .ok (.iaload, 1) := by decide +kernel
theorem dX7_leaveLine_55 : decode cX7_leaveLine 55 = .ok (.invokevirtual 208, 3) := by decide +kernel
theorem dX7_leaveLine_58 : decode cX7_leaveLine 58 = .ok (.lstore 5, 2) := by decide +kernel
theorem dX7_leaveLine_60 : decode cX7_leaveLine 60 = .ok (.lload 5, 2) := by decide +kernel
theorem dX7_leaveLine_62 : decode cX7_leaveLine 62 = .ok (.ldc2_w 214, 3) := by decide +kernel
theorem dX7_leaveLine_65 : decode cX7_leaveLine 65 = .ok (.lcmp, 1) := by decide +kernel
theorem dX7_leaveLine_66 : decode cX7_leaveLine 66 = .ok (.ifCond .eq 12, 3) := by decide +kernel
theorem dX7_leaveLine_69 : decode cX7_leaveLine 69 = .ok (.lload 5, 2) := by decide +kernel
theorem dX7_leaveLine_71 : decode cX7_leaveLine 71 = .ok (.iload 4, 2) := by decide +kernel
theorem dX7_leaveLine_73 : decode cX7_leaveLine 73 = .ok (.i2l, 1) := by decide +kernel
theorem dX7_leaveLine_74 : decode cX7_leaveLine 74 = .ok (.lcmp, 1) := by decide +kernel
theorem dX7_leaveLine_75 : decode cX7_leaveLine 75 = .ok (.ifCond .le 9, 3) := by decide +kernel
theorem dX7_leaveLine_78 : decode cX7_leaveLine 78 = .ok (.iload 4, 2) := by decide +kernel
theorem dX7_leaveLine_80 : decode cX7_leaveLine 80 = .ok (.i2l, 1) := by decide +kernel
theorem dX7_leaveLine_81 : decode cX7_leaveLine 81 = .ok (.goto 5, 3) := by decide +kernel
theorem dX7_leaveLine_84 : decode cX7_leaveLine 84 = .ok (.lload 5, 2) := by decide +kernel
theorem dX7_leaveLine_86 : decode cX7_leaveLine 86 = .ok (.lstore 5, 2) := by decide +kernel
theorem dX7_leaveLine_88 : decode cX7_leaveLine 88 = .ok (.lload 5, 2) := by decide +kernel
theorem dX7_leaveLine_90 : decode cX7_leaveLine 90 = .ok (.lconst 0, 1) := by decide +kernel
theorem dX7_leaveLine_91 : decode cX7_leaveLine 91 = .ok (.lcmp, 1) := by decide +kernel
theorem dX7_leaveLine_92 : decode cX7_leaveLine 92 = .ok (.ifCond .ge 7, 3) := by decide +kernel
theorem dX7_leaveLine_95 : decode cX7_leaveLine 95 = .ok (.lconst 0, 1) := by decide +kernel
theorem dX7_leaveLine_96 : decode cX7_leaveLine 96 = .ok (.goto 5, 3) := by decide +kernel
theorem dX7_leaveLine_99 : decode cX7_leaveLine 99 = .ok (.lload 5, 2) := by decide +kernel
theorem dX7_leaveLine_101 : decode cX7_leaveLine 101 = .ok (.lstore 5, 2) := by decide +kernel
theorem dX7_leaveLine_103 : decode cX7_leaveLine 103 = .ok (.aload_n 3, 1) := by decide +kernel
theorem dX7_leaveLine_104 : decode cX7_leaveLine 104 = .ok (.dup, 1) := by decide +kernel
theorem dX7_leaveLine_105 : decode cX7_leaveLine 105 = .ok (.getfield 230, 3) := by decide +kernel
theorem dX7_leaveLine_108 : decode cX7_leaveLine 108 = .ok (.lload 5, 2) := by decide +kernel
theorem dX7_leaveLine_110 : decode cX7_leaveLine 110 = .ok (.l2i, 1) := by decide +kernel
theorem dX7_leaveLine_111 : decode cX7_leaveLine 111 = .ok (.iadd, 1) := by decide +kernel
theorem dX7_leaveLine_112 : decode cX7_leaveLine 112 = .ok (.putfield 230, 3) := by decide +kernel
theorem dX7_leaveLine_115 : decode cX7_leaveLine 115 = .ok (.aload_n 3, 1) := by decide +kernel
theorem dX7_leaveLine_116 : decode cX7_leaveLine 116 = .ok (.dup, 1) := by decide +kernel
theorem dX7_leaveLine_117 : decode cX7_leaveLine 117 = .ok (.getfield 233, 3) := by decide +kernel
theorem dX7_leaveLine_120 : decode cX7_leaveLine 120 = .ok (.iload 4, 2) := by decide +kernel
theorem dX7_leaveLine_122 : decode cX7_leaveLine 122 = .ok (.lload 5, 2) := by decide +kernel
theorem dX7_leaveLine_124 : decode cX7_leaveLine 124 = .ok (.l2i, 1) := by decide +kernel
theorem dX7_leaveLine_125 : decode cX7_leaveLine 125 = .ok (.isub, 1) := by decide +kernel
theorem dX7_leaveLine_126 : decode cX7_leaveLine 126 = .ok (.iadd, 1) := by decide +kernel
theorem dX7_leaveLine_127 : decode cX7_leaveLine 127 = .ok (.putfield 233, 3) := by decide +kernel
theorem dX7_leaveLine_130 : decode cX7_leaveLine 130 = .ok (.aload_n 0, 1) := by decide +kernel
theorem dX7_leaveLine_131 : decode cX7_leaveLine 131 = .ok (.getfield 30, 3) := by decide +kernel
theorem dX7_leaveLine_134 : decode cX7_leaveLine 134 = .ok (.getfield 236, 3) := by decide +kernel
theorem dX7_leaveLine_137 : decode cX7_leaveLine 137 = .ok (.ifCond .le 19, 3) := by decide +kernel
theorem dX7_leaveLine_140 : decode cX7_leaveLine 140 = .ok (.iload 4, 2) := by decide +kernel
theorem dX7_leaveLine_142 : decode cX7_leaveLine 142 = .ok (.ifCond .le 14, 3) := by decide +kernel
theorem dX7_leaveLine_145 : decode cX7_leaveLine 145 = .ok (.aload_n 3, 1) := by decide +kernel
theorem dX7_leaveLine_146 : decode cX7_leaveLine 146 = .ok (.invokevirtual 239, 3) := by decide +kernel
theorem dX7_leaveLine_149 : decode cX7_leaveLine 149 = .ok (.ifCond .le 7, 3) := by decide +kernel
theorem dX7_leaveLine_152 : decode cX7_leaveLine 152 = .ok (.iconst 1, 1) := by decide +kernel
theorem dX7_leaveLine_153 : decode cX7_leaveLine 153 = .ok (.goto 4, 3) := by decide +kernel
theorem dX7_leaveLine_156 : decode cX7_leaveLine 156 = .ok (.iconst 0, 1) := by decide +kernel
theorem dX7_leaveLine_157 : decode cX7_leaveLine 157 = .ok (.istore 7, 2) := by decide +kernel
theorem dX7_leaveLine_159 : decode cX7_leaveLine 159 = .ok (.aload_n 3, 1) := by decide +kernel
theorem dX7_leaveLine_160 : decode cX7_leaveLine 160 = .ok (.iload 7, 2) := by decide +kernel
theorem dX7_leaveLine_162 : decode cX7_leaveLine 162 = .ok (.ifCond .eq 7, 3) := by decide +kernel
theorem dX7_leaveLine_165 : decode cX7_leaveLine 165 = .ok (.iconst 2, 1) := by decide +kernel
theorem dX7_leaveLine_166 : decode cX7_leaveLine 166 = .ok (.goto 4, 3) := by decide +kernel
theorem dX7_leaveLine_169 : decode cX7_leaveLine 169 = .ok (.iconst 3, 1) := by decide +kernel
theorem dX7_leaveLine_170 : decode cX7_leaveLine 170 = .ok (.putfield 114, 3) := by decide +kernel
theorem dX7_leaveLine_173 : decode cX7_leaveLine 173 = .ok (.aload_n 3, 1) := by decide +kernel
theorem dX7_leaveLine_174 : decode cX7_leaveLine 174 = .ok (.iload 7, 2) := by decide +kernel
theorem dX7_leaveLine_176 : decode cX7_leaveLine 176 = .ok (.ifCond .eq 18, 3) := by decide +kernel
theorem dX7_leaveLine_179 : decode cX7_leaveLine 179 = .ok (.aload_n 0, 1) := by decide +kernel
theorem dX7_leaveLine_180 : decode cX7_leaveLine 180 = .ok (.getfield 36, 3) := by decide +kernel
theorem dX7_leaveLine_183 : decode cX7_leaveLine 183 = .ok (.aload_n 0, 1) := by decide +kernel
theorem dX7_leaveLine_184 : decode cX7_leaveLine 184 = .ok (.getfield 30, 3) := by decide +kernel
theorem dX7_leaveLine_187 : decode cX7_leaveLine 187 = .ok (.getfield 236, 3) := by decide +kernel
theorem dX7_leaveLine_190 : decode cX7_leaveLine 190 = .ok (.iadd, 1) := by decide +kernel
theorem dX7_leaveLine_191 : decode cX7_leaveLine 191 = .ok (.goto 4, 3) := by decide +kernel
theorem dX7_leaveLine_194 : decode cX7_leaveLine 194 = .ok (.iconst (-1), 1) := by decide +kernel
theorem dX7_leaveLine_195 : decode cX7_leaveLine 195 = .ok (.putfield 122, 3) := by decide +kernel
theorem dX7_leaveLine_198 : decode cX7_leaveLine 198 = .ok (.aload_n 0, 1) := by decide +kernel
theorem dX7_leaveLine_199 : decode cX7_leaveLine 199 = .ok (.iload_n 1, 1) := by decide +kernel
theorem dX7_leaveLine_200 : decode cX7_leaveLine 200 = .ok (.invokevirtual 243, 3) := by decide +kernel
theorem dX7_leaveLine_203 : decode cX7_leaveLine 203 = .ok (.return_, 1) := by decide +kernel
set_option maxRecDepth 10000 in
theorem vX7_leaveLine_0 {κ : eg_K} {d : Nat} (hd : 1 ≤ d) {post : eg_H → Prop} (M : eg_H) {l0 : Nat} (hl0 : l0 < 4) (l1 : Int32) (h : (vp_in l1 15 ∧ (∀ x2 : Int32, x2 = (M.1 (43, l0) l1.toNatClampNeg) → (vp_in x2 15 ∧ (∃ p4 : Nat, p4 < 2 ∧ M.2.2 (7, l0) 0 = (5, p4) ∧ (∀ x5 : Int32, x5 = ((M.1 (0, 15 * p4 + x2.toNatClampNeg) 2) - (M.1 (2, 15 * l0 + x2.toNatClampNeg) 2)) → eCV κ gC mtX7_describe d [vR (7, l0), vI x2, vI (-1 : Int32)] M (fun M6 => (∃ p8 : Nat, p8 < 2 ∧ M6.2.2 (7, l0) 0 = (5, p8) ∧ (vp_in (2 : Int32) 3 ∧ eCL κ gC mtX3_value d [vR (3, p8), vI (M6.1 (35, p8) (2 : Int32).toNatClampNeg)] M6 (fun x10 M11 => (∀ x13 : Int64, x13 = ((if (lg_cmp x10 (-9223372036854775808 : Int64)) = 0 then (x5.toInt64) else (if (lg_cmp x10 (x5.toInt64)) ≤ 0 then x10 else (x5.toInt64)))) → (∀ x14 : Int64, x14 = ((if 0 ≤ (lg_cmp x13 (0 : Int64)) then x13 else (0 : Int64))) → (∀ M15 : eg_H, M15 = (sI M11 (2, 15 * l0 + x2.toNatClampNeg) 9 ((M11.1 (2, 15 * l0 + x2.toNatClampNeg) 9) + (x14.toInt32))) → (∀ M16 : eg_H, M16 = (sI M15 (2, 15 * l0 + x2.toNatClampNeg) 10 ((M15.1 (2, 15 * l0 + x2.toNatClampNeg) 10) + (x5 - (x14.toInt32)))) → (∃ p17 : Nat, p17 < 2 ∧ M16.2.2 (7, l0) 0 = (5, p17) ∧ ((M16.1 (5, p17) 5) ≤ 0 → eg_W κ gC mtX7_leaveLine d (eQV κ gC post) 156 [(0, vR (7, l0)), (1, vI l1), (3, vR (2, 15 * l0 + x2.toNatClampNeg))] [] M16) ∧ ((¬ (M16.1 (5, p17) 5) ≤ 0) → (x5 ≤ 0 → eg_W κ gC mtX7_leaveLine d (eQV κ gC post) 156 [(0, vR (7, l0)), (1, vI l1), (3, vR (2, 15 * l0 + x2.toNatClampNeg))] [] M16) ∧ ((¬ x5 ≤ 0) → (∀ x21 : Int32, x21 = (fX2_wantsLeft M16 (15 * l0 + x2.toNatClampNeg)) → (∀ x22 : Int32, x22 = ((if x21 ≤ 0 then (0 : Int32) else (1 : Int32))) → (∀ x23 : Int32, x23 = ((if x22 = 0 then (3 : Int32) else (2 : Int32))) → (∀ M24 : eg_H, M24 = (sI M16 (2, 15 * l0 + x2.toNatClampNeg) 0 x23) → (x22 = 0 → (∀ M26 : eg_H, M26 = (sI M24 (2, 15 * l0 + x2.toNatClampNeg) 6 (-1 : Int32)) → eCV κ gC mtX7_stepOut d [vR (7, l0), vI l1] M26 (fun M27 => post M27))) ∧ ((¬ x22 = 0) → (∀ M29 : eg_H, M29 = (sI M24 (2, 15 * l0 + x2.toNatClampNeg) 6 ((M24.1 (7, l0) 1) + (M24.1 (5, p17) 5))) → eCV κ gC mtX7_stepOut d [vR (7, l0), vI l1] M29 (fun M30 => post M30)))))))))))))))))))))))) : eg_W κ gC mtX7_leaveLine d (eQV κ gC post) 0 [(0, vR (7, l0)), (1, vI l1)] [] M := by
  refine eg_aload_n 0 dX7_leaveLine_0 rfl rfl ?_
  refine eg_getR dX7_leaveLine_1 fl_7_27 rfl rfl (obC_7 hl0) ?_
  show eg_W κ gC mtX7_leaveLine d (eQV κ gC post) 4 [(0, vR (7, l0)), (1, vI l1)] [vR (43, l0)] M
  refine eg_iload_n 1 dX7_leaveLine_4 rfl rfl ?_
  obtain ⟨g1, h⟩ := h
  refine eg_iaload dX7_leaveLine_5 (arC_43 hl0 g1) ?_
  refine en_istore_n (f := fun x2 => [(2, vI x2), (0, vR (7, l0)), (1, vI l1)]) dX7_leaveLine_6 rfl (by decide) rfl (fun x2 ex2 => ?_)
  have h := h x2 ex2
  refine eg_aload_n 1 dX7_leaveLine_7 rfl rfl ?_
  refine eg_getR dX7_leaveLine_8 fl_7_23 rfl rfl (obC_7 hl0) ?_
  show eg_W κ gC mtX7_leaveLine d (eQV κ gC post) 11 [(2, vI x2), (0, vR (7, l0)), (1, vI l1)] [vR (42, l0)] M
  refine eg_iload_n 0 dX7_leaveLine_11 rfl rfl ?_
  obtain ⟨g3, h⟩ := h
  refine eg_aaload7 dX7_leaveLine_12 (arC_42 hl0 g3) ?_
  show eg_W κ gC mtX7_leaveLine d (eQV κ gC post) 13 [(2, vI x2), (0, vR (7, l0)), (1, vI l1)] [vR (2, 15 * l0 + x2.toNatClampNeg)] M
  refine eg_astore_n dX7_leaveLine_13 rfl (by decide) (ls1 := [(3, vR (2, 15 * l0 + x2.toNatClampNeg)), (2, vI x2), (0, vR (7, l0)), (1, vI l1)]) rfl ?_
  refine eg_aload_n 2 dX7_leaveLine_14 rfl rfl ?_
  refine eg_getD dX7_leaveLine_15 fl_7_30 rfl rfl (obC_7 hl0) ?_
  obtain ⟨p4, hp4, ep4, h⟩ := h
  rw [ep4]
  refine eg_getR dX7_leaveLine_18 fl_7_64 rfl rfl (obC_5 hp4) ?_
  show eg_W κ gC mtX7_leaveLine d (eQV κ gC post) 21 [(3, vR (2, 15 * l0 + x2.toNatClampNeg)), (2, vI x2), (0, vR (7, l0)), (1, vI l1)] [vR (31, p4)] M
  refine eg_iload_n 1 dX7_leaveLine_21 rfl rfl ?_
  refine eg_aaload5 dX7_leaveLine_22 (arC_31 hp4 g3) ?_
  show eg_W κ gC mtX7_leaveLine d (eQV κ gC post) 23 [(3, vR (2, 15 * l0 + x2.toNatClampNeg)), (2, vI x2), (0, vR (7, l0)), (1, vI l1)] [vR (0, 15 * p4 + x2.toNatClampNeg)] M
  refine eg_getI dX7_leaveLine_23 fl_7_227 rfl trivial (obC_0 (ixP15 hp4 g3)) ?_
  refine eg_aload_n 0 dX7_leaveLine_26 rfl rfl ?_
  refine eg_getI dX7_leaveLine_27 fl_7_195 rfl trivial (obC_2 (ixT15 hl0 g3)) ?_
  refine eg_isub dX7_leaveLine_30 ?_
  refine en_istore (f := fun x5 => [(4, vI x5), (3, vR (2, 15 * l0 + x2.toNatClampNeg)), (2, vI x2), (0, vR (7, l0)), (1, vI l1)]) dX7_leaveLine_31 (by decide) rfl (fun x5 ex5 => ?_)
  have h := h x5 ex5
  refine eg_aload_n 3 dX7_leaveLine_33 rfl rfl ?_
  refine eg_iload_n 2 dX7_leaveLine_34 rfl rfl ?_
  refine eg_iconst dX7_leaveLine_35 ic_m1 ?_
  obtain ⟨q7, hq7, h⟩ := h
  refine eg_callVV (av := [vI x2, vI (-1 : Int32)]) (st := []) dX7_leaveLine_36 ml_7_201 rfl rfl (obC_7 hl0) (by decide) rfl (Nat.le_of_ble_eq_true rfl) (eg_dd (by omega)) hq7 (fun M6 hp => ?_)
  have h := h M6 hp
  refine eg_aload_n 3 dX7_leaveLine_39 rfl rfl ?_
  refine eg_getD dX7_leaveLine_40 fl_7_30 rfl rfl (obC_7 hl0) ?_
  obtain ⟨p8, hp8, ep8, h⟩ := h
  rw [ep8]
  refine eg_getR dX7_leaveLine_43 fl_7_204 rfl rfl (obC_5 hp8) ?_
  show eg_W κ gC mtX7_leaveLine d (eQV κ gC post) 46 [(4, vI x5), (3, vR (2, 15 * l0 + x2.toNatClampNeg)), (2, vI x2), (0, vR (7, l0)), (1, vI l1)] [vR (3, p8)] M6
  refine eg_aload_n 3 dX7_leaveLine_46 rfl rfl ?_
  refine eg_getD dX7_leaveLine_47 fl_7_30 rfl rfl (obC_7 hl0) ?_
  rw [ep8]
  refine eg_getR dX7_leaveLine_50 fl_7_192 rfl rfl (obC_5 hp8) ?_
  show eg_W κ gC mtX7_leaveLine d (eQV κ gC post) 53 [(4, vI x5), (3, vR (2, 15 * l0 + x2.toNatClampNeg)), (2, vI x2), (0, vR (7, l0)), (1, vI l1)] [vR (35, p8), vR (3, p8)] M6
  refine eg_iconst dX7_leaveLine_53 ic_2 ?_
  obtain ⟨g9, h⟩ := h
  refine eg_iaload dX7_leaveLine_54 (arC_35 hp8 g9) ?_
  obtain ⟨q12, hq12, h⟩ := h
  refine eg_callVL (av := [vI (M6.1 (35, p8) (2 : Int32).toNatClampNeg)]) (st := []) dX7_leaveLine_55 ml_7_208 rfl rfl (obC_3 hp8) (by decide) rfl (Nat.le_of_ble_eq_true rfl) (eg_dd (by omega)) hq12 (fun x10 M11 hp => ?_)
  have h := h x10 M11 hp
  refine eg_lstore dX7_leaveLine_58 (by decide) (ls1 := [(5, vL x10), (4, vI x5), (3, vR (2, 15 * l0 + x2.toNatClampNeg)), (2, vI x2), (0, vR (7, l0)), (1, vI l1)]) rfl ?_
  refine eg_lload 0 dX7_leaveLine_60 rfl ?_
  refine eg_ldc2 dX7_leaveLine_62 kc_7_214 ?_
  refine eg_lcmp dX7_leaveLine_65 ?_
  have J : ∀ x13 : Int64, x13 = (if (lg_cmp x10 (-9223372036854775808 : Int64)) = 0 then (x5.toInt64) else (if (lg_cmp x10 (x5.toInt64)) ≤ 0 then x10 else (x5.toInt64))) → eg_W κ gC mtX7_leaveLine d (eQV κ gC post) 86 [(5, vL x10), (4, vI x5), (3, vR (2, 15 * l0 + x2.toNatClampNeg)), (2, vI x2), (0, vR (7, l0)), (1, vI l1)] [vL x13] M11 := by
    intro x13 ex13
    have h := h x13 ex13
    refine eg_lstore dX7_leaveLine_86 (by decide) (ls1 := [(5, vL x13), (4, vI x5), (3, vR (2, 15 * l0 + x2.toNatClampNeg)), (2, vI x2), (0, vR (7, l0)), (1, vI l1)]) rfl ?_
    refine eg_lload 0 dX7_leaveLine_88 rfl ?_
    refine eg_lconst dX7_leaveLine_90 lc_0 ?_
    refine eg_lcmp dX7_leaveLine_91 ?_
    have J : ∀ x14 : Int64, x14 = (if 0 ≤ (lg_cmp x13 (0 : Int64)) then x13 else (0 : Int64)) → eg_W κ gC mtX7_leaveLine d (eQV κ gC post) 101 [(5, vL x13), (4, vI x5), (3, vR (2, 15 * l0 + x2.toNatClampNeg)), (2, vI x2), (0, vR (7, l0)), (1, vI l1)] [vL x14] M11 := by
      intro x14 ex14
      have h := h x14 ex14
      refine eg_lstore dX7_leaveLine_101 (by decide) (ls1 := [(5, vL x14), (4, vI x5), (3, vR (2, 15 * l0 + x2.toNatClampNeg)), (2, vI x2), (0, vR (7, l0)), (1, vI l1)]) rfl ?_
      refine eg_aload_n 2 dX7_leaveLine_103 rfl rfl ?_
      refine eg_dup dX7_leaveLine_104 rfl ?_
      refine eg_getI dX7_leaveLine_105 fl_7_230 rfl trivial (obC_2 (ixT15 hl0 g3)) ?_
      refine eg_lload 0 dX7_leaveLine_108 rfl ?_
      refine eg_l2i dX7_leaveLine_110 ?_
      refine eg_iadd dX7_leaveLine_111 ?_
      refine en_putI dX7_leaveLine_112 fl_7_230 rfl rfl (obC_2 (ixT15 hl0 g3)) (fun M15 eM15 => ?_)
      have h := h M15 eM15
      refine eg_aload_n 2 dX7_leaveLine_115 rfl rfl ?_
      refine eg_dup dX7_leaveLine_116 rfl ?_
      refine eg_getI dX7_leaveLine_117 fl_7_233 rfl trivial (obC_2 (ixT15 hl0 g3)) ?_
      refine eg_iload 1 dX7_leaveLine_120 rfl ?_
      refine eg_lload 0 dX7_leaveLine_122 rfl ?_
      refine eg_l2i dX7_leaveLine_124 ?_
      refine eg_isub dX7_leaveLine_125 ?_
      refine eg_iadd dX7_leaveLine_126 ?_
      refine en_putI dX7_leaveLine_127 fl_7_233 rfl rfl (obC_2 (ixT15 hl0 g3)) (fun M16 eM16 => ?_)
      have h := h M16 eM16
      refine eg_aload_n 4 dX7_leaveLine_130 rfl rfl ?_
      refine eg_getD dX7_leaveLine_131 fl_7_30 rfl rfl (obC_7 hl0) ?_
      obtain ⟨p17, hp17, ep17, h⟩ := h
      rw [ep17]
      refine eg_getI dX7_leaveLine_134 fl_7_236 rfl trivial (obC_5 hp17) ?_
      refine eg_if_le (tgt := 156) dX7_leaveLine_137 rfl (fun c18 => ?_) (fun c18 => ?_)
      · have h := h.1 c18
        refine eg_sub [4, 5, 2] rfl ?_
        exact h
      · have h := h.2 c18
        refine eg_iload 1 dX7_leaveLine_140 rfl ?_
        refine eg_if_le (tgt := 156) dX7_leaveLine_142 rfl (fun c19 => ?_) (fun c19 => ?_)
        · have h := h.1 c19
          refine eg_sub [4, 5, 2] rfl ?_
          exact h
        · have h := h.2 c19
          refine eg_aload_n 2 dX7_leaveLine_145 rfl rfl ?_
          refine eg_callVI (av := []) (st := []) dX7_leaveLine_146 ml_7_239 rfl rfl (obC_2 (ixT15 hl0 g3)) (by decide) rfl (Nat.le_of_ble_eq_true rfl) (eg_dd (by omega)) (sX2_wantsLeft (by omega) M16 (15 * l0 + x2.toNatClampNeg) (ixT15 hl0 g3) ) (fun x21 M20 hp => ?_)
          obtain ⟨ex21, eM20⟩ := hp
          rw [eM20]
          have h := h x21 ex21
          have J : ∀ x22 : Int32, x22 = (if x21 ≤ 0 then (0 : Int32) else (1 : Int32)) → eg_W κ gC mtX7_leaveLine d (eQV κ gC post) 157 [(5, vL x14), (4, vI x5), (3, vR (2, 15 * l0 + x2.toNatClampNeg)), (2, vI x2), (0, vR (7, l0)), (1, vI l1)] [vI x22] M16 := by
            intro x22 ex22
            have h := h x22 ex22
            refine eg_istore dX7_leaveLine_157 (by decide) (ls1 := [(7, vI x22), (5, vL x14), (4, vI x5), (3, vR (2, 15 * l0 + x2.toNatClampNeg)), (2, vI x2), (0, vR (7, l0)), (1, vI l1)]) rfl ?_
            refine eg_aload_n 3 dX7_leaveLine_159 rfl rfl ?_
            refine eg_iload 0 dX7_leaveLine_160 rfl ?_
            have J : ∀ x23 : Int32, x23 = (if x22 = 0 then (3 : Int32) else (2 : Int32)) → eg_W κ gC mtX7_leaveLine d (eQV κ gC post) 170 [(7, vI x22), (5, vL x14), (4, vI x5), (3, vR (2, 15 * l0 + x2.toNatClampNeg)), (2, vI x2), (0, vR (7, l0)), (1, vI l1)] [vI x23, vR (2, 15 * l0 + x2.toNatClampNeg)] M16 := by
              intro x23 ex23
              have h := h x23 ex23
              refine en_putI dX7_leaveLine_170 fl_7_114 rfl rfl (obC_2 (ixT15 hl0 g3)) (fun M24 eM24 => ?_)
              have h := h M24 eM24
              refine eg_aload_n 3 dX7_leaveLine_173 rfl rfl ?_
              refine eg_iload 0 dX7_leaveLine_174 rfl ?_
              refine eg_if_eq (tgt := 194) dX7_leaveLine_176 rfl (fun c25 => ?_) (fun c25 => ?_)
              · have h := h.1 c25
                refine eg_iconst dX7_leaveLine_194 ic_m1 ?_
                refine en_putI dX7_leaveLine_195 fl_7_122 rfl rfl (obC_2 (ixT15 hl0 g3)) (fun M26 eM26 => ?_)
                have h := h M26 eM26
                refine eg_aload_n 5 dX7_leaveLine_198 rfl rfl ?_
                refine eg_iload_n 6 dX7_leaveLine_199 rfl rfl ?_
                obtain ⟨q28, hq28, h⟩ := h
                refine eg_callVV (av := [vI l1]) (st := []) dX7_leaveLine_200 ml_7_243 rfl rfl (obC_7 hl0) (by decide) rfl (Nat.le_of_ble_eq_true rfl) (eg_dd (by omega)) hq28 (fun M27 hp => ?_)
                have h := h M27 hp
                exact eg_vreturn dX7_leaveLine_203 rfl h
              · have h := h.2 c25
                refine eg_aload_n 5 dX7_leaveLine_179 rfl rfl ?_
                refine eg_getI dX7_leaveLine_180 fl_7_36 rfl trivial (obC_7 hl0) ?_
                refine eg_aload_n 5 dX7_leaveLine_183 rfl rfl ?_
                refine eg_getD dX7_leaveLine_184 fl_7_30 rfl rfl (obC_7 hl0) ?_
                rw [(show M24.2.2 (7, l0) 0 = (5, p17) from by rw [eM24]; exact ep17)]
                refine eg_getI dX7_leaveLine_187 fl_7_236 rfl trivial (obC_5 hp17) ?_
                refine eg_iadd dX7_leaveLine_190 ?_
                refine eg_goto (tgt := 195) dX7_leaveLine_191 rfl ?_
                refine en_putI dX7_leaveLine_195 fl_7_122 rfl rfl (obC_2 (ixT15 hl0 g3)) (fun M29 eM29 => ?_)
                have h := h M29 eM29
                refine eg_aload_n 5 dX7_leaveLine_198 rfl rfl ?_
                refine eg_iload_n 6 dX7_leaveLine_199 rfl rfl ?_
                obtain ⟨q31, hq31, h⟩ := h
                refine eg_callVV (av := [vI l1]) (st := []) dX7_leaveLine_200 ml_7_243 rfl rfl (obC_7 hl0) (by decide) rfl (Nat.le_of_ble_eq_true rfl) (eg_dd (by omega)) hq31 (fun M30 hp => ?_)
                have h := h M30 hp
                exact eg_vreturn dX7_leaveLine_203 rfl h
            clear h
            refine eg_if_eq (tgt := 169) dX7_leaveLine_162 rfl (fun c32 => ?_) (fun c32 => ?_)
            · refine eg_iconst dX7_leaveLine_169 ic_3 ?_
              exact J _ (by rw [if_pos c32])
            · refine eg_iconst dX7_leaveLine_165 ic_2 ?_
              refine eg_goto (tgt := 170) dX7_leaveLine_166 rfl ?_
              exact J _ (by rw [if_neg c32])
          clear h
          refine eg_if_le (tgt := 156) dX7_leaveLine_149 rfl (fun c33 => ?_) (fun c33 => ?_)
          · refine eg_iconst dX7_leaveLine_156 ic_0 ?_
            exact J _ (by rw [if_pos c33])
          · refine eg_iconst dX7_leaveLine_152 ic_1 ?_
            refine eg_goto (tgt := 157) dX7_leaveLine_153 rfl ?_
            exact J _ (by rw [if_neg c33])
    clear h
    refine eg_if_ge (tgt := 99) dX7_leaveLine_92 rfl (fun c34 => ?_) (fun c34 => ?_)
    · refine eg_lload 0 dX7_leaveLine_99 rfl ?_
      exact J _ (by rw [if_pos c34])
    · refine eg_lconst dX7_leaveLine_95 lc_0 ?_
      refine eg_goto (tgt := 101) dX7_leaveLine_96 rfl ?_
      exact J _ (by rw [if_neg c34])
  clear h
  refine eg_if_eq (tgt := 78) dX7_leaveLine_66 rfl (fun c35 => ?_) (fun c35 => ?_)
  · refine eg_iload 1 dX7_leaveLine_78 rfl ?_
    refine eg_i2l dX7_leaveLine_80 ?_
    refine eg_goto (tgt := 86) dX7_leaveLine_81 rfl ?_
    exact J _ (by rw [if_pos c35])
  · refine eg_lload 0 dX7_leaveLine_69 rfl ?_
    refine eg_iload 1 dX7_leaveLine_71 rfl ?_
    refine eg_i2l dX7_leaveLine_73 ?_
    refine eg_lcmp dX7_leaveLine_74 ?_
    refine eg_if_le (tgt := 84) dX7_leaveLine_75 rfl (fun c36 => ?_) (fun c36 => ?_)
    · refine eg_lload 0 dX7_leaveLine_84 rfl ?_
      exact J _ (by rw [if_neg c35, if_pos c36])
    · refine eg_iload 1 dX7_leaveLine_78 rfl ?_
      refine eg_i2l dX7_leaveLine_80 ?_
      refine eg_goto (tgt := 86) dX7_leaveLine_81 rfl ?_
      exact J _ (by rw [if_neg c35, if_neg c36])
set_option maxRecDepth 10000 in
theorem vX7_leaveLine_156 {κ : eg_K} {d : Nat} (hd : 1 ≤ d) {post : eg_H → Prop} (M : eg_H) {l0 : Nat} (hl0 : l0 < 4) (l1 : Int32) {l3 : Nat} (hl3 : l3 < 60) (h : (∀ x1 : Int32, x1 = ((if (0 : Int32) = 0 then (3 : Int32) else (2 : Int32))) → (∀ M2 : eg_H, M2 = (sI M (2, l3) 0 x1) → ((0 : Int32) = 0 → (∀ M4 : eg_H, M4 = (sI M2 (2, l3) 6 (-1 : Int32)) → eCV κ gC mtX7_stepOut d [vR (7, l0), vI l1] M4 (fun M5 => post M5))) ∧ ((¬ (0 : Int32) = 0) → (∃ p7 : Nat, p7 < 2 ∧ M2.2.2 (7, l0) 0 = (5, p7) ∧ (∀ M8 : eg_H, M8 = (sI M2 (2, l3) 6 ((M2.1 (7, l0) 1) + (M2.1 (5, p7) 5))) → eCV κ gC mtX7_stepOut d [vR (7, l0), vI l1] M8 (fun M9 => post M9))))))) : eg_W κ gC mtX7_leaveLine d (eQV κ gC post) 156 [(0, vR (7, l0)), (1, vI l1), (3, vR (2, l3))] [] M := by
  refine eg_iconst dX7_leaveLine_156 ic_0 ?_
  refine eg_istore dX7_leaveLine_157 (by decide) (ls1 := [(7, vI (0 : Int32)), (0, vR (7, l0)), (1, vI l1), (3, vR (2, l3))]) rfl ?_
  refine eg_aload_n 3 dX7_leaveLine_159 rfl rfl ?_
  refine eg_iload 0 dX7_leaveLine_160 rfl ?_
  have J : ∀ x1 : Int32, x1 = (if (0 : Int32) = 0 then (3 : Int32) else (2 : Int32)) → eg_W κ gC mtX7_leaveLine d (eQV κ gC post) 170 [(7, vI (0 : Int32)), (0, vR (7, l0)), (1, vI l1), (3, vR (2, l3))] [vI x1, vR (2, l3)] M := by
    intro x1 ex1
    have h := h x1 ex1
    refine en_putI dX7_leaveLine_170 fl_7_114 rfl rfl (obC_2 hl3) (fun M2 eM2 => ?_)
    have h := h M2 eM2
    refine eg_aload_n 3 dX7_leaveLine_173 rfl rfl ?_
    refine eg_iload 0 dX7_leaveLine_174 rfl ?_
    refine eg_if_eq (tgt := 194) dX7_leaveLine_176 rfl (fun c3 => ?_) (fun c3 => ?_)
    · have h := h.1 c3
      refine eg_iconst dX7_leaveLine_194 ic_m1 ?_
      refine en_putI dX7_leaveLine_195 fl_7_122 rfl rfl (obC_2 hl3) (fun M4 eM4 => ?_)
      have h := h M4 eM4
      refine eg_aload_n 1 dX7_leaveLine_198 rfl rfl ?_
      refine eg_iload_n 2 dX7_leaveLine_199 rfl rfl ?_
      obtain ⟨q6, hq6, h⟩ := h
      refine eg_callVV (av := [vI l1]) (st := []) dX7_leaveLine_200 ml_7_243 rfl rfl (obC_7 hl0) (by decide) rfl (Nat.le_of_ble_eq_true rfl) (eg_dd (by omega)) hq6 (fun M5 hp => ?_)
      have h := h M5 hp
      exact eg_vreturn dX7_leaveLine_203 rfl h
    · have h := h.2 c3
      refine eg_aload_n 1 dX7_leaveLine_179 rfl rfl ?_
      refine eg_getI dX7_leaveLine_180 fl_7_36 rfl trivial (obC_7 hl0) ?_
      refine eg_aload_n 1 dX7_leaveLine_183 rfl rfl ?_
      refine eg_getD dX7_leaveLine_184 fl_7_30 rfl rfl (obC_7 hl0) ?_
      obtain ⟨p7, hp7, ep7, h⟩ := h
      rw [ep7]
      refine eg_getI dX7_leaveLine_187 fl_7_236 rfl trivial (obC_5 hp7) ?_
      refine eg_iadd dX7_leaveLine_190 ?_
      refine eg_goto (tgt := 195) dX7_leaveLine_191 rfl ?_
      refine en_putI dX7_leaveLine_195 fl_7_122 rfl rfl (obC_2 hl3) (fun M8 eM8 => ?_)
      have h := h M8 eM8
      refine eg_aload_n 1 dX7_leaveLine_198 rfl rfl ?_
      refine eg_iload_n 2 dX7_leaveLine_199 rfl rfl ?_
      obtain ⟨q10, hq10, h⟩ := h
      refine eg_callVV (av := [vI l1]) (st := []) dX7_leaveLine_200 ml_7_243 rfl rfl (obC_7 hl0) (by decide) rfl (Nat.le_of_ble_eq_true rfl) (eg_dd (by omega)) hq10 (fun M9 hp => ?_)
      have h := h M9 hp
      exact eg_vreturn dX7_leaveLine_203 rfl h
  clear h
  refine eg_if_eq (tgt := 169) dX7_leaveLine_162 rfl (fun c11 => ?_) (fun c11 => ?_)
  · refine eg_iconst dX7_leaveLine_169 ic_3 ?_
    exact J _ (by rw [if_pos c11])
  · refine eg_iconst dX7_leaveLine_165 ic_2 ?_
    refine eg_goto (tgt := 170) dX7_leaveLine_166 rfl ?_
    exact J _ (by rw [if_neg c11])
theorem dX7_stepOut_0 : decode cX7_stepOut 0 = .ok (.aload_n 0, 1) := by decide +kernel
theorem dX7_stepOut_1 : decode cX7_stepOut 1 = .ok (.getfield 27, 3) := by decide +kernel
theorem dX7_stepOut_4 : decode cX7_stepOut 4 = .ok (.iload_n 1, 1) := by decide +kernel
theorem dX7_stepOut_5 : decode cX7_stepOut 5 = .ok (.iaload, 1) := by decide +kernel
theorem dX7_stepOut_6 : decode cX7_stepOut 6 = .ok (.istore_n 2, 1) := by decide +kernel
theorem dX7_stepOut_7 : decode cX7_stepOut 7 = .ok (.iload_n 1, 1) := by decide +kernel
theorem dX7_stepOut_8 : decode cX7_stepOut 8 = .ok (.istore_n 3, 1) := by decide +kernel
theorem dX7_stepOut_9 : decode cX7_stepOut 9 = .ok (.iload_n 3, 1) := by decide +kernel
theorem dX7_stepOut_10 : decode cX7_stepOut 10 = .ok (.iconst 1, 1) := by decide +kernel
theorem dX7_stepOut_11 : decode cX7_stepOut 11 = .ok (.iadd, 1) := by decide +kernel
theorem dX7_stepOut_12 : decode cX7_stepOut 12 = .ok (.aload_n 0, 1) := by decide +kernel
theorem dX7_stepOut_13 : decode cX7_stepOut 13 = .ok (.getfield 40, 3) := by decide +kernel
theorem dX7_stepOut_16 : decode cX7_stepOut 16 = .ok (.if_icmp .ge 23, 3) := by decide +kernel
theorem dX7_stepOut_19 : decode cX7_stepOut 19 = .ok (.aload_n 0, 1) := by decide +kernel
theorem dX7_stepOut_20 : decode cX7_stepOut 20 = .ok (.getfield 27, 3) := by decide +kernel
theorem dX7_stepOut_23 : decode cX7_stepOut 23 = .ok (.iload_n 3, 1) := by decide +kernel
theorem dX7_stepOut_24 : decode cX7_stepOut 24 = .ok (.aload_n 0, 1) := by decide +kernel
theorem dX7_stepOut_25 : decode cX7_stepOut 25 = .ok (.getfield 27, 3) := by decide +kernel
theorem dX7_stepOut_28 : decode cX7_stepOut 28 = .ok (.iload_n 3, 1) := by decide +kernel
theorem dX7_stepOut_29 : decode cX7_stepOut 29 = .ok (.iconst 1, 1) := by decide +kernel
theorem dX7_stepOut_30 : decode cX7_stepOut 30 = .ok (.iadd, 1) := by decide +kernel
theorem dX7_stepOut_31 : decode cX7_stepOut 31 = .ok (.iaload, 1) := by decide +kernel
theorem dX7_stepOut_32 : decode cX7_stepOut 32 = .ok (.iastore, 1) := by decide +kernel
theorem dX7_stepOut_33 : decode cX7_stepOut 33 = .ok (.iinc 3 1, 3) := by decide +kernel
theorem dX7_stepOut_36 : decode cX7_stepOut 36 = .ok (.goto (-27), 3) := by decide +kernel
theorem dX7_stepOut_39 : decode cX7_stepOut 39 = .ok (.aload_n 0, 1) := by decide +kernel
theorem dX7_stepOut_40 : decode cX7_stepOut 40 = .ok (.dup, 1) := by decide +kernel
theorem dX7_stepOut_41 : decode cX7_stepOut 41 = .ok (.getfield 40, 3) := by decide +kernel
theorem dX7_stepOut_44 : decode cX7_stepOut 44 = .ok (.iconst 1, 1) := by decide +kernel
theorem dX7_stepOut_45 : decode cX7_stepOut 45 = .ok (.isub, 1) := by decide +kernel
theorem dX7_stepOut_46 : decode cX7_stepOut 46 = .ok (.putfield 40, 3) := by decide +kernel
theorem dX7_stepOut_49 : decode cX7_stepOut 49 = .ok (.aload_n 0, 1) := by decide +kernel
theorem dX7_stepOut_50 : decode cX7_stepOut 50 = .ok (.getfield 23, 3) := by decide +kernel
theorem dX7_stepOut_53 : decode cX7_stepOut 53 = .ok (.iload_n 2, 1) := by decide +kernel
theorem dX7_stepOut_54 : decode cX7_stepOut 54 = .ok (.aaload, 1) := by decide +kernel
theorem dX7_stepOut_55 : decode cX7_stepOut 55 = .ok (.aload_n 0, 1) := by decide +kernel
theorem dX7_stepOut_56 : decode cX7_stepOut 56 = .ok (.getfield 30, 3) := by decide +kernel
theorem dX7_stepOut_59 : decode cX7_stepOut 59 = .ok (.getfield 64, 3) := by decide +kernel
theorem dX7_stepOut_62 : decode cX7_stepOut 62 = .ok (.iload_n 2, 1) := by decide +kernel
theorem dX7_stepOut_63 : decode cX7_stepOut 63 = .ok (.aaload, 1) := by decide +kernel
theorem dX7_stepOut_64 : decode cX7_stepOut 64 = .ok (.invokevirtual 149, 3) := by decide +kernel
theorem dX7_stepOut_67 : decode cX7_stepOut 67 = .ok (.return_, 1) := by decide +kernel
set_option maxRecDepth 10000 in
theorem vX7_stepOut_0 {κ : eg_K} {d : Nat} {post : eg_H → Prop} (M : eg_H) {l0 : Nat} (hl0 : l0 < 4) (l1 : Int32) (h : (vp_in l1 15 ∧ (∀ x2 : Int32, x2 = (M.1 (43, l0) l1.toNatClampNeg) → eg_W κ gC mtX7_stepOut d (eQV κ gC post) 9 [(0, vR (7, l0)), (2, vI x2), (3, vI l1)] [] M))) : eg_W κ gC mtX7_stepOut d (eQV κ gC post) 0 [(0, vR (7, l0)), (1, vI l1)] [] M := by
  refine eg_aload_n 0 dX7_stepOut_0 rfl rfl ?_
  refine eg_getR dX7_stepOut_1 fl_7_27 rfl rfl (obC_7 hl0) ?_
  show eg_W κ gC mtX7_stepOut d (eQV κ gC post) 4 [(0, vR (7, l0)), (1, vI l1)] [vR (43, l0)] M
  refine eg_iload_n 1 dX7_stepOut_4 rfl rfl ?_
  obtain ⟨g1, h⟩ := h
  refine eg_iaload dX7_stepOut_5 (arC_43 hl0 g1) ?_
  refine en_istore_n (f := fun x2 => [(2, vI x2), (0, vR (7, l0)), (1, vI l1)]) dX7_stepOut_6 rfl (by decide) rfl (fun x2 ex2 => ?_)
  have h := h x2 ex2
  refine eg_iload_n 2 dX7_stepOut_7 rfl rfl ?_
  refine eg_istore_n dX7_stepOut_8 rfl (by decide) (ls1 := [(3, vI l1), (2, vI x2), (0, vR (7, l0)), (1, vI l1)]) rfl ?_
  refine eg_sub [2, 1, 0] rfl ?_
  exact h
set_option maxRecDepth 10000 in
theorem vX7_stepOut_9 {κ : eg_K} {d : Nat} (hd : 1 ≤ d) {post : eg_H → Prop} (M : eg_H) {l0 : Nat} (hl0 : l0 < 4) (l2 : Int32) (l3 : Int32) (h : ((M.1 (7, l0) 6) ≤ (l3 + (1 : Int32)) → (∀ M2 : eg_H, M2 = (sI M (7, l0) 6 ((M.1 (7, l0) 6) - (1 : Int32))) → (vp_in l2 15 ∧ (∃ p4 : Nat, p4 < 2 ∧ M2.2.2 (7, l0) 0 = (5, p4) ∧ (∀ M5 : eg_H, M5 = (fX2_clearPlate M2 (15 * l0 + l2.toNatClampNeg) (15 * p4 + l2.toNatClampNeg)) → post M5))))) ∧ ((¬ (M.1 (7, l0) 6) ≤ (l3 + (1 : Int32))) → (vp_in (l3 + (1 : Int32)) 15 ∧ (vp_in l3 15 ∧ (∀ M9 : eg_H, M9 = (sI M (43, l0) l3.toNatClampNeg (M.1 (43, l0) (l3 + (1 : Int32)).toNatClampNeg)) → (∀ x10 : Int32, x10 = (l3 + (1 : Int32)) → eg_W κ gC mtX7_stepOut d (eQV κ gC post) 9 [(0, vR (7, l0)), (2, vI l2), (3, vI x10)] [] M9)))))) : eg_W κ gC mtX7_stepOut d (eQV κ gC post) 9 [(0, vR (7, l0)), (2, vI l2), (3, vI l3)] [] M := by
  refine eg_iload_n 2 dX7_stepOut_9 rfl rfl ?_
  refine eg_iconst dX7_stepOut_10 ic_1 ?_
  refine eg_iadd dX7_stepOut_11 ?_
  refine eg_aload_n 0 dX7_stepOut_12 rfl rfl ?_
  refine eg_getI dX7_stepOut_13 fl_7_40 rfl trivial (obC_7 hl0) ?_
  refine eg_icmp_ge (tgt := 39) dX7_stepOut_16 rfl (fun c1 => ?_) (fun c1 => ?_)
  · have h := h.1 c1
    refine eg_aload_n 0 dX7_stepOut_39 rfl rfl ?_
    refine eg_dup dX7_stepOut_40 rfl ?_
    refine eg_getI dX7_stepOut_41 fl_7_40 rfl trivial (obC_7 hl0) ?_
    refine eg_iconst dX7_stepOut_44 ic_1 ?_
    refine eg_isub dX7_stepOut_45 ?_
    refine en_putI dX7_stepOut_46 fl_7_40 rfl rfl (obC_7 hl0) (fun M2 eM2 => ?_)
    have h := h M2 eM2
    refine eg_aload_n 0 dX7_stepOut_49 rfl rfl ?_
    refine eg_getR dX7_stepOut_50 fl_7_23 rfl rfl (obC_7 hl0) ?_
    show eg_W κ gC mtX7_stepOut d (eQV κ gC post) 53 [(0, vR (7, l0)), (2, vI l2), (3, vI l3)] [vR (42, l0)] M2
    refine eg_iload_n 1 dX7_stepOut_53 rfl rfl ?_
    obtain ⟨g3, h⟩ := h
    refine eg_aaload7 dX7_stepOut_54 (arC_42 hl0 g3) ?_
    show eg_W κ gC mtX7_stepOut d (eQV κ gC post) 55 [(0, vR (7, l0)), (2, vI l2), (3, vI l3)] [vR (2, 15 * l0 + l2.toNatClampNeg)] M2
    refine eg_aload_n 0 dX7_stepOut_55 rfl rfl ?_
    refine eg_getD dX7_stepOut_56 fl_7_30 rfl rfl (obC_7 hl0) ?_
    obtain ⟨p4, hp4, ep4, h⟩ := h
    rw [ep4]
    refine eg_getR dX7_stepOut_59 fl_7_64 rfl rfl (obC_5 hp4) ?_
    show eg_W κ gC mtX7_stepOut d (eQV κ gC post) 62 [(0, vR (7, l0)), (2, vI l2), (3, vI l3)] [vR (31, p4), vR (2, 15 * l0 + l2.toNatClampNeg)] M2
    refine eg_iload_n 1 dX7_stepOut_62 rfl rfl ?_
    refine eg_aaload5 dX7_stepOut_63 (arC_31 hp4 g3) ?_
    show eg_W κ gC mtX7_stepOut d (eQV κ gC post) 64 [(0, vR (7, l0)), (2, vI l2), (3, vI l3)] [vR (0, 15 * p4 + l2.toNatClampNeg), vR (2, 15 * l0 + l2.toNatClampNeg)] M2
    refine eg_callVV (av := [vR (0, 15 * p4 + l2.toNatClampNeg)]) (st := []) dX7_stepOut_64 ml_7_149 rfl rfl (obC_2 (ixT15 hl0 g3)) (by decide) rfl (Nat.le_of_ble_eq_true rfl) (eg_dd (by omega)) (sX2_clearPlate (by omega) M2 (15 * l0 + l2.toNatClampNeg) (15 * p4 + l2.toNatClampNeg) (ixT15 hl0 g3) (ixP15 hp4 g3) ) (fun M5 eM5 => ?_)
    have h := h M5 eM5
    exact eg_vreturn dX7_stepOut_67 rfl h
  · have h := h.2 c1
    refine eg_aload_n 0 dX7_stepOut_19 rfl rfl ?_
    refine eg_getR dX7_stepOut_20 fl_7_27 rfl rfl (obC_7 hl0) ?_
    show eg_W κ gC mtX7_stepOut d (eQV κ gC post) 23 [(0, vR (7, l0)), (2, vI l2), (3, vI l3)] [vR (43, l0)] M
    refine eg_iload_n 2 dX7_stepOut_23 rfl rfl ?_
    refine eg_aload_n 0 dX7_stepOut_24 rfl rfl ?_
    refine eg_getR dX7_stepOut_25 fl_7_27 rfl rfl (obC_7 hl0) ?_
    show eg_W κ gC mtX7_stepOut d (eQV κ gC post) 28 [(0, vR (7, l0)), (2, vI l2), (3, vI l3)] [vR (43, l0), vI l3, vR (43, l0)] M
    refine eg_iload_n 2 dX7_stepOut_28 rfl rfl ?_
    refine eg_iconst dX7_stepOut_29 ic_1 ?_
    refine eg_iadd dX7_stepOut_30 ?_
    obtain ⟨g7, h⟩ := h
    refine eg_iaload dX7_stepOut_31 (arC_43 hl0 g7) ?_
    obtain ⟨g8, h⟩ := h
    refine en_iastore dX7_stepOut_32 (arC_43 hl0 g8) (fun M9 eM9 => ?_)
    have h := h M9 eM9
    refine en_iinc (f := fun x10 => [(3, vI x10), (0, vR (7, l0)), (2, vI l2)]) 2 dX7_stepOut_33 rfl rfl (by decide) rfl (fun x10 ex10 => ?_)
    have h := h x10 ex10
    refine eg_goto (tgt := 9) dX7_stepOut_36 rfl ?_
    refine eg_sub [1, 2, 0] rfl ?_
    exact h
theorem dX7_describe_0 : decode cX7_describe 0 = .ok (.aload_n 0, 1) := by decide +kernel
theorem dX7_describe_1 : decode cX7_describe 1 = .ok (.getfield 23, 3) := by decide +kernel
theorem dX7_describe_4 : decode cX7_describe 4 = .ok (.iload_n 1, 1) := by decide +kernel
theorem dX7_describe_5 : decode cX7_describe 5 = .ok (.aaload, 1) := by decide +kernel
theorem dX7_describe_6 : decode cX7_describe 6 = .ok (.astore_n 3, 1) := by decide +kernel
theorem dX7_describe_7 : decode cX7_describe 7 = .ok (.aload_n 0, 1) := by decide +kernel
theorem dX7_describe_8 : decode cX7_describe 8 = .ok (.getfield 30, 3) := by decide +kernel
theorem dX7_describe_11 : decode cX7_describe 11 = .ok (.getfield 204, 3) := by decide +kernel
theorem dX7_describe_14 : decode cX7_describe 14 = .ok (.astore 4, 2) := by decide +kernel
theorem dX7_describe_16 : decode cX7_describe 16 = .ok (.aload_n 0, 1) := by decide +kernel
theorem dX7_describe_17 : decode cX7_describe 17 = .ok (.getfield 30, 3) := by decide +kernel
theorem dX7_describe_20 : decode cX7_describe 20 = .ok (.getfield 64, 3) := by decide +kernel
theorem dX7_describe_23 : decode cX7_describe 23 = .ok (.iload_n 1, 1) := by decide +kernel
theorem dX7_describe_24 : decode cX7_describe 24 = .ok (.aaload, 1) := by decide +kernel
theorem dX7_describe_25 : decode cX7_describe 25 = .ok (.getfield 227, 3) := by decide +kernel
theorem dX7_describe_28 : decode cX7_describe 28 = .ok (.istore 5, 2) := by decide +kernel
theorem dX7_describe_30 : decode cX7_describe 30 = .ok (.aload_n 0, 1) := by decide +kernel
theorem dX7_describe_31 : decode cX7_describe 31 = .ok (.getfield 30, 3) := by decide +kernel
theorem dX7_describe_34 : decode cX7_describe 34 = .ok (.iload_n 2, 1) := by decide +kernel
theorem dX7_describe_35 : decode cX7_describe 35 = .ok (.invokevirtual 172, 3) := by decide +kernel
theorem dX7_describe_38 : decode cX7_describe 38 = .ok (.istore 6, 2) := by decide +kernel
theorem dX7_describe_40 : decode cX7_describe 40 = .ok (.iload 6, 2) := by decide +kernel
theorem dX7_describe_42 : decode cX7_describe 42 = .ok (.ifCond .eq 15, 3) := by decide +kernel
theorem dX7_describe_45 : decode cX7_describe 45 = .ok (.aload_n 0, 1) := by decide +kernel
theorem dX7_describe_46 : decode cX7_describe 46 = .ok (.getfield 17, 3) := by decide +kernel
theorem dX7_describe_49 : decode cX7_describe 49 = .ok (.iload_n 2, 1) := by decide +kernel
theorem dX7_describe_50 : decode cX7_describe 50 = .ok (.aaload, 1) := by decide +kernel
theorem dX7_describe_51 : decode cX7_describe 51 = .ok (.getfield 142, 3) := by decide +kernel
theorem dX7_describe_54 : decode cX7_describe 54 = .ok (.goto 6, 3) := by decide +kernel
theorem dX7_describe_57 : decode cX7_describe 57 = .ok (.sipush 999, 3) := by decide +kernel
theorem dX7_describe_60 : decode cX7_describe 60 = .ok (.istore 7, 2) := by decide +kernel
theorem dX7_describe_62 : decode cX7_describe 62 = .ok (.aload 4, 2) := by decide +kernel
theorem dX7_describe_64 : decode cX7_describe 64 = .ok (.bipush 16, 2) := by decide +kernel
theorem dX7_describe_66 : decode cX7_describe 66 = .ok (.iload_n 2, 1) := by decide +kernel
theorem dX7_describe_67 : decode cX7_describe 67 = .ok (.iconst (-1), 1) := by decide +kernel
theorem dX7_describe_68 : decode cX7_describe 68 = .ok (.if_icmp .ne 11, 3) := by decide +kernel
theorem dX7_describe_71 : decode cX7_describe 71 = .ok (.aload_n 3, 1) := by decide +kernel
theorem dX7_describe_72 : decode cX7_describe 72 = .ok (.invokevirtual 239, 3) := by decide +kernel
theorem dX7_describe_75 : decode cX7_describe 75 = .ok (.i2l, 1) := by decide +kernel
theorem dX7_describe_76 : decode cX7_describe 76 = .ok (.goto 10, 3) := by decide +kernel
theorem dX7_describe_79 : decode cX7_describe 79 = .ok (.aload_n 3, 1) := by decide +kernel
theorem dX7_describe_80 : decode cX7_describe 80 = .ok (.getfield 198, 3) := by decide +kernel
theorem dX7_describe_83 : decode cX7_describe 83 = .ok (.iload_n 2, 1) := by decide +kernel
theorem dX7_describe_84 : decode cX7_describe 84 = .ok (.iaload, 1) := by decide +kernel
theorem dX7_describe_85 : decode cX7_describe 85 = .ok (.i2l, 1) := by decide +kernel
theorem dX7_describe_86 : decode cX7_describe 86 = .ok (.invokevirtual 246, 3) := by decide +kernel
theorem dX7_describe_89 : decode cX7_describe 89 = .ok (.aload 4, 2) := by decide +kernel
theorem dX7_describe_91 : decode cX7_describe 91 = .ok (.bipush 17, 2) := by decide +kernel
theorem dX7_describe_93 : decode cX7_describe 93 = .ok (.aload_n 3, 1) := by decide +kernel
theorem dX7_describe_94 : decode cX7_describe 94 = .ok (.getfield 195, 3) := by decide +kernel
theorem dX7_describe_97 : decode cX7_describe 97 = .ok (.i2l, 1) := by decide +kernel
theorem dX7_describe_98 : decode cX7_describe 98 = .ok (.invokevirtual 246, 3) := by decide +kernel
theorem dX7_describe_101 : decode cX7_describe 101 = .ok (.aload 4, 2) := by decide +kernel
theorem dX7_describe_103 : decode cX7_describe 103 = .ok (.bipush 18, 2) := by decide +kernel
theorem dX7_describe_105 : decode cX7_describe 105 = .ok (.iload_n 2, 1) := by decide +kernel
theorem dX7_describe_106 : decode cX7_describe 106 = .ok (.iconst (-1), 1) := by decide +kernel
theorem dX7_describe_107 : decode cX7_describe 107 = .ok (.if_icmp .ne 7, 3) := by decide +kernel
theorem dX7_describe_110 : decode cX7_describe 110 = .ok (.lconst 0, 1) := by decide +kernel
theorem dX7_describe_111 : decode cX7_describe 111 = .ok (.goto 6, 3) := by decide +kernel
theorem dX7_describe_114 : decode cX7_describe 114 = .ok (.iload 7, 2) := by decide +kernel
theorem dX7_describe_116 : decode cX7_describe 116 = .ok (.i2l, 1) := by decide +kernel
theorem dX7_describe_117 : decode cX7_describe 117 = .ok (.invokevirtual 246, 3) := by decide +kernel
theorem dX7_describe_120 : decode cX7_describe 120 = .ok (.aload 4, 2) := by decide +kernel
theorem dX7_describe_122 : decode cX7_describe 122 = .ok (.bipush 19, 2) := by decide +kernel
theorem dX7_describe_124 : decode cX7_describe 124 = .ok (.iload 6, 2) := by decide +kernel
theorem dX7_describe_126 : decode cX7_describe 126 = .ok (.ifCond .eq 16, 3) := by decide +kernel
theorem dX7_describe_129 : decode cX7_describe 129 = .ok (.aload_n 0, 1) := by decide +kernel
theorem dX7_describe_130 : decode cX7_describe 130 = .ok (.getfield 17, 3) := by decide +kernel
theorem dX7_describe_133 : decode cX7_describe 133 = .ok (.iload_n 2, 1) := by decide +kernel
theorem dX7_describe_134 : decode cX7_describe 134 = .ok (.aaload, 1) := by decide +kernel
theorem dX7_describe_135 : decode cX7_describe 135 = .ok (.getfield 136, 3) := by decide +kernel
theorem dX7_describe_138 : decode cX7_describe 138 = .ok (.i2l, 1) := by decide +kernel
theorem dX7_describe_139 : decode cX7_describe 139 = .ok (.goto 4, 3) := by decide +kernel
theorem dX7_describe_142 : decode cX7_describe 142 = .ok (.lconst 0, 1) := by decide +kernel
theorem dX7_describe_143 : decode cX7_describe 143 = .ok (.invokevirtual 246, 3) := by decide +kernel
theorem dX7_describe_146 : decode cX7_describe 146 = .ok (.aload 4, 2) := by decide +kernel
theorem dX7_describe_148 : decode cX7_describe 148 = .ok (.bipush 20, 2) := by decide +kernel
theorem dX7_describe_150 : decode cX7_describe 150 = .ok (.aload_n 0, 1) := by decide +kernel
theorem dX7_describe_151 : decode cX7_describe 151 = .ok (.getfield 40, 3) := by decide +kernel
theorem dX7_describe_154 : decode cX7_describe 154 = .ok (.i2l, 1) := by decide +kernel
theorem dX7_describe_155 : decode cX7_describe 155 = .ok (.invokevirtual 246, 3) := by decide +kernel
theorem dX7_describe_158 : decode cX7_describe 158 = .ok (.aload 4, 2) := by decide +kernel
theorem dX7_describe_160 : decode cX7_describe 160 = .ok (.bipush 21, 2) := by decide +kernel
theorem dX7_describe_162 : decode cX7_describe 162 = .ok (.aload_n 0, 1) := by decide +kernel
theorem dX7_describe_163 : decode cX7_describe 163 = .ok (.getfield 36, 3) := by decide +kernel
theorem dX7_describe_166 : decode cX7_describe 166 = .ok (.aload_n 0, 1) := by decide +kernel
theorem dX7_describe_167 : decode cX7_describe 167 = .ok (.getfield 30, 3) := by decide +kernel
theorem dX7_describe_170 : decode cX7_describe 170 = .ok (.getfield 64, 3) := by decide +kernel
theorem dX7_describe_173 : decode cX7_describe 173 = .ok (.iload_n 1, 1) := by decide +kernel
theorem dX7_describe_174 : decode cX7_describe 174 = .ok (.aaload, 1) := by decide +kernel
theorem dX7_describe_175 : decode cX7_describe 175 = .ok (.getfield 117, 3) := by decide +kernel
theorem dX7_describe_178 : decode cX7_describe 178 = .ok (.isub, 1) := by decide +kernel
theorem dX7_describe_179 : decode cX7_describe 179 = .ok (.i2l, 1) := by decide +kernel
theorem dX7_describe_180 : decode cX7_describe 180 = .ok (.invokevirtual 246, 3) := by decide +kernel
theorem dX7_describe_183 : decode cX7_describe 183 = .ok (.aload 4, 2) := by decide +kernel
theorem dX7_describe_185 : decode cX7_describe 185 = .ok (.bipush 22, 2) := by decide +kernel
theorem dX7_describe_187 : decode cX7_describe 187 = .ok (.iload 5, 2) := by decide +kernel
theorem dX7_describe_189 : decode cX7_describe 189 = .ok (.i2l, 1) := by decide +kernel
theorem dX7_describe_190 : decode cX7_describe 190 = .ok (.invokevirtual 246, 3) := by decide +kernel
theorem dX7_describe_193 : decode cX7_describe 193 = .ok (.aload 4, 2) := by decide +kernel
theorem dX7_describe_195 : decode cX7_describe 195 = .ok (.bipush 23, 2) := by decide +kernel
theorem dX7_describe_197 : decode cX7_describe 197 = .ok (.iload 5, 2) := by decide +kernel
theorem dX7_describe_199 : decode cX7_describe 199 = .ok (.aload_n 3, 1) := by decide +kernel
theorem dX7_describe_200 : decode cX7_describe 200 = .ok (.getfield 195, 3) := by decide +kernel
theorem dX7_describe_203 : decode cX7_describe 203 = .ok (.isub, 1) := by decide +kernel
theorem dX7_describe_204 : decode cX7_describe 204 = .ok (.i2l, 1) := by decide +kernel
theorem dX7_describe_205 : decode cX7_describe 205 = .ok (.invokevirtual 246, 3) := by decide +kernel
theorem dX7_describe_208 : decode cX7_describe 208 = .ok (.return_, 1) := by decide +kernel
set_option maxRecDepth 10000 in
theorem vX7_describe_0 {κ : eg_K} {d : Nat} (hd : 1 ≤ d) {post : eg_H → Prop} (M : eg_H) {l0 : Nat} (hl0 : l0 < 4) (l1 : Int32) (l2 : Int32) (h : (vp_in l1 15 ∧ (∃ p2 : Nat, p2 < 2 ∧ M.2.2 (7, l0) 0 = (5, p2) ∧ (∀ x3 : Int32, x3 = (M.1 (0, 15 * p2 + l1.toNatClampNeg) 2) → (gX5_hasPan M p2 l2 ∧ (∀ x6 : Int32, x6 = (fX5_hasPan M p2 l2) → (((¬ x6 = 0) → vp_in l2 5) ∧ (∀ x8 : Int32, x8 = ((if x6 = 0 then (999 : Int32) else (M.1 (4, 5 * l0 + l2.toNatClampNeg) 0))) → ((¬ l2 = (-1 : Int32)) → (vp_in l2 5 ∧ eg_W κ gC mtX7_describe d (eQV κ gC post) 86 [(0, vR (7, l0)), (1, vI l1), (2, vI l2), (3, vR (2, 15 * l0 + l1.toNatClampNeg)), (4, vR (3, p2)), (5, vI x3), (6, vI x6), (7, vI x8)] [vL ((M.1 (22, 15 * l0 + l1.toNatClampNeg) l2.toNatClampNeg).toInt64), vI (16 : Int32), vR (3, p2)] M)) ∧ (l2 = (-1 : Int32) → (∀ x12 : Int32, x12 = (fX2_wantsLeft M (15 * l0 + l1.toNatClampNeg)) → eg_W κ gC mtX7_describe d (eQV κ gC post) 86 [(0, vR (7, l0)), (1, vI l1), (2, vI l2), (3, vR (2, 15 * l0 + l1.toNatClampNeg)), (4, vR (3, p2)), (5, vI x3), (6, vI x6), (7, vI x8)] [vL (x12.toInt64), vI (16 : Int32), vR (3, p2)] M)))))))))) : eg_W κ gC mtX7_describe d (eQV κ gC post) 0 [(0, vR (7, l0)), (1, vI l1), (2, vI l2)] [] M := by
  refine eg_aload_n 0 dX7_describe_0 rfl rfl ?_
  refine eg_getR dX7_describe_1 fl_7_23 rfl rfl (obC_7 hl0) ?_
  show eg_W κ gC mtX7_describe d (eQV κ gC post) 4 [(0, vR (7, l0)), (1, vI l1), (2, vI l2)] [vR (42, l0)] M
  refine eg_iload_n 1 dX7_describe_4 rfl rfl ?_
  obtain ⟨g1, h⟩ := h
  refine eg_aaload7 dX7_describe_5 (arC_42 hl0 g1) ?_
  show eg_W κ gC mtX7_describe d (eQV κ gC post) 6 [(0, vR (7, l0)), (1, vI l1), (2, vI l2)] [vR (2, 15 * l0 + l1.toNatClampNeg)] M
  refine eg_astore_n dX7_describe_6 rfl (by decide) (ls1 := [(3, vR (2, 15 * l0 + l1.toNatClampNeg)), (0, vR (7, l0)), (1, vI l1), (2, vI l2)]) rfl ?_
  refine eg_aload_n 1 dX7_describe_7 rfl rfl ?_
  refine eg_getD dX7_describe_8 fl_7_30 rfl rfl (obC_7 hl0) ?_
  obtain ⟨p2, hp2, ep2, h⟩ := h
  rw [ep2]
  refine eg_getR dX7_describe_11 fl_7_204 rfl rfl (obC_5 hp2) ?_
  show eg_W κ gC mtX7_describe d (eQV κ gC post) 14 [(3, vR (2, 15 * l0 + l1.toNatClampNeg)), (0, vR (7, l0)), (1, vI l1), (2, vI l2)] [vR (3, p2)] M
  refine eg_astore dX7_describe_14 (by decide) (ls1 := [(4, vR (3, p2)), (3, vR (2, 15 * l0 + l1.toNatClampNeg)), (0, vR (7, l0)), (1, vI l1), (2, vI l2)]) rfl ?_
  refine eg_aload_n 2 dX7_describe_16 rfl rfl ?_
  refine eg_getD dX7_describe_17 fl_7_30 rfl rfl (obC_7 hl0) ?_
  rw [ep2]
  refine eg_getR dX7_describe_20 fl_7_64 rfl rfl (obC_5 hp2) ?_
  show eg_W κ gC mtX7_describe d (eQV κ gC post) 23 [(4, vR (3, p2)), (3, vR (2, 15 * l0 + l1.toNatClampNeg)), (0, vR (7, l0)), (1, vI l1), (2, vI l2)] [vR (31, p2)] M
  refine eg_iload_n 3 dX7_describe_23 rfl rfl ?_
  refine eg_aaload5 dX7_describe_24 (arC_31 hp2 g1) ?_
  show eg_W κ gC mtX7_describe d (eQV κ gC post) 25 [(4, vR (3, p2)), (3, vR (2, 15 * l0 + l1.toNatClampNeg)), (0, vR (7, l0)), (1, vI l1), (2, vI l2)] [vR (0, 15 * p2 + l1.toNatClampNeg)] M
  refine eg_getI dX7_describe_25 fl_7_227 rfl trivial (obC_0 (ixP15 hp2 g1)) ?_
  refine en_istore (f := fun x3 => [(5, vI x3), (4, vR (3, p2)), (3, vR (2, 15 * l0 + l1.toNatClampNeg)), (0, vR (7, l0)), (1, vI l1), (2, vI l2)]) dX7_describe_28 (by decide) rfl (fun x3 ex3 => ?_)
  have h := h x3 ex3
  refine eg_aload_n 3 dX7_describe_30 rfl rfl ?_
  refine eg_getD dX7_describe_31 fl_7_30 rfl rfl (obC_7 hl0) ?_
  rw [ep2]
  refine eg_iload_n 5 dX7_describe_34 rfl rfl ?_
  obtain ⟨g4, h⟩ := h
  refine eg_callVI (av := [vI l2]) (st := []) dX7_describe_35 ml_7_172 rfl rfl (obC_5 hp2) (by decide) rfl (Nat.le_of_ble_eq_true rfl) (eg_dd (by omega)) (sX5_hasPan (by omega) M p2 l2 hp2 g4) (fun x6 M5 hp => ?_)
  obtain ⟨ex6, eM5⟩ := hp
  rw [eM5]
  have h := h x6 ex6
  refine eg_istore dX7_describe_38 (by decide) (ls1 := [(6, vI x6), (5, vI x3), (4, vR (3, p2)), (3, vR (2, 15 * l0 + l1.toNatClampNeg)), (0, vR (7, l0)), (1, vI l1), (2, vI l2)]) rfl ?_
  refine eg_iload 0 dX7_describe_40 rfl ?_
  obtain ⟨g7, h⟩ := h
  have J : ∀ x8 : Int32, x8 = (if x6 = 0 then (999 : Int32) else (M.1 (4, 5 * l0 + l2.toNatClampNeg) 0)) → eg_W κ gC mtX7_describe d (eQV κ gC post) 60 [(6, vI x6), (5, vI x3), (4, vR (3, p2)), (3, vR (2, 15 * l0 + l1.toNatClampNeg)), (0, vR (7, l0)), (1, vI l1), (2, vI l2)] [vI x8] M := by
    intro x8 ex8
    have h := h x8 ex8
    refine eg_istore dX7_describe_60 (by decide) (ls1 := [(7, vI x8), (6, vI x6), (5, vI x3), (4, vR (3, p2)), (3, vR (2, 15 * l0 + l1.toNatClampNeg)), (0, vR (7, l0)), (1, vI l1), (2, vI l2)]) rfl ?_
    refine eg_aload 3 dX7_describe_62 rfl ?_
    refine eg_bipush dX7_describe_64 bp_16 ?_
    refine eg_iload_n 7 dX7_describe_66 rfl rfl ?_
    refine eg_iconst dX7_describe_67 ic_m1 ?_
    refine eg_icmp_ne (tgt := 79) dX7_describe_68 rfl (fun c9 => ?_) (fun c9 => ?_)
    · have h := h.1 c9
      refine eg_aload_n 4 dX7_describe_79 rfl rfl ?_
      refine eg_getR dX7_describe_80 fl_7_198 rfl rfl (obC_2 (ixT15 hl0 g1)) ?_
      show eg_W κ gC mtX7_describe d (eQV κ gC post) 83 [(7, vI x8), (6, vI x6), (5, vI x3), (4, vR (3, p2)), (3, vR (2, 15 * l0 + l1.toNatClampNeg)), (0, vR (7, l0)), (1, vI l1), (2, vI l2)] [vR (22, 15 * l0 + l1.toNatClampNeg), vI (16 : Int32), vR (3, p2)] M
      refine eg_iload_n 7 dX7_describe_83 rfl rfl ?_
      obtain ⟨g10, h⟩ := h
      refine eg_iaload dX7_describe_84 (arC_22 (ixT15 hl0 g1) g10) ?_
      refine eg_i2l dX7_describe_85 ?_
      refine eg_sub [5, 6, 7, 4, 3, 2, 1, 0] rfl ?_
      exact h
    · have h := h.2 c9
      refine eg_aload_n 4 dX7_describe_71 rfl rfl ?_
      refine eg_callVI (av := []) (st := [vI (16 : Int32), vR (3, p2)]) dX7_describe_72 ml_7_239 rfl rfl (obC_2 (ixT15 hl0 g1)) (by decide) rfl (Nat.le_of_ble_eq_true rfl) (eg_dd (by omega)) (sX2_wantsLeft (by omega) M (15 * l0 + l1.toNatClampNeg) (ixT15 hl0 g1) ) (fun x12 M11 hp => ?_)
      obtain ⟨ex12, eM11⟩ := hp
      rw [eM11]
      have h := h x12 ex12
      refine eg_i2l dX7_describe_75 ?_
      refine eg_goto (tgt := 86) dX7_describe_76 rfl ?_
      refine eg_sub [5, 6, 7, 4, 3, 2, 1, 0] rfl ?_
      exact h
  clear h
  refine eg_if_eq (tgt := 57) dX7_describe_42 rfl (fun c13 => ?_) (fun c13 => ?_)
  · refine eg_sipush dX7_describe_57 sp_999 ?_
    exact J _ (by rw [if_pos c13])
  · refine eg_aload_n 4 dX7_describe_45 rfl rfl ?_
    refine eg_getR dX7_describe_46 fl_7_17 rfl rfl (obC_7 hl0) ?_
    show eg_W κ gC mtX7_describe d (eQV κ gC post) 49 [(6, vI x6), (5, vI x3), (4, vR (3, p2)), (3, vR (2, 15 * l0 + l1.toNatClampNeg)), (0, vR (7, l0)), (1, vI l1), (2, vI l2)] [vR (41, l0)] M
    refine eg_iload_n 6 dX7_describe_49 rfl rfl ?_
    refine eg_aaload6 dX7_describe_50 (arC_41 hl0 (g7 (show (¬ x6 = 0) from by first | exact c13 | exact Classical.not_not.mp c13))) ?_
    show eg_W κ gC mtX7_describe d (eQV κ gC post) 51 [(6, vI x6), (5, vI x3), (4, vR (3, p2)), (3, vR (2, 15 * l0 + l1.toNatClampNeg)), (0, vR (7, l0)), (1, vI l1), (2, vI l2)] [vR (4, 5 * l0 + l2.toNatClampNeg)] M
    refine eg_getI dX7_describe_51 fl_7_142 rfl trivial (obC_4 (ixT5 hl0 (g7 (show (¬ x6 = 0) from by first | exact c13 | exact Classical.not_not.mp c13)))) ?_
    refine eg_goto (tgt := 60) dX7_describe_54 rfl ?_
    exact J _ (by rw [if_neg c13])
set_option maxRecDepth 10000 in
theorem vX7_describe_86 {κ : eg_K} {d : Nat} (hd : 1 ≤ d) {post : eg_H → Prop} (M : eg_H) {l0 : Nat} (hl0 : l0 < 4) (l1 : Int32) (l2 : Int32) {l3 : Nat} (hl3 : l3 < 60) {l4 : Nat} (hl4 : l4 < 2) (l5 : Int32) (l6 : Int32) (l7 : Int32) (s0 : Int64) (s1 : Int32) {s2 : Nat} (hs2 : s2 < 2) (h : (gX3_setName M s2 s1 s0 ∧ (∀ M2 : eg_H, M2 = (fX3_setName M s2 s1 s0) → (gX3_setName M2 l4 (17 : Int32) ((M2.1 (2, l3) 2).toInt64) ∧ (∀ M5 : eg_H, M5 = (fX3_setName M2 l4 (17 : Int32) ((M2.1 (2, l3) 2).toInt64)) → (∀ x7 : Int64, x7 = ((if (¬ l2 = (-1 : Int32)) then (l7.toInt64) else (0 : Int64))) → (gX3_setName M5 l4 (18 : Int32) x7 ∧ (∀ M9 : eg_H, M9 = (fX3_setName M5 l4 (18 : Int32) x7) → (((¬ l6 = 0) → vp_in l2 5) ∧ (∀ x12 : Int64, x12 = ((if l6 = 0 then (0 : Int64) else ((M9.1 (4, 5 * l0 + l2.toNatClampNeg) 1).toInt64))) → (gX3_setName M9 l4 (19 : Int32) x12 ∧ (∀ M14 : eg_H, M14 = (fX3_setName M9 l4 (19 : Int32) x12) → (gX3_setName M14 l4 (20 : Int32) ((M14.1 (7, l0) 6).toInt64) ∧ (∀ M17 : eg_H, M17 = (fX3_setName M14 l4 (20 : Int32) ((M14.1 (7, l0) 6).toInt64)) → (∃ p19 : Nat, p19 < 2 ∧ M17.2.2 (7, l0) 0 = (5, p19) ∧ (vp_in l1 15 ∧ (gX3_setName M17 l4 (21 : Int32) (((M17.1 (7, l0) 1) - (M17.1 (0, 15 * p19 + l1.toNatClampNeg) 1)).toInt64) ∧ (∀ M22 : eg_H, M22 = (fX3_setName M17 l4 (21 : Int32) (((M17.1 (7, l0) 1) - (M17.1 (0, 15 * p19 + l1.toNatClampNeg) 1)).toInt64)) → (gX3_setName M22 l4 (22 : Int32) (l5.toInt64) ∧ (∀ M25 : eg_H, M25 = (fX3_setName M22 l4 (22 : Int32) (l5.toInt64)) → (gX3_setName M25 l4 (23 : Int32) ((l5 - (M25.1 (2, l3) 2)).toInt64) ∧ (∀ M28 : eg_H, M28 = (fX3_setName M25 l4 (23 : Int32) ((l5 - (M25.1 (2, l3) 2)).toInt64)) → post M28)))))))))))))))))))))) : eg_W κ gC mtX7_describe d (eQV κ gC post) 86 [(0, vR (7, l0)), (1, vI l1), (2, vI l2), (3, vR (2, l3)), (4, vR (3, l4)), (5, vI l5), (6, vI l6), (7, vI l7)] [vL s0, vI s1, vR (3, s2)] M := by
  obtain ⟨g1, h⟩ := h
  refine eg_callVV (av := [vI s1, vL s0]) (st := []) dX7_describe_86 ml_7_246 rfl rfl (obC_3 hs2) (by decide) rfl (Nat.le_of_ble_eq_true rfl) (eg_dd (by omega)) (sX3_setName (by omega) M s2 s1 s0 hs2 g1) (fun M2 eM2 => ?_)
  have h := h M2 eM2
  refine eg_aload 4 dX7_describe_89 rfl ?_
  refine eg_bipush dX7_describe_91 bp_17 ?_
  refine eg_aload_n 3 dX7_describe_93 rfl rfl ?_
  refine eg_getI dX7_describe_94 fl_7_195 rfl trivial (obC_2 hl3) ?_
  refine eg_i2l dX7_describe_97 ?_
  obtain ⟨g4, h⟩ := h
  refine eg_callVV (av := [vI (17 : Int32), vL ((M2.1 (2, l3) 2).toInt64)]) (st := []) dX7_describe_98 ml_7_246 rfl rfl (obC_3 hl4) (by decide) rfl (Nat.le_of_ble_eq_true rfl) (eg_dd (by omega)) (sX3_setName (by omega) M2 l4 (17 : Int32) ((M2.1 (2, l3) 2).toInt64) hl4 g4) (fun M5 eM5 => ?_)
  have h := h M5 eM5
  refine eg_aload 4 dX7_describe_101 rfl ?_
  refine eg_bipush dX7_describe_103 bp_18 ?_
  refine eg_iload_n 2 dX7_describe_105 rfl rfl ?_
  refine eg_iconst dX7_describe_106 ic_m1 ?_
  have J : ∀ x7 : Int64, x7 = (if (¬ l2 = (-1 : Int32)) then (l7.toInt64) else (0 : Int64)) → eg_W κ gC mtX7_describe d (eQV κ gC post) 117 [(0, vR (7, l0)), (1, vI l1), (2, vI l2), (3, vR (2, l3)), (4, vR (3, l4)), (5, vI l5), (6, vI l6), (7, vI l7)] [vL x7, vI (18 : Int32), vR (3, l4)] M5 := by
    intro x7 ex7
    have h := h x7 ex7
    obtain ⟨g8, h⟩ := h
    refine eg_callVV (av := [vI (18 : Int32), vL x7]) (st := []) dX7_describe_117 ml_7_246 rfl rfl (obC_3 hl4) (by decide) rfl (Nat.le_of_ble_eq_true rfl) (eg_dd (by omega)) (sX3_setName (by omega) M5 l4 (18 : Int32) x7 hl4 g8) (fun M9 eM9 => ?_)
    have h := h M9 eM9
    refine eg_aload 4 dX7_describe_120 rfl ?_
    refine eg_bipush dX7_describe_122 bp_19 ?_
    refine eg_iload 6 dX7_describe_124 rfl ?_
    obtain ⟨g11, h⟩ := h
    have J : ∀ x12 : Int64, x12 = (if l6 = 0 then (0 : Int64) else ((M9.1 (4, 5 * l0 + l2.toNatClampNeg) 1).toInt64)) → eg_W κ gC mtX7_describe d (eQV κ gC post) 143 [(0, vR (7, l0)), (1, vI l1), (2, vI l2), (3, vR (2, l3)), (4, vR (3, l4)), (5, vI l5), (6, vI l6), (7, vI l7)] [vL x12, vI (19 : Int32), vR (3, l4)] M9 := by
      intro x12 ex12
      have h := h x12 ex12
      obtain ⟨g13, h⟩ := h
      refine eg_callVV (av := [vI (19 : Int32), vL x12]) (st := []) dX7_describe_143 ml_7_246 rfl rfl (obC_3 hl4) (by decide) rfl (Nat.le_of_ble_eq_true rfl) (eg_dd (by omega)) (sX3_setName (by omega) M9 l4 (19 : Int32) x12 hl4 g13) (fun M14 eM14 => ?_)
      have h := h M14 eM14
      refine eg_aload 4 dX7_describe_146 rfl ?_
      refine eg_bipush dX7_describe_148 bp_20 ?_
      refine eg_aload_n 0 dX7_describe_150 rfl rfl ?_
      refine eg_getI dX7_describe_151 fl_7_40 rfl trivial (obC_7 hl0) ?_
      refine eg_i2l dX7_describe_154 ?_
      obtain ⟨g16, h⟩ := h
      refine eg_callVV (av := [vI (20 : Int32), vL ((M14.1 (7, l0) 6).toInt64)]) (st := []) dX7_describe_155 ml_7_246 rfl rfl (obC_3 hl4) (by decide) rfl (Nat.le_of_ble_eq_true rfl) (eg_dd (by omega)) (sX3_setName (by omega) M14 l4 (20 : Int32) ((M14.1 (7, l0) 6).toInt64) hl4 g16) (fun M17 eM17 => ?_)
      have h := h M17 eM17
      refine eg_aload 4 dX7_describe_158 rfl ?_
      refine eg_bipush dX7_describe_160 bp_21 ?_
      refine eg_aload_n 0 dX7_describe_162 rfl rfl ?_
      refine eg_getI dX7_describe_163 fl_7_36 rfl trivial (obC_7 hl0) ?_
      refine eg_aload_n 0 dX7_describe_166 rfl rfl ?_
      refine eg_getD dX7_describe_167 fl_7_30 rfl rfl (obC_7 hl0) ?_
      obtain ⟨p19, hp19, ep19, h⟩ := h
      rw [ep19]
      refine eg_getR dX7_describe_170 fl_7_64 rfl rfl (obC_5 hp19) ?_
      show eg_W κ gC mtX7_describe d (eQV κ gC post) 173 [(0, vR (7, l0)), (1, vI l1), (2, vI l2), (3, vR (2, l3)), (4, vR (3, l4)), (5, vI l5), (6, vI l6), (7, vI l7)] [vR (31, p19), vI (M17.1 (7, l0) 1), vI (21 : Int32), vR (3, l4)] M17
      refine eg_iload_n 1 dX7_describe_173 rfl rfl ?_
      obtain ⟨g20, h⟩ := h
      refine eg_aaload5 dX7_describe_174 (arC_31 hp19 g20) ?_
      show eg_W κ gC mtX7_describe d (eQV κ gC post) 175 [(0, vR (7, l0)), (1, vI l1), (2, vI l2), (3, vR (2, l3)), (4, vR (3, l4)), (5, vI l5), (6, vI l6), (7, vI l7)] [vR (0, 15 * p19 + l1.toNatClampNeg), vI (M17.1 (7, l0) 1), vI (21 : Int32), vR (3, l4)] M17
      refine eg_getI dX7_describe_175 fl_7_117 rfl trivial (obC_0 (ixP15 hp19 g20)) ?_
      refine eg_isub dX7_describe_178 ?_
      refine eg_i2l dX7_describe_179 ?_
      obtain ⟨g21, h⟩ := h
      refine eg_callVV (av := [vI (21 : Int32), vL (((M17.1 (7, l0) 1) - (M17.1 (0, 15 * p19 + l1.toNatClampNeg) 1)).toInt64)]) (st := []) dX7_describe_180 ml_7_246 rfl rfl (obC_3 hl4) (by decide) rfl (Nat.le_of_ble_eq_true rfl) (eg_dd (by omega)) (sX3_setName (by omega) M17 l4 (21 : Int32) (((M17.1 (7, l0) 1) - (M17.1 (0, 15 * p19 + l1.toNatClampNeg) 1)).toInt64) hl4 g21) (fun M22 eM22 => ?_)
      have h := h M22 eM22
      refine eg_aload 4 dX7_describe_183 rfl ?_
      refine eg_bipush dX7_describe_185 bp_22 ?_
      refine eg_iload 5 dX7_describe_187 rfl ?_
      refine eg_i2l dX7_describe_189 ?_
      obtain ⟨g24, h⟩ := h
      refine eg_callVV (av := [vI (22 : Int32), vL (l5.toInt64)]) (st := []) dX7_describe_190 ml_7_246 rfl rfl (obC_3 hl4) (by decide) rfl (Nat.le_of_ble_eq_true rfl) (eg_dd (by omega)) (sX3_setName (by omega) M22 l4 (22 : Int32) (l5.toInt64) hl4 g24) (fun M25 eM25 => ?_)
      have h := h M25 eM25
      refine eg_aload 4 dX7_describe_193 rfl ?_
      refine eg_bipush dX7_describe_195 bp_23 ?_
      refine eg_iload 5 dX7_describe_197 rfl ?_
      refine eg_aload_n 3 dX7_describe_199 rfl rfl ?_
      refine eg_getI dX7_describe_200 fl_7_195 rfl trivial (obC_2 hl3) ?_
      refine eg_isub dX7_describe_203 ?_
      refine eg_i2l dX7_describe_204 ?_
      obtain ⟨g27, h⟩ := h
      refine eg_callVV (av := [vI (23 : Int32), vL ((l5 - (M25.1 (2, l3) 2)).toInt64)]) (st := []) dX7_describe_205 ml_7_246 rfl rfl (obC_3 hl4) (by decide) rfl (Nat.le_of_ble_eq_true rfl) (eg_dd (by omega)) (sX3_setName (by omega) M25 l4 (23 : Int32) ((l5 - (M25.1 (2, l3) 2)).toInt64) hl4 g27) (fun M28 eM28 => ?_)
      have h := h M28 eM28
      exact eg_vreturn dX7_describe_208 rfl h
    clear h
    refine eg_if_eq (tgt := 142) dX7_describe_126 rfl (fun c30 => ?_) (fun c30 => ?_)
    · refine eg_lconst dX7_describe_142 lc_0 ?_
      exact J _ (by rw [if_pos c30])
    · refine eg_aload_n 0 dX7_describe_129 rfl rfl ?_
      refine eg_getR dX7_describe_130 fl_7_17 rfl rfl (obC_7 hl0) ?_
      show eg_W κ gC mtX7_describe d (eQV κ gC post) 133 [(0, vR (7, l0)), (1, vI l1), (2, vI l2), (3, vR (2, l3)), (4, vR (3, l4)), (5, vI l5), (6, vI l6), (7, vI l7)] [vR (41, l0), vI (19 : Int32), vR (3, l4)] M9
      refine eg_iload_n 2 dX7_describe_133 rfl rfl ?_
      refine eg_aaload6 dX7_describe_134 (arC_41 hl0 (g11 (show (¬ l6 = 0) from by first | exact c30 | exact Classical.not_not.mp c30))) ?_
      show eg_W κ gC mtX7_describe d (eQV κ gC post) 135 [(0, vR (7, l0)), (1, vI l1), (2, vI l2), (3, vR (2, l3)), (4, vR (3, l4)), (5, vI l5), (6, vI l6), (7, vI l7)] [vR (4, 5 * l0 + l2.toNatClampNeg), vI (19 : Int32), vR (3, l4)] M9
      refine eg_getI dX7_describe_135 fl_7_136 rfl trivial (obC_4 (ixT5 hl0 (g11 (show (¬ l6 = 0) from by first | exact c30 | exact Classical.not_not.mp c30)))) ?_
      refine eg_i2l dX7_describe_138 ?_
      refine eg_goto (tgt := 143) dX7_describe_139 rfl ?_
      exact J _ (by rw [if_neg c30])
  clear h
  refine eg_icmp_ne (tgt := 114) dX7_describe_107 rfl (fun c31 => ?_) (fun c31 => ?_)
  · refine eg_iload 7 dX7_describe_114 rfl ?_
    refine eg_i2l dX7_describe_116 ?_
    exact J _ (by rw [if_pos c31])
  · have c32 : ¬ (¬ l2 = (-1 : Int32)) := fun z => z c31
    refine eg_lconst dX7_describe_110 lc_0 ?_
    refine eg_goto (tgt := 117) dX7_describe_111 rfl ?_
    exact J _ (by rw [if_neg c32])
theorem dX7_takeOn_0 : decode cX7_takeOn 0 = .ok (.iconst 0, 1) := by decide +kernel
theorem dX7_takeOn_1 : decode cX7_takeOn 1 = .ok (.istore_n 1, 1) := by decide +kernel
theorem dX7_takeOn_2 : decode cX7_takeOn 2 = .ok (.iload_n 1, 1) := by decide +kernel
theorem dX7_takeOn_3 : decode cX7_takeOn 3 = .ok (.aload_n 0, 1) := by decide +kernel
theorem dX7_takeOn_4 : decode cX7_takeOn 4 = .ok (.getfield 40, 3) := by decide +kernel
theorem dX7_takeOn_7 : decode cX7_takeOn 7 = .ok (.if_icmp .ge 61, 3) := by decide +kernel
theorem dX7_takeOn_10 : decode cX7_takeOn 10 = .ok (.aload_n 0, 1) := by decide +kernel
theorem dX7_takeOn_11 : decode cX7_takeOn 11 = .ok (.getfield 23, 3) := by decide +kernel
theorem dX7_takeOn_14 : decode cX7_takeOn 14 = .ok (.aload_n 0, 1) := by decide +kernel
theorem dX7_takeOn_15 : decode cX7_takeOn 15 = .ok (.getfield 27, 3) := by decide +kernel
theorem dX7_takeOn_18 : decode cX7_takeOn 18 = .ok (.iload_n 1, 1) := by decide +kernel
theorem dX7_takeOn_19 : decode cX7_takeOn 19 = .ok (.iaload, 1) := by decide +kernel
theorem dX7_takeOn_20 : decode cX7_takeOn 20 = .ok (.aaload, 1) := by decide +kernel
theorem dX7_takeOn_21 : decode cX7_takeOn 21 = .ok (.astore_n 2, 1) := by decide +kernel
theorem dX7_takeOn_22 : decode cX7_takeOn 22 = .ok (.aload_n 2, 1) := by decide +kernel
theorem dX7_takeOn_23 : decode cX7_takeOn 23 = .ok (.getfield 125, 3) := by decide +kernel
theorem dX7_takeOn_26 : decode cX7_takeOn 26 = .ok (.ifCond .le 36, 3) := by decide +kernel
theorem dX7_takeOn_29 : decode cX7_takeOn 29 = .ok (.aload_n 2, 1) := by decide +kernel
theorem dX7_takeOn_30 : decode cX7_takeOn 30 = .ok (.dup, 1) := by decide +kernel
theorem dX7_takeOn_31 : decode cX7_takeOn 31 = .ok (.getfield 125, 3) := by decide +kernel
theorem dX7_takeOn_34 : decode cX7_takeOn 34 = .ok (.iconst 1, 1) := by decide +kernel
theorem dX7_takeOn_35 : decode cX7_takeOn 35 = .ok (.isub, 1) := by decide +kernel
theorem dX7_takeOn_36 : decode cX7_takeOn 36 = .ok (.putfield 125, 3) := by decide +kernel
theorem dX7_takeOn_39 : decode cX7_takeOn 39 = .ok (.aload_n 0, 1) := by decide +kernel
theorem dX7_takeOn_40 : decode cX7_takeOn 40 = .ok (.aload_n 0, 1) := by decide +kernel
theorem dX7_takeOn_41 : decode cX7_takeOn 41 = .ok (.getfield 78, 3) := by decide +kernel
theorem dX7_takeOn_44 : decode cX7_takeOn 44 = .ok (.ifCond .eq 14, 3) := by decide +kernel
theorem dX7_takeOn_47 : decode cX7_takeOn 47 = .ok (.aload_n 2, 1) := by decide +kernel
theorem dX7_takeOn_48 : decode cX7_takeOn 48 = .ok (.getfield 125, 3) := by decide +kernel
theorem dX7_takeOn_51 : decode cX7_takeOn 51 = .ok (.ifCond .le 7, 3) := by decide +kernel
theorem dX7_takeOn_54 : decode cX7_takeOn 54 = .ok (.iconst 1, 1) := by decide +kernel
theorem dX7_takeOn_55 : decode cX7_takeOn 55 = .ok (.goto 4, 3) := by decide +kernel
theorem dX7_takeOn_58 : decode cX7_takeOn 58 = .ok (.iconst 0, 1) := by decide +kernel
theorem dX7_takeOn_59 : decode cX7_takeOn 59 = .ok (.putfield 78, 3) := by decide +kernel
theorem dX7_takeOn_62 : decode cX7_takeOn 62 = .ok (.iinc 1 1, 3) := by decide +kernel
theorem dX7_takeOn_65 : decode cX7_takeOn 65 = .ok (.goto (-63), 3) := by decide +kernel
theorem dX7_takeOn_68 : decode cX7_takeOn 68 = .ok (.return_, 1) := by decide +kernel
set_option maxRecDepth 10000 in
theorem vX7_takeOn_0 {κ : eg_K} {d : Nat} {post : eg_H → Prop} (M : eg_H) {l0 : Nat} (hl0 : l0 < 4) (h : eg_W κ gC mtX7_takeOn d (eQV κ gC post) 2 [(0, vR (7, l0)), (1, vI (0 : Int32))] [] M) : eg_W κ gC mtX7_takeOn d (eQV κ gC post) 0 [(0, vR (7, l0))] [] M := by
  refine eg_iconst dX7_takeOn_0 ic_0 ?_
  refine eg_istore_n dX7_takeOn_1 rfl (by decide) (ls1 := [(1, vI (0 : Int32)), (0, vR (7, l0))]) rfl ?_
  refine eg_sub [1, 0] rfl ?_
  exact h
set_option maxRecDepth 10000 in
theorem vX7_takeOn_2 {κ : eg_K} {d : Nat} {post : eg_H → Prop} (M : eg_H) {l0 : Nat} (hl0 : l0 < 4) (l1 : Int32) (h : ((M.1 (7, l0) 6) ≤ l1 → post M) ∧ ((¬ (M.1 (7, l0) 6) ≤ l1) → (vp_in l1 15 ∧ (vp_in (M.1 (43, l0) l1.toNatClampNeg) 15 ∧ ((M.1 (2, 15 * l0 + (M.1 (43, l0) l1.toNatClampNeg).toNatClampNeg) 4) ≤ 0 → (∀ x5 : Int32, x5 = (l1 + (1 : Int32)) → eg_W κ gC mtX7_takeOn d (eQV κ gC post) 2 [(0, vR (7, l0)), (1, vI x5)] [] M)) ∧ ((¬ (M.1 (2, 15 * l0 + (M.1 (43, l0) l1.toNatClampNeg).toNatClampNeg) 4) ≤ 0) → (∀ M6 : eg_H, M6 = (sI M (2, 15 * l0 + (M.1 (43, l0) l1.toNatClampNeg).toNatClampNeg) 4 ((M.1 (2, 15 * l0 + (M.1 (43, l0) l1.toNatClampNeg).toNatClampNeg) 4) - (1 : Int32))) → (∀ x7 : Int32, x7 = ((if (M6.1 (7, l0) 7) = 0 then (0 : Int32) else (if (M6.1 (2, 15 * l0 + (M.1 (43, l0) l1.toNatClampNeg).toNatClampNeg) 4) ≤ 0 then (0 : Int32) else (1 : Int32)))) → (∀ M8 : eg_H, M8 = (sI M6 (7, l0) 7 x7) → (∀ x9 : Int32, x9 = (l1 + (1 : Int32)) → eg_W κ gC mtX7_takeOn d (eQV κ gC post) 2 [(0, vR (7, l0)), (1, vI x9)] [] M8))))))))) : eg_W κ gC mtX7_takeOn d (eQV κ gC post) 2 [(0, vR (7, l0)), (1, vI l1)] [] M := by
  refine eg_iload_n 1 dX7_takeOn_2 rfl rfl ?_
  refine eg_aload_n 0 dX7_takeOn_3 rfl rfl ?_
  refine eg_getI dX7_takeOn_4 fl_7_40 rfl trivial (obC_7 hl0) ?_
  refine eg_icmp_ge (tgt := 68) dX7_takeOn_7 rfl (fun c1 => ?_) (fun c1 => ?_)
  · have h := h.1 c1
    exact eg_vreturn dX7_takeOn_68 rfl h
  · have h := h.2 c1
    refine eg_aload_n 0 dX7_takeOn_10 rfl rfl ?_
    refine eg_getR dX7_takeOn_11 fl_7_23 rfl rfl (obC_7 hl0) ?_
    show eg_W κ gC mtX7_takeOn d (eQV κ gC post) 14 [(0, vR (7, l0)), (1, vI l1)] [vR (42, l0)] M
    refine eg_aload_n 0 dX7_takeOn_14 rfl rfl ?_
    refine eg_getR dX7_takeOn_15 fl_7_27 rfl rfl (obC_7 hl0) ?_
    show eg_W κ gC mtX7_takeOn d (eQV κ gC post) 18 [(0, vR (7, l0)), (1, vI l1)] [vR (43, l0), vR (42, l0)] M
    refine eg_iload_n 1 dX7_takeOn_18 rfl rfl ?_
    obtain ⟨g2, h⟩ := h
    refine eg_iaload dX7_takeOn_19 (arC_43 hl0 g2) ?_
    obtain ⟨g3, h⟩ := h
    refine eg_aaload7 dX7_takeOn_20 (arC_42 hl0 g3) ?_
    show eg_W κ gC mtX7_takeOn d (eQV κ gC post) 21 [(0, vR (7, l0)), (1, vI l1)] [vR (2, 15 * l0 + (M.1 (43, l0) l1.toNatClampNeg).toNatClampNeg)] M
    refine eg_astore_n dX7_takeOn_21 rfl (by decide) (ls1 := [(2, vR (2, 15 * l0 + (M.1 (43, l0) l1.toNatClampNeg).toNatClampNeg)), (0, vR (7, l0)), (1, vI l1)]) rfl ?_
    refine eg_aload_n 0 dX7_takeOn_22 rfl rfl ?_
    refine eg_getI dX7_takeOn_23 fl_7_125 rfl trivial (obC_2 (ixT15 hl0 g3)) ?_
    refine eg_if_le (tgt := 62) dX7_takeOn_26 rfl (fun c4 => ?_) (fun c4 => ?_)
    · have h := h.1 c4
      refine en_iinc (f := fun x5 => [(1, vI x5), (2, vR (2, 15 * l0 + (M.1 (43, l0) l1.toNatClampNeg).toNatClampNeg)), (0, vR (7, l0))]) 2 dX7_takeOn_62 rfl rfl (by decide) rfl (fun x5 ex5 => ?_)
      have h := h x5 ex5
      refine eg_goto (tgt := 2) dX7_takeOn_65 rfl ?_
      refine eg_sub [2, 0] rfl ?_
      exact h
    · have h := h.2 c4
      refine eg_aload_n 0 dX7_takeOn_29 rfl rfl ?_
      refine eg_dup dX7_takeOn_30 rfl ?_
      refine eg_getI dX7_takeOn_31 fl_7_125 rfl trivial (obC_2 (ixT15 hl0 g3)) ?_
      refine eg_iconst dX7_takeOn_34 ic_1 ?_
      refine eg_isub dX7_takeOn_35 ?_
      refine en_putI dX7_takeOn_36 fl_7_125 rfl rfl (obC_2 (ixT15 hl0 g3)) (fun M6 eM6 => ?_)
      have h := h M6 eM6
      refine eg_aload_n 1 dX7_takeOn_39 rfl rfl ?_
      refine eg_aload_n 1 dX7_takeOn_40 rfl rfl ?_
      refine eg_getI dX7_takeOn_41 fl_7_78 rfl trivial (obC_7 hl0) ?_
      have J : ∀ x7 : Int32, x7 = (if (M6.1 (7, l0) 7) = 0 then (0 : Int32) else (if (M6.1 (2, 15 * l0 + (M.1 (43, l0) l1.toNatClampNeg).toNatClampNeg) 4) ≤ 0 then (0 : Int32) else (1 : Int32))) → eg_W κ gC mtX7_takeOn d (eQV κ gC post) 59 [(2, vR (2, 15 * l0 + (M.1 (43, l0) l1.toNatClampNeg).toNatClampNeg)), (0, vR (7, l0)), (1, vI l1)] [vI x7, vR (7, l0)] M6 := by
        intro x7 ex7
        have h := h x7 ex7
        refine en_putZ dX7_takeOn_59 fl_7_78 rfl rfl (show x7 = 0 ∨ x7 = 1 from by rw [ex7]; exact (eg_zi (Or.inl rfl) (eg_zi (Or.inl rfl) (Or.inr rfl)))) (obC_7 hl0) (fun M8 eM8 => ?_)
        have h := h M8 eM8
        refine en_iinc (f := fun x9 => [(1, vI x9), (2, vR (2, 15 * l0 + (M.1 (43, l0) l1.toNatClampNeg).toNatClampNeg)), (0, vR (7, l0))]) 2 dX7_takeOn_62 rfl rfl (by decide) rfl (fun x9 ex9 => ?_)
        have h := h x9 ex9
        refine eg_goto (tgt := 2) dX7_takeOn_65 rfl ?_
        refine eg_sub [2, 0] rfl ?_
        exact h
      clear h
      refine eg_if_eq (tgt := 58) dX7_takeOn_44 rfl (fun c10 => ?_) (fun c10 => ?_)
      · refine eg_iconst dX7_takeOn_58 ic_0 ?_
        exact J _ (by rw [if_pos c10])
      · refine eg_aload_n 0 dX7_takeOn_47 rfl rfl ?_
        refine eg_getI dX7_takeOn_48 fl_7_125 rfl trivial (obC_2 (ixT15 hl0 g3)) ?_
        refine eg_if_le (tgt := 58) dX7_takeOn_51 rfl (fun c11 => ?_) (fun c11 => ?_)
        · refine eg_iconst dX7_takeOn_58 ic_0 ?_
          exact J _ (by rw [if_neg c10, if_pos c11])
        · refine eg_iconst dX7_takeOn_54 ic_1 ?_
          refine eg_goto (tgt := 59) dX7_takeOn_55 rfl ?_
          exact J _ (by rw [if_neg c10, if_neg c11])
theorem dX7_orderPans_0 : decode cX7_orderPans 0 = .ok (.iconst 0, 1) := by decide +kernel
theorem dX7_orderPans_1 : decode cX7_orderPans 1 = .ok (.istore_n 1, 1) := by decide +kernel
theorem dX7_orderPans_2 : decode cX7_orderPans 2 = .ok (.iload_n 1, 1) := by decide +kernel
theorem dX7_orderPans_3 : decode cX7_orderPans 3 = .ok (.aload_n 0, 1) := by decide +kernel
theorem dX7_orderPans_4 : decode cX7_orderPans 4 = .ok (.getfield 30, 3) := by decide +kernel
theorem dX7_orderPans_7 : decode cX7_orderPans 7 = .ok (.getfield 49, 3) := by decide +kernel
theorem dX7_orderPans_10 : decode cX7_orderPans 10 = .ok (.if_icmp .ge 110, 3) := by decide +kernel
theorem dX7_orderPans_13 : decode cX7_orderPans 13 = .ok (.aload_n 0, 1) := by decide +kernel
theorem dX7_orderPans_14 : decode cX7_orderPans 14 = .ok (.getfield 30, 3) := by decide +kernel
theorem dX7_orderPans_17 : decode cX7_orderPans 17 = .ok (.getfield 54, 3) := by decide +kernel
theorem dX7_orderPans_20 : decode cX7_orderPans 20 = .ok (.iload_n 1, 1) := by decide +kernel
theorem dX7_orderPans_21 : decode cX7_orderPans 21 = .ok (.aaload, 1) := by decide +kernel
theorem dX7_orderPans_22 : decode cX7_orderPans 22 = .ok (.astore_n 2, 1) := by decide +kernel
theorem dX7_orderPans_23 : decode cX7_orderPans 23 = .ok (.aload_n 0, 1) := by decide +kernel
theorem dX7_orderPans_24 : decode cX7_orderPans 24 = .ok (.getfield 17, 3) := by decide +kernel
theorem dX7_orderPans_27 : decode cX7_orderPans 27 = .ok (.iload_n 1, 1) := by decide +kernel
theorem dX7_orderPans_28 : decode cX7_orderPans 28 = .ok (.aaload, 1) := by decide +kernel
theorem dX7_orderPans_29 : decode cX7_orderPans 29 = .ok (.astore_n 3, 1) := by decide +kernel
theorem dX7_orderPans_30 : decode cX7_orderPans 30 = .ok (.aload_n 2, 1) := by decide +kernel
theorem dX7_orderPans_31 : decode cX7_orderPans 31 = .ok (.getfield 131, 3) := by decide +kernel
theorem dX7_orderPans_34 : decode cX7_orderPans 34 = .ok (.ifCond .le 80, 3) := by decide +kernel
theorem dX7_orderPans_37 : decode cX7_orderPans 37 = .ok (.aload_n 3, 1) := by decide +kernel
theorem dX7_orderPans_38 : decode cX7_orderPans 38 = .ok (.getfield 142, 3) := by decide +kernel
theorem dX7_orderPans_41 : decode cX7_orderPans 41 = .ok (.aload_n 2, 1) := by decide +kernel
theorem dX7_orderPans_42 : decode cX7_orderPans 42 = .ok (.getfield 250, 3) := by decide +kernel
theorem dX7_orderPans_45 : decode cX7_orderPans 45 = .ok (.if_icmp .gt 38, 3) := by decide +kernel
theorem dX7_orderPans_48 : decode cX7_orderPans 48 = .ok (.aload_n 3, 1) := by decide +kernel
theorem dX7_orderPans_49 : decode cX7_orderPans 49 = .ok (.getfield 105, 3) := by decide +kernel
theorem dX7_orderPans_52 : decode cX7_orderPans 52 = .ok (.iconst (-1), 1) := by decide +kernel
theorem dX7_orderPans_53 : decode cX7_orderPans 53 = .ok (.if_icmp .ne 30, 3) := by decide +kernel
theorem dX7_orderPans_56 : decode cX7_orderPans 56 = .ok (.aload_n 0, 1) := by decide +kernel
theorem dX7_orderPans_57 : decode cX7_orderPans 57 = .ok (.getfield 36, 3) := by decide +kernel
theorem dX7_orderPans_60 : decode cX7_orderPans 60 = .ok (.aload_n 0, 1) := by decide +kernel
theorem dX7_orderPans_61 : decode cX7_orderPans 61 = .ok (.getfield 30, 3) := by decide +kernel
theorem dX7_orderPans_64 : decode cX7_orderPans 64 = .ok (.getfield 253, 3) := by decide +kernel
theorem dX7_orderPans_67 : decode cX7_orderPans 67 = .ok (.if_icmp .ge 16, 3) := by decide +kernel
theorem dX7_orderPans_70 : decode cX7_orderPans 70 = .ok (.aload_n 3, 1) := by decide +kernel
theorem dX7_orderPans_71 : decode cX7_orderPans 71 = .ok (.aload_n 0, 1) := by decide +kernel
theorem dX7_orderPans_72 : decode cX7_orderPans 72 = .ok (.getfield 36, 3) := by decide +kernel
theorem dX7_orderPans_75 : decode cX7_orderPans 75 = .ok (.aload_n 2, 1) := by decide +kernel
theorem dX7_orderPans_76 : decode cX7_orderPans 76 = .ok (.getfield 256, 3) := by decide +kernel
theorem dX7_orderPans_79 : decode cX7_orderPans 79 = .ok (.iadd, 1) := by decide +kernel
theorem dX7_orderPans_80 : decode cX7_orderPans 80 = .ok (.putfield 105, 3) := by decide +kernel
theorem dX7_orderPans_83 : decode cX7_orderPans 83 = .ok (.aload_n 3, 1) := by decide +kernel
theorem dX7_orderPans_84 : decode cX7_orderPans 84 = .ok (.dup, 1) := by decide +kernel
theorem dX7_orderPans_85 : decode cX7_orderPans 85 = .ok (.getfield 136, 3) := by decide +kernel
theorem dX7_orderPans_88 : decode cX7_orderPans 88 = .ok (.iconst 1, 1) := by decide +kernel
theorem dX7_orderPans_89 : decode cX7_orderPans 89 = .ok (.iadd, 1) := by decide +kernel
theorem dX7_orderPans_90 : decode cX7_orderPans 90 = .ok (.putfield 136, 3) := by decide +kernel
theorem dX7_orderPans_93 : decode cX7_orderPans 93 = .ok (.aload_n 3, 1) := by decide +kernel
theorem dX7_orderPans_94 : decode cX7_orderPans 94 = .ok (.dup, 1) := by decide +kernel
theorem dX7_orderPans_95 : decode cX7_orderPans 95 = .ok (.getfield 139, 3) := by decide +kernel
theorem dX7_orderPans_98 : decode cX7_orderPans 98 = .ok (.aload_n 3, 1) := by decide +kernel
theorem dX7_orderPans_99 : decode cX7_orderPans 99 = .ok (.getfield 142, 3) := by decide +kernel
theorem dX7_orderPans_102 : decode cX7_orderPans 102 = .ok (.ifCond .ne 7, 3) := by decide +kernel
theorem dX7_orderPans_105 : decode cX7_orderPans 105 = .ok (.iconst 1, 1) := by decide +kernel
theorem dX7_orderPans_106 : decode cX7_orderPans 106 = .ok (.goto 4, 3) := by decide +kernel
theorem dX7_orderPans_109 : decode cX7_orderPans 109 = .ok (.iconst 0, 1) := by decide +kernel
theorem dX7_orderPans_110 : decode cX7_orderPans 110 = .ok (.iadd, 1) := by decide +kernel
theorem dX7_orderPans_111 : decode cX7_orderPans 111 = .ok (.putfield 139, 3) := by decide +kernel
theorem dX7_orderPans_114 : decode cX7_orderPans 114 = .ok (.iinc 1 1, 3) := by decide +kernel
theorem dX7_orderPans_117 : decode cX7_orderPans 117 = .ok (.goto (-115), 3) := by decide +kernel
theorem dX7_orderPans_120 : decode cX7_orderPans 120 = .ok (.return_, 1) := by decide +kernel
set_option maxRecDepth 10000 in
theorem vX7_orderPans_0 {κ : eg_K} {d : Nat} {post : eg_H → Prop} (M : eg_H) {l0 : Nat} (hl0 : l0 < 4) (h : eg_W κ gC mtX7_orderPans d (eQV κ gC post) 2 [(0, vR (7, l0)), (1, vI (0 : Int32))] [] M) : eg_W κ gC mtX7_orderPans d (eQV κ gC post) 0 [(0, vR (7, l0))] [] M := by
  refine eg_iconst dX7_orderPans_0 ic_0 ?_
  refine eg_istore_n dX7_orderPans_1 rfl (by decide) (ls1 := [(1, vI (0 : Int32)), (0, vR (7, l0))]) rfl ?_
  refine eg_sub [1, 0] rfl ?_
  exact h
set_option maxRecDepth 10000 in
theorem vX7_orderPans_2 {κ : eg_K} {d : Nat} {post : eg_H → Prop} (M : eg_H) {l0 : Nat} (hl0 : l0 < 4) (l1 : Int32) (h : (∃ p1 : Nat, p1 < 2 ∧ M.2.2 (7, l0) 0 = (5, p1) ∧ ((M.1 (5, p1) 0) ≤ l1 → post M) ∧ ((¬ (M.1 (5, p1) 0) ≤ l1) → (vp_in l1 5 ∧ ((M.1 (1, 5 * p1 + l1.toNatClampNeg) 3) ≤ 0 → (∀ x5 : Int32, x5 = (l1 + (1 : Int32)) → eg_W κ gC mtX7_orderPans d (eQV κ gC post) 2 [(0, vR (7, l0)), (1, vI x5)] [] M)) ∧ ((¬ (M.1 (1, 5 * p1 + l1.toNatClampNeg) 3) ≤ 0) → ((M.1 (1, 5 * p1 + l1.toNatClampNeg) 5) < (M.1 (4, 5 * l0 + l1.toNatClampNeg) 0) → eg_W κ gC mtX7_orderPans d (eQV κ gC post) 83 [(0, vR (7, l0)), (1, vI l1), (3, vR (4, 5 * l0 + l1.toNatClampNeg))] [] M) ∧ ((¬ (M.1 (1, 5 * p1 + l1.toNatClampNeg) 5) < (M.1 (4, 5 * l0 + l1.toNatClampNeg) 0)) → ((¬ (M.1 (4, 5 * l0 + l1.toNatClampNeg) 2) = (-1 : Int32)) → eg_W κ gC mtX7_orderPans d (eQV κ gC post) 83 [(0, vR (7, l0)), (1, vI l1), (3, vR (4, 5 * l0 + l1.toNatClampNeg))] [] M) ∧ ((M.1 (4, 5 * l0 + l1.toNatClampNeg) 2) = (-1 : Int32) → ((M.1 (5, p1) 6) ≤ (M.1 (7, l0) 1) → eg_W κ gC mtX7_orderPans d (eQV κ gC post) 83 [(0, vR (7, l0)), (1, vI l1), (3, vR (4, 5 * l0 + l1.toNatClampNeg))] [] M) ∧ ((¬ (M.1 (5, p1) 6) ≤ (M.1 (7, l0) 1)) → (∀ M9 : eg_H, M9 = (sI M (4, 5 * l0 + l1.toNatClampNeg) 2 ((M.1 (7, l0) 1) + (M.1 (1, 5 * p1 + l1.toNatClampNeg) 4))) → eg_W κ gC mtX7_orderPans d (eQV κ gC post) 83 [(0, vR (7, l0)), (1, vI l1), (3, vR (4, 5 * l0 + l1.toNatClampNeg))] [] M9))))))))) : eg_W κ gC mtX7_orderPans d (eQV κ gC post) 2 [(0, vR (7, l0)), (1, vI l1)] [] M := by
  refine eg_iload_n 1 dX7_orderPans_2 rfl rfl ?_
  refine eg_aload_n 0 dX7_orderPans_3 rfl rfl ?_
  refine eg_getD dX7_orderPans_4 fl_7_30 rfl rfl (obC_7 hl0) ?_
  obtain ⟨p1, hp1, ep1, h⟩ := h
  rw [ep1]
  refine eg_getI dX7_orderPans_7 fl_7_49 rfl trivial (obC_5 hp1) ?_
  refine eg_icmp_ge (tgt := 120) dX7_orderPans_10 rfl (fun c2 => ?_) (fun c2 => ?_)
  · have h := h.1 c2
    exact eg_vreturn dX7_orderPans_120 rfl h
  · have h := h.2 c2
    refine eg_aload_n 0 dX7_orderPans_13 rfl rfl ?_
    refine eg_getD dX7_orderPans_14 fl_7_30 rfl rfl (obC_7 hl0) ?_
    rw [ep1]
    refine eg_getR dX7_orderPans_17 fl_7_54 rfl rfl (obC_5 hp1) ?_
    show eg_W κ gC mtX7_orderPans d (eQV κ gC post) 20 [(0, vR (7, l0)), (1, vI l1)] [vR (30, p1)] M
    refine eg_iload_n 1 dX7_orderPans_20 rfl rfl ?_
    obtain ⟨g3, h⟩ := h
    refine eg_aaload4 dX7_orderPans_21 (arC_30 hp1 g3) ?_
    show eg_W κ gC mtX7_orderPans d (eQV κ gC post) 22 [(0, vR (7, l0)), (1, vI l1)] [vR (1, 5 * p1 + l1.toNatClampNeg)] M
    refine eg_astore_n dX7_orderPans_22 rfl (by decide) (ls1 := [(2, vR (1, 5 * p1 + l1.toNatClampNeg)), (0, vR (7, l0)), (1, vI l1)]) rfl ?_
    refine eg_aload_n 1 dX7_orderPans_23 rfl rfl ?_
    refine eg_getR dX7_orderPans_24 fl_7_17 rfl rfl (obC_7 hl0) ?_
    show eg_W κ gC mtX7_orderPans d (eQV κ gC post) 27 [(2, vR (1, 5 * p1 + l1.toNatClampNeg)), (0, vR (7, l0)), (1, vI l1)] [vR (41, l0)] M
    refine eg_iload_n 2 dX7_orderPans_27 rfl rfl ?_
    refine eg_aaload6 dX7_orderPans_28 (arC_41 hl0 g3) ?_
    show eg_W κ gC mtX7_orderPans d (eQV κ gC post) 29 [(2, vR (1, 5 * p1 + l1.toNatClampNeg)), (0, vR (7, l0)), (1, vI l1)] [vR (4, 5 * l0 + l1.toNatClampNeg)] M
    refine eg_astore_n dX7_orderPans_29 rfl (by decide) (ls1 := [(3, vR (4, 5 * l0 + l1.toNatClampNeg)), (2, vR (1, 5 * p1 + l1.toNatClampNeg)), (0, vR (7, l0)), (1, vI l1)]) rfl ?_
    refine eg_aload_n 1 dX7_orderPans_30 rfl rfl ?_
    refine eg_getI dX7_orderPans_31 fl_7_131 rfl trivial (obC_1 (ixP5 hp1 g3)) ?_
    refine eg_if_le (tgt := 114) dX7_orderPans_34 rfl (fun c4 => ?_) (fun c4 => ?_)
    · have h := h.1 c4
      refine en_iinc (f := fun x5 => [(1, vI x5), (3, vR (4, 5 * l0 + l1.toNatClampNeg)), (2, vR (1, 5 * p1 + l1.toNatClampNeg)), (0, vR (7, l0))]) 3 dX7_orderPans_114 rfl rfl (by decide) rfl (fun x5 ex5 => ?_)
      have h := h x5 ex5
      refine eg_goto (tgt := 2) dX7_orderPans_117 rfl ?_
      refine eg_sub [3, 0] rfl ?_
      exact h
    · have h := h.2 c4
      refine eg_aload_n 0 dX7_orderPans_37 rfl rfl ?_
      refine eg_getI dX7_orderPans_38 fl_7_142 rfl trivial (obC_4 (ixT5 hl0 g3)) ?_
      refine eg_aload_n 1 dX7_orderPans_41 rfl rfl ?_
      refine eg_getI dX7_orderPans_42 fl_7_250 rfl trivial (obC_1 (ixP5 hp1 g3)) ?_
      refine eg_icmp_gt (tgt := 83) dX7_orderPans_45 rfl (fun c6 => ?_) (fun c6 => ?_)
      · have h := h.1 c6
        refine eg_sub [2, 3, 0] rfl ?_
        exact h
      · have h := h.2 c6
        refine eg_aload_n 0 dX7_orderPans_48 rfl rfl ?_
        refine eg_getI dX7_orderPans_49 fl_7_105 rfl trivial (obC_4 (ixT5 hl0 g3)) ?_
        refine eg_iconst dX7_orderPans_52 ic_m1 ?_
        refine eg_icmp_ne (tgt := 83) dX7_orderPans_53 rfl (fun c7 => ?_) (fun c7 => ?_)
        · have h := h.1 c7
          refine eg_sub [2, 3, 0] rfl ?_
          exact h
        · have h := h.2 c7
          refine eg_aload_n 2 dX7_orderPans_56 rfl rfl ?_
          refine eg_getI dX7_orderPans_57 fl_7_36 rfl trivial (obC_7 hl0) ?_
          refine eg_aload_n 2 dX7_orderPans_60 rfl rfl ?_
          refine eg_getD dX7_orderPans_61 fl_7_30 rfl rfl (obC_7 hl0) ?_
          rw [ep1]
          refine eg_getI dX7_orderPans_64 fl_7_253 rfl trivial (obC_5 hp1) ?_
          refine eg_icmp_ge (tgt := 83) dX7_orderPans_67 rfl (fun c8 => ?_) (fun c8 => ?_)
          · have h := h.1 c8
            refine eg_sub [2, 3, 0] rfl ?_
            exact h
          · have h := h.2 c8
            refine eg_aload_n 0 dX7_orderPans_70 rfl rfl ?_
            refine eg_aload_n 2 dX7_orderPans_71 rfl rfl ?_
            refine eg_getI dX7_orderPans_72 fl_7_36 rfl trivial (obC_7 hl0) ?_
            refine eg_aload_n 1 dX7_orderPans_75 rfl rfl ?_
            refine eg_getI dX7_orderPans_76 fl_7_256 rfl trivial (obC_1 (ixP5 hp1 g3)) ?_
            refine eg_iadd dX7_orderPans_79 ?_
            refine en_putI dX7_orderPans_80 fl_7_105 rfl rfl (obC_4 (ixT5 hl0 g3)) (fun M9 eM9 => ?_)
            have h := h M9 eM9
            refine eg_sub [2, 3, 0] rfl ?_
            exact h
set_option maxRecDepth 10000 in
theorem vX7_orderPans_83 {κ : eg_K} {d : Nat} {post : eg_H → Prop} (M : eg_H) {l0 : Nat} (hl0 : l0 < 4) (l1 : Int32) {l3 : Nat} (hl3 : l3 < 20) (h : (∀ M1 : eg_H, M1 = (sI M (4, l3) 1 ((M.1 (4, l3) 1) + (1 : Int32))) → (∀ x2 : Int32, x2 = ((if (¬ (M1.1 (4, l3) 0) = 0) then (0 : Int32) else (1 : Int32))) → (∀ M3 : eg_H, M3 = (sI M1 (4, l3) 5 ((M1.1 (4, l3) 5) + x2)) → (∀ x4 : Int32, x4 = (l1 + (1 : Int32)) → eg_W κ gC mtX7_orderPans d (eQV κ gC post) 2 [(0, vR (7, l0)), (1, vI x4)] [] M3))))) : eg_W κ gC mtX7_orderPans d (eQV κ gC post) 83 [(0, vR (7, l0)), (1, vI l1), (3, vR (4, l3))] [] M := by
  refine eg_aload_n 2 dX7_orderPans_83 rfl rfl ?_
  refine eg_dup dX7_orderPans_84 rfl ?_
  refine eg_getI dX7_orderPans_85 fl_7_136 rfl trivial (obC_4 hl3) ?_
  refine eg_iconst dX7_orderPans_88 ic_1 ?_
  refine eg_iadd dX7_orderPans_89 ?_
  refine en_putI dX7_orderPans_90 fl_7_136 rfl rfl (obC_4 hl3) (fun M1 eM1 => ?_)
  have h := h M1 eM1
  refine eg_aload_n 2 dX7_orderPans_93 rfl rfl ?_
  refine eg_dup dX7_orderPans_94 rfl ?_
  refine eg_getI dX7_orderPans_95 fl_7_139 rfl trivial (obC_4 hl3) ?_
  refine eg_aload_n 2 dX7_orderPans_98 rfl rfl ?_
  refine eg_getI dX7_orderPans_99 fl_7_142 rfl trivial (obC_4 hl3) ?_
  have J : ∀ x2 : Int32, x2 = (if (¬ (M1.1 (4, l3) 0) = 0) then (0 : Int32) else (1 : Int32)) → eg_W κ gC mtX7_orderPans d (eQV κ gC post) 110 [(0, vR (7, l0)), (1, vI l1), (3, vR (4, l3))] [vI x2, vI (M1.1 (4, l3) 5), vR (4, l3)] M1 := by
    intro x2 ex2
    have h := h x2 ex2
    refine eg_iadd dX7_orderPans_110 ?_
    refine en_putI dX7_orderPans_111 fl_7_139 rfl rfl (obC_4 hl3) (fun M3 eM3 => ?_)
    have h := h M3 eM3
    refine en_iinc (f := fun x4 => [(1, vI x4), (0, vR (7, l0)), (3, vR (4, l3))]) 1 dX7_orderPans_114 rfl rfl (by decide) rfl (fun x4 ex4 => ?_)
    have h := h x4 ex4
    refine eg_goto (tgt := 2) dX7_orderPans_117 rfl ?_
    refine eg_sub [1, 0] rfl ?_
    exact h
  clear h
  refine eg_if_ne (tgt := 109) dX7_orderPans_102 rfl (fun c5 => ?_) (fun c5 => ?_)
  · refine eg_iconst dX7_orderPans_109 ic_0 ?_
    exact J _ (by rw [if_pos c5])
  · have c6 : ¬ (¬ (M1.1 (4, l3) 0) = 0) := fun z => z c5
    refine eg_iconst dX7_orderPans_105 ic_1 ?_
    refine eg_goto (tgt := 110) dX7_orderPans_106 rfl ?_
    exact J _ (by rw [if_neg c6])
theorem dX7_sendAway_0 : decode cX7_sendAway 0 = .ok (.aload_n 0, 1) := by decide +kernel
theorem dX7_sendAway_1 : decode cX7_sendAway 1 = .ok (.getfield 23, 3) := by decide +kernel
theorem dX7_sendAway_4 : decode cX7_sendAway 4 = .ok (.iload_n 1, 1) := by decide +kernel
theorem dX7_sendAway_5 : decode cX7_sendAway 5 = .ok (.aaload, 1) := by decide +kernel
theorem dX7_sendAway_6 : decode cX7_sendAway 6 = .ok (.astore_n 2, 1) := by decide +kernel
theorem dX7_sendAway_7 : decode cX7_sendAway 7 = .ok (.aload_n 2, 1) := by decide +kernel
theorem dX7_sendAway_8 : decode cX7_sendAway 8 = .ok (.iconst 3, 1) := by decide +kernel
theorem dX7_sendAway_9 : decode cX7_sendAway 9 = .ok (.putfield 114, 3) := by decide +kernel
theorem dX7_sendAway_12 : decode cX7_sendAway 12 = .ok (.aload_n 2, 1) := by decide +kernel
theorem dX7_sendAway_13 : decode cX7_sendAway 13 = .ok (.iconst (-1), 1) := by decide +kernel
theorem dX7_sendAway_14 : decode cX7_sendAway 14 = .ok (.putfield 122, 3) := by decide +kernel
theorem dX7_sendAway_17 : decode cX7_sendAway 17 = .ok (.aload_n 2, 1) := by decide +kernel
theorem dX7_sendAway_18 : decode cX7_sendAway 18 = .ok (.dup, 1) := by decide +kernel
theorem dX7_sendAway_19 : decode cX7_sendAway 19 = .ok (.getfield 233, 3) := by decide +kernel
theorem dX7_sendAway_22 : decode cX7_sendAway 22 = .ok (.aload_n 0, 1) := by decide +kernel
theorem dX7_sendAway_23 : decode cX7_sendAway 23 = .ok (.getfield 30, 3) := by decide +kernel
theorem dX7_sendAway_26 : decode cX7_sendAway 26 = .ok (.getfield 64, 3) := by decide +kernel
theorem dX7_sendAway_29 : decode cX7_sendAway 29 = .ok (.iload_n 1, 1) := by decide +kernel
theorem dX7_sendAway_30 : decode cX7_sendAway 30 = .ok (.aaload, 1) := by decide +kernel
theorem dX7_sendAway_31 : decode cX7_sendAway 31 = .ok (.getfield 227, 3) := by decide +kernel
theorem dX7_sendAway_34 : decode cX7_sendAway 34 = .ok (.aload_n 2, 1) := by decide +kernel
theorem dX7_sendAway_35 : decode cX7_sendAway 35 = .ok (.getfield 195, 3) := by decide +kernel
theorem dX7_sendAway_38 : decode cX7_sendAway 38 = .ok (.isub, 1) := by decide +kernel
theorem dX7_sendAway_39 : decode cX7_sendAway 39 = .ok (.iadd, 1) := by decide +kernel
theorem dX7_sendAway_40 : decode cX7_sendAway 40 = .ok (.putfield 233, 3) := by decide +kernel
theorem dX7_sendAway_43 : decode cX7_sendAway 43 = .ok (.iconst 0, 1) := by decide +kernel
theorem dX7_sendAway_44 : decode cX7_sendAway 44 = .ok (.istore_n 3, 1) := by decide +kernel
theorem dX7_sendAway_45 : decode cX7_sendAway 45 = .ok (.iload_n 3, 1) := by decide +kernel
theorem dX7_sendAway_46 : decode cX7_sendAway 46 = .ok (.aload_n 0, 1) := by decide +kernel
theorem dX7_sendAway_47 : decode cX7_sendAway 47 = .ok (.getfield 40, 3) := by decide +kernel
theorem dX7_sendAway_50 : decode cX7_sendAway 50 = .ok (.if_icmp .ge 25, 3) := by decide +kernel
theorem dX7_sendAway_53 : decode cX7_sendAway 53 = .ok (.aload_n 0, 1) := by decide +kernel
theorem dX7_sendAway_54 : decode cX7_sendAway 54 = .ok (.getfield 27, 3) := by decide +kernel
theorem dX7_sendAway_57 : decode cX7_sendAway 57 = .ok (.iload_n 3, 1) := by decide +kernel
theorem dX7_sendAway_58 : decode cX7_sendAway 58 = .ok (.iaload, 1) := by decide +kernel
theorem dX7_sendAway_59 : decode cX7_sendAway 59 = .ok (.iload_n 1, 1) := by decide +kernel
theorem dX7_sendAway_60 : decode cX7_sendAway 60 = .ok (.if_icmp .ne 9, 3) := by decide +kernel
theorem dX7_sendAway_63 : decode cX7_sendAway 63 = .ok (.aload_n 0, 1) := by decide +kernel
theorem dX7_sendAway_64 : decode cX7_sendAway 64 = .ok (.iload_n 3, 1) := by decide +kernel
theorem dX7_sendAway_65 : decode cX7_sendAway 65 = .ok (.invokevirtual 243, 3) := by decide +kernel
theorem dX7_sendAway_68 : decode cX7_sendAway 68 = .ok (.return_, 1) := by decide +kernel
theorem dX7_sendAway_69 : decode cX7_sendAway 69 = .ok (.iinc 3 1, 3) := by decide +kernel
theorem dX7_sendAway_72 : decode cX7_sendAway 72 = .ok (.goto (-27), 3) := by decide +kernel
theorem dX7_sendAway_75 : decode cX7_sendAway 75 = .ok (.return_, 1) := by decide +kernel
set_option maxRecDepth 10000 in
theorem vX7_sendAway_0 {κ : eg_K} {d : Nat} {post : eg_H → Prop} (M : eg_H) {l0 : Nat} (hl0 : l0 < 4) (l1 : Int32) (h : (vp_in l1 15 ∧ (∀ M2 : eg_H, M2 = (sI M (2, 15 * l0 + l1.toNatClampNeg) 0 (3 : Int32)) → (∀ M3 : eg_H, M3 = (sI M2 (2, 15 * l0 + l1.toNatClampNeg) 6 (-1 : Int32)) → (∃ p4 : Nat, p4 < 2 ∧ M3.2.2 (7, l0) 0 = (5, p4) ∧ (∀ M5 : eg_H, M5 = (sI M3 (2, 15 * l0 + l1.toNatClampNeg) 10 ((M3.1 (2, 15 * l0 + l1.toNatClampNeg) 10) + ((M3.1 (0, 15 * p4 + l1.toNatClampNeg) 2) - (M3.1 (2, 15 * l0 + l1.toNatClampNeg) 2)))) → eg_W κ gC mtX7_sendAway d (eQV κ gC post) 45 [(0, vR (7, l0)), (1, vI l1), (3, vI (0 : Int32))] [] M5)))))) : eg_W κ gC mtX7_sendAway d (eQV κ gC post) 0 [(0, vR (7, l0)), (1, vI l1)] [] M := by
  refine eg_aload_n 0 dX7_sendAway_0 rfl rfl ?_
  refine eg_getR dX7_sendAway_1 fl_7_23 rfl rfl (obC_7 hl0) ?_
  show eg_W κ gC mtX7_sendAway d (eQV κ gC post) 4 [(0, vR (7, l0)), (1, vI l1)] [vR (42, l0)] M
  refine eg_iload_n 1 dX7_sendAway_4 rfl rfl ?_
  obtain ⟨g1, h⟩ := h
  refine eg_aaload7 dX7_sendAway_5 (arC_42 hl0 g1) ?_
  show eg_W κ gC mtX7_sendAway d (eQV κ gC post) 6 [(0, vR (7, l0)), (1, vI l1)] [vR (2, 15 * l0 + l1.toNatClampNeg)] M
  refine eg_astore_n dX7_sendAway_6 rfl (by decide) (ls1 := [(2, vR (2, 15 * l0 + l1.toNatClampNeg)), (0, vR (7, l0)), (1, vI l1)]) rfl ?_
  refine eg_aload_n 0 dX7_sendAway_7 rfl rfl ?_
  refine eg_iconst dX7_sendAway_8 ic_3 ?_
  refine en_putI dX7_sendAway_9 fl_7_114 rfl rfl (obC_2 (ixT15 hl0 g1)) (fun M2 eM2 => ?_)
  have h := h M2 eM2
  refine eg_aload_n 0 dX7_sendAway_12 rfl rfl ?_
  refine eg_iconst dX7_sendAway_13 ic_m1 ?_
  refine en_putI dX7_sendAway_14 fl_7_122 rfl rfl (obC_2 (ixT15 hl0 g1)) (fun M3 eM3 => ?_)
  have h := h M3 eM3
  refine eg_aload_n 0 dX7_sendAway_17 rfl rfl ?_
  refine eg_dup dX7_sendAway_18 rfl ?_
  refine eg_getI dX7_sendAway_19 fl_7_233 rfl trivial (obC_2 (ixT15 hl0 g1)) ?_
  refine eg_aload_n 1 dX7_sendAway_22 rfl rfl ?_
  refine eg_getD dX7_sendAway_23 fl_7_30 rfl rfl (obC_7 hl0) ?_
  obtain ⟨p4, hp4, ep4, h⟩ := h
  rw [ep4]
  refine eg_getR dX7_sendAway_26 fl_7_64 rfl rfl (obC_5 hp4) ?_
  show eg_W κ gC mtX7_sendAway d (eQV κ gC post) 29 [(2, vR (2, 15 * l0 + l1.toNatClampNeg)), (0, vR (7, l0)), (1, vI l1)] [vR (31, p4), vI (M3.1 (2, 15 * l0 + l1.toNatClampNeg) 10), vR (2, 15 * l0 + l1.toNatClampNeg)] M3
  refine eg_iload_n 2 dX7_sendAway_29 rfl rfl ?_
  refine eg_aaload5 dX7_sendAway_30 (arC_31 hp4 g1) ?_
  show eg_W κ gC mtX7_sendAway d (eQV κ gC post) 31 [(2, vR (2, 15 * l0 + l1.toNatClampNeg)), (0, vR (7, l0)), (1, vI l1)] [vR (0, 15 * p4 + l1.toNatClampNeg), vI (M3.1 (2, 15 * l0 + l1.toNatClampNeg) 10), vR (2, 15 * l0 + l1.toNatClampNeg)] M3
  refine eg_getI dX7_sendAway_31 fl_7_227 rfl trivial (obC_0 (ixP15 hp4 g1)) ?_
  refine eg_aload_n 0 dX7_sendAway_34 rfl rfl ?_
  refine eg_getI dX7_sendAway_35 fl_7_195 rfl trivial (obC_2 (ixT15 hl0 g1)) ?_
  refine eg_isub dX7_sendAway_38 ?_
  refine eg_iadd dX7_sendAway_39 ?_
  refine en_putI dX7_sendAway_40 fl_7_233 rfl rfl (obC_2 (ixT15 hl0 g1)) (fun M5 eM5 => ?_)
  have h := h M5 eM5
  refine eg_iconst dX7_sendAway_43 ic_0 ?_
  refine eg_istore_n dX7_sendAway_44 rfl (by decide) (ls1 := [(3, vI (0 : Int32)), (2, vR (2, 15 * l0 + l1.toNatClampNeg)), (0, vR (7, l0)), (1, vI l1)]) rfl ?_
  refine eg_sub [2, 3, 0] rfl ?_
  exact h
set_option maxRecDepth 10000 in
theorem vX7_sendAway_45 {κ : eg_K} {d : Nat} (hd : 1 ≤ d) {post : eg_H → Prop} (M : eg_H) {l0 : Nat} (hl0 : l0 < 4) (l1 : Int32) (l3 : Int32) (h : ((M.1 (7, l0) 6) ≤ l3 → post M) ∧ ((¬ (M.1 (7, l0) 6) ≤ l3) → (vp_in l3 15 ∧ ((¬ (M.1 (43, l0) l3.toNatClampNeg) = l1) → (∀ x4 : Int32, x4 = (l3 + (1 : Int32)) → eg_W κ gC mtX7_sendAway d (eQV κ gC post) 45 [(0, vR (7, l0)), (1, vI l1), (3, vI x4)] [] M)) ∧ ((M.1 (43, l0) l3.toNatClampNeg) = l1 → eCV κ gC mtX7_stepOut d [vR (7, l0), vI l3] M (fun M5 => post M5))))) : eg_W κ gC mtX7_sendAway d (eQV κ gC post) 45 [(0, vR (7, l0)), (1, vI l1), (3, vI l3)] [] M := by
  refine eg_iload_n 2 dX7_sendAway_45 rfl rfl ?_
  refine eg_aload_n 0 dX7_sendAway_46 rfl rfl ?_
  refine eg_getI dX7_sendAway_47 fl_7_40 rfl trivial (obC_7 hl0) ?_
  refine eg_icmp_ge (tgt := 75) dX7_sendAway_50 rfl (fun c1 => ?_) (fun c1 => ?_)
  · have h := h.1 c1
    exact eg_vreturn dX7_sendAway_75 rfl h
  · have h := h.2 c1
    refine eg_aload_n 0 dX7_sendAway_53 rfl rfl ?_
    refine eg_getR dX7_sendAway_54 fl_7_27 rfl rfl (obC_7 hl0) ?_
    show eg_W κ gC mtX7_sendAway d (eQV κ gC post) 57 [(0, vR (7, l0)), (1, vI l1), (3, vI l3)] [vR (43, l0)] M
    refine eg_iload_n 2 dX7_sendAway_57 rfl rfl ?_
    obtain ⟨g2, h⟩ := h
    refine eg_iaload dX7_sendAway_58 (arC_43 hl0 g2) ?_
    refine eg_iload_n 1 dX7_sendAway_59 rfl rfl ?_
    refine eg_icmp_ne (tgt := 69) dX7_sendAway_60 rfl (fun c3 => ?_) (fun c3 => ?_)
    · have h := h.1 c3
      refine en_iinc (f := fun x4 => [(3, vI x4), (0, vR (7, l0)), (1, vI l1)]) 2 dX7_sendAway_69 rfl rfl (by decide) rfl (fun x4 ex4 => ?_)
      have h := h x4 ex4
      refine eg_goto (tgt := 45) dX7_sendAway_72 rfl ?_
      refine eg_sub [1, 2, 0] rfl ?_
      exact h
    · have h := h.2 c3
      refine eg_aload_n 0 dX7_sendAway_63 rfl rfl ?_
      refine eg_iload_n 2 dX7_sendAway_64 rfl rfl ?_
      obtain ⟨q6, hq6, h⟩ := h
      refine eg_callVV (av := [vI l3]) (st := []) dX7_sendAway_65 ml_7_243 rfl rfl (obC_7 hl0) (by decide) rfl (Nat.le_of_ble_eq_true rfl) (eg_dd (by omega)) hq6 (fun M5 hp => ?_)
      have h := h M5 hp
      exact eg_vreturn dX7_sendAway_68 rfl h
theorem dX7_perform_0 : decode cX7_perform 0 = .ok (.iload_n 1, 1) := by decide +kernel
theorem dX7_perform_1 : decode cX7_perform 1 = .ok (.ifCond .ne 24, 3) := by decide +kernel
theorem dX7_perform_4 : decode cX7_perform 4 = .ok (.aload_n 0, 1) := by decide +kernel
theorem dX7_perform_5 : decode cX7_perform 5 = .ok (.getfield 17, 3) := by decide +kernel
theorem dX7_perform_8 : decode cX7_perform 8 = .ok (.iload_n 2, 1) := by decide +kernel
theorem dX7_perform_9 : decode cX7_perform 9 = .ok (.aaload, 1) := by decide +kernel
theorem dX7_perform_10 : decode cX7_perform 10 = .ok (.aload_n 0, 1) := by decide +kernel
theorem dX7_perform_11 : decode cX7_perform 11 = .ok (.getfield 30, 3) := by decide +kernel
theorem dX7_perform_14 : decode cX7_perform 14 = .ok (.getfield 54, 3) := by decide +kernel
theorem dX7_perform_17 : decode cX7_perform 17 = .ok (.iload_n 2, 1) := by decide +kernel
theorem dX7_perform_18 : decode cX7_perform 18 = .ok (.aaload, 1) := by decide +kernel
theorem dX7_perform_19 : decode cX7_perform 19 = .ok (.invokevirtual 143, 3) := by decide +kernel
theorem dX7_perform_22 : decode cX7_perform 22 = .ok (.goto 49, 3) := by decide +kernel
theorem dX7_perform_25 : decode cX7_perform 25 = .ok (.iload_n 1, 1) := by decide +kernel
theorem dX7_perform_26 : decode cX7_perform 26 = .ok (.iconst 1, 1) := by decide +kernel
theorem dX7_perform_27 : decode cX7_perform 27 = .ok (.if_icmp .ne 34, 3) := by decide +kernel
theorem dX7_perform_30 : decode cX7_perform 30 = .ok (.aload_n 0, 1) := by decide +kernel
theorem dX7_perform_31 : decode cX7_perform 31 = .ok (.getfield 9, 3) := by decide +kernel
theorem dX7_perform_34 : decode cX7_perform 34 = .ok (.iload_n 2, 1) := by decide +kernel
theorem dX7_perform_35 : decode cX7_perform 35 = .ok (.iaload, 1) := by decide +kernel
theorem dX7_perform_36 : decode cX7_perform 36 = .ok (.istore 4, 2) := by decide +kernel
theorem dX7_perform_38 : decode cX7_perform 38 = .ok (.aload_n 0, 1) := by decide +kernel
theorem dX7_perform_39 : decode cX7_perform 39 = .ok (.getfield 9, 3) := by decide +kernel
theorem dX7_perform_42 : decode cX7_perform 42 = .ok (.iload_n 2, 1) := by decide +kernel
theorem dX7_perform_43 : decode cX7_perform 43 = .ok (.aload_n 0, 1) := by decide +kernel
theorem dX7_perform_44 : decode cX7_perform 44 = .ok (.getfield 9, 3) := by decide +kernel
theorem dX7_perform_47 : decode cX7_perform 47 = .ok (.iload_n 3, 1) := by decide +kernel
theorem dX7_perform_48 : decode cX7_perform 48 = .ok (.iaload, 1) := by decide +kernel
theorem dX7_perform_49 : decode cX7_perform 49 = .ok (.iastore, 1) := by decide +kernel
theorem dX7_perform_50 : decode cX7_perform 50 = .ok (.aload_n 0, 1) := by decide +kernel
theorem dX7_perform_51 : decode cX7_perform 51 = .ok (.getfield 9, 3) := by decide +kernel
theorem dX7_perform_54 : decode cX7_perform 54 = .ok (.iload_n 3, 1) := by decide +kernel
theorem dX7_perform_55 : decode cX7_perform 55 = .ok (.iload 4, 2) := by decide +kernel
theorem dX7_perform_57 : decode cX7_perform 57 = .ok (.iastore, 1) := by decide +kernel
theorem dX7_perform_58 : decode cX7_perform 58 = .ok (.goto 13, 3) := by decide +kernel
theorem dX7_perform_61 : decode cX7_perform 61 = .ok (.iload_n 1, 1) := by decide +kernel
theorem dX7_perform_62 : decode cX7_perform 62 = .ok (.iconst 2, 1) := by decide +kernel
theorem dX7_perform_63 : decode cX7_perform 63 = .ok (.if_icmp .ne 8, 3) := by decide +kernel
theorem dX7_perform_66 : decode cX7_perform 66 = .ok (.aload_n 0, 1) := by decide +kernel
theorem dX7_perform_67 : decode cX7_perform 67 = .ok (.iload_n 2, 1) := by decide +kernel
theorem dX7_perform_68 : decode cX7_perform 68 = .ok (.invokevirtual 259, 3) := by decide +kernel
theorem dX7_perform_71 : decode cX7_perform 71 = .ok (.return_, 1) := by decide +kernel
set_option maxRecDepth 10000 in
theorem vX7_perform_0 {κ : eg_K} {d : Nat} (hd : 1 ≤ d) {post : eg_H → Prop} (M : eg_H) {l0 : Nat} (hl0 : l0 < 4) (l1 : Int32) (l2 : Int32) (l3 : Int32) (h : ((¬ l1 = 0) → ((¬ l1 = (1 : Int32)) → ((¬ l1 = (2 : Int32)) → post M) ∧ (l1 = (2 : Int32) → eCV κ gC mtX7_sendAway d [vR (7, l0), vI l2] M (fun M4 => post M4))) ∧ (l1 = (1 : Int32) → (vp_in l2 5 ∧ (∀ x7 : Int32, x7 = (M.1 (40, l0) l2.toNatClampNeg) → (vp_in l3 5 ∧ (∀ M9 : eg_H, M9 = (sI M (40, l0) l2.toNatClampNeg (M.1 (40, l0) l3.toNatClampNeg)) → (∀ M10 : eg_H, M10 = (sI M9 (40, l0) l3.toNatClampNeg x7) → post M10))))))) ∧ (l1 = 0 → (vp_in l2 5 ∧ (∃ p12 : Nat, p12 < 2 ∧ M.2.2 (7, l0) 0 = (5, p12) ∧ (∀ M13 : eg_H, M13 = (fX4_addPan M (5 * l0 + l2.toNatClampNeg) (5 * p12 + l2.toNatClampNeg)) → post M13))))) : eg_W κ gC mtX7_perform d (eQV κ gC post) 0 [(0, vR (7, l0)), (1, vI l1), (2, vI l2), (3, vI l3)] [] M := by
  refine eg_iload_n 1 dX7_perform_0 rfl rfl ?_
  refine eg_if_ne (tgt := 25) dX7_perform_1 rfl (fun c1 => ?_) (fun c1 => ?_)
  · have h := h.1 c1
    refine eg_iload_n 1 dX7_perform_25 rfl rfl ?_
    refine eg_iconst dX7_perform_26 ic_1 ?_
    refine eg_icmp_ne (tgt := 61) dX7_perform_27 rfl (fun c2 => ?_) (fun c2 => ?_)
    · have h := h.1 c2
      refine eg_iload_n 1 dX7_perform_61 rfl rfl ?_
      refine eg_iconst dX7_perform_62 ic_2 ?_
      refine eg_icmp_ne (tgt := 71) dX7_perform_63 rfl (fun c3 => ?_) (fun c3 => ?_)
      · have h := h.1 c3
        exact eg_vreturn dX7_perform_71 rfl h
      · have h := h.2 c3
        refine eg_aload_n 0 dX7_perform_66 rfl rfl ?_
        refine eg_iload_n 2 dX7_perform_67 rfl rfl ?_
        obtain ⟨q5, hq5, h⟩ := h
        refine eg_callVV (av := [vI l2]) (st := []) dX7_perform_68 ml_7_259 rfl rfl (obC_7 hl0) (by decide) rfl (Nat.le_of_ble_eq_true rfl) (eg_dd (by omega)) hq5 (fun M4 hp => ?_)
        have h := h M4 hp
        exact eg_vreturn dX7_perform_71 rfl h
    · have h := h.2 c2
      refine eg_aload_n 0 dX7_perform_30 rfl rfl ?_
      refine eg_getR dX7_perform_31 fl_7_9 rfl rfl (obC_7 hl0) ?_
      show eg_W κ gC mtX7_perform d (eQV κ gC post) 34 [(0, vR (7, l0)), (1, vI l1), (2, vI l2), (3, vI l3)] [vR (40, l0)] M
      refine eg_iload_n 2 dX7_perform_34 rfl rfl ?_
      obtain ⟨g6, h⟩ := h
      refine eg_iaload dX7_perform_35 (arC_40 hl0 g6) ?_
      refine en_istore (f := fun x7 => [(4, vI x7), (0, vR (7, l0)), (1, vI l1), (2, vI l2), (3, vI l3)]) dX7_perform_36 (by decide) rfl (fun x7 ex7 => ?_)
      have h := h x7 ex7
      refine eg_aload_n 1 dX7_perform_38 rfl rfl ?_
      refine eg_getR dX7_perform_39 fl_7_9 rfl rfl (obC_7 hl0) ?_
      show eg_W κ gC mtX7_perform d (eQV κ gC post) 42 [(4, vI x7), (0, vR (7, l0)), (1, vI l1), (2, vI l2), (3, vI l3)] [vR (40, l0)] M
      refine eg_iload_n 3 dX7_perform_42 rfl rfl ?_
      refine eg_aload_n 1 dX7_perform_43 rfl rfl ?_
      refine eg_getR dX7_perform_44 fl_7_9 rfl rfl (obC_7 hl0) ?_
      show eg_W κ gC mtX7_perform d (eQV κ gC post) 47 [(4, vI x7), (0, vR (7, l0)), (1, vI l1), (2, vI l2), (3, vI l3)] [vR (40, l0), vI l2, vR (40, l0)] M
      refine eg_iload_n 4 dX7_perform_47 rfl rfl ?_
      obtain ⟨g8, h⟩ := h
      refine eg_iaload dX7_perform_48 (arC_40 hl0 g8) ?_
      refine en_iastore dX7_perform_49 (arC_40 hl0 g6) (fun M9 eM9 => ?_)
      have h := h M9 eM9
      refine eg_aload_n 1 dX7_perform_50 rfl rfl ?_
      refine eg_getR dX7_perform_51 fl_7_9 rfl rfl (obC_7 hl0) ?_
      show eg_W κ gC mtX7_perform d (eQV κ gC post) 54 [(4, vI x7), (0, vR (7, l0)), (1, vI l1), (2, vI l2), (3, vI l3)] [vR (40, l0)] M9
      refine eg_iload_n 4 dX7_perform_54 rfl rfl ?_
      refine eg_iload 0 dX7_perform_55 rfl ?_
      refine en_iastore dX7_perform_57 (arC_40 hl0 g8) (fun M10 eM10 => ?_)
      have h := h M10 eM10
      refine eg_goto (tgt := 71) dX7_perform_58 rfl ?_
      exact eg_vreturn dX7_perform_71 rfl h
  · have h := h.2 c1
    refine eg_aload_n 0 dX7_perform_4 rfl rfl ?_
    refine eg_getR dX7_perform_5 fl_7_17 rfl rfl (obC_7 hl0) ?_
    show eg_W κ gC mtX7_perform d (eQV κ gC post) 8 [(0, vR (7, l0)), (1, vI l1), (2, vI l2), (3, vI l3)] [vR (41, l0)] M
    refine eg_iload_n 2 dX7_perform_8 rfl rfl ?_
    obtain ⟨g11, h⟩ := h
    refine eg_aaload6 dX7_perform_9 (arC_41 hl0 g11) ?_
    show eg_W κ gC mtX7_perform d (eQV κ gC post) 10 [(0, vR (7, l0)), (1, vI l1), (2, vI l2), (3, vI l3)] [vR (4, 5 * l0 + l2.toNatClampNeg)] M
    refine eg_aload_n 0 dX7_perform_10 rfl rfl ?_
    refine eg_getD dX7_perform_11 fl_7_30 rfl rfl (obC_7 hl0) ?_
    obtain ⟨p12, hp12, ep12, h⟩ := h
    rw [ep12]
    refine eg_getR dX7_perform_14 fl_7_54 rfl rfl (obC_5 hp12) ?_
    show eg_W κ gC mtX7_perform d (eQV κ gC post) 17 [(0, vR (7, l0)), (1, vI l1), (2, vI l2), (3, vI l3)] [vR (30, p12), vR (4, 5 * l0 + l2.toNatClampNeg)] M
    refine eg_iload_n 2 dX7_perform_17 rfl rfl ?_
    refine eg_aaload4 dX7_perform_18 (arC_30 hp12 g11) ?_
    show eg_W κ gC mtX7_perform d (eQV κ gC post) 19 [(0, vR (7, l0)), (1, vI l1), (2, vI l2), (3, vI l3)] [vR (1, 5 * p12 + l2.toNatClampNeg), vR (4, 5 * l0 + l2.toNatClampNeg)] M
    refine eg_callVV (av := [vR (1, 5 * p12 + l2.toNatClampNeg)]) (st := []) dX7_perform_19 ml_7_143 rfl rfl (obC_4 (ixT5 hl0 g11)) (by decide) rfl (Nat.le_of_ble_eq_true rfl) (eg_dd (by omega)) (sX4_addPan (by omega) M (5 * l0 + l2.toNatClampNeg) (5 * p12 + l2.toNatClampNeg) (ixT5 hl0 g11) (ixP5 hp12 g11) ) (fun M13 eM13 => ?_)
    have h := h M13 eM13
    refine eg_goto (tgt := 71) dX7_perform_22 rfl ?_
    exact eg_vreturn dX7_perform_71 rfl h
