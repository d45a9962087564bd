/-! THE MODEL IS MADE: its words -/
theorem oi_11_1 : eg_OI RX11 1 := ⟨(eg_t6 (i := 37) (by decide +kernel) rfl), (eg_t1 (i := 30) (by decide +kernel) rfl), (eg_t1 (i := 31) (by decide +kernel) rfl)⟩
def wF (i : Nat) : Nat → Int32 := fun k => if k < i then wdM k else 0
theorem wF_s (i : Nat) : upd (wF i) i (wdM i) = wF (i + 1) := by
  funext j
  unfold upd wF
  by_cases h : j = i
  · rw [if_pos h, h, if_pos (by omega)]
  · rw [if_neg h]
    by_cases h2 : j < i
    · rw [if_pos h2, if_pos (by omega)]
    · rw [if_neg h2, if_neg (by omega)]
theorem wF_0 : (fun _ => 0) = wF 0 := by
  funext j
  unfold wF
  rw [if_neg (Nat.not_lt_zero j)]
def w2 (κ : eg_K) (i : Nat) : List va_E := [inA κ 800 (fun _ => 0), inA κ 121 (wF i)]
theorem w_s {κ : eg_K} (i : Nat) {j v : Int32} (hj : j.toNatClampNeg = i) (hv : v = wdM i) : (w2 κ i).set 1 (.inl (kA κ 0, 121, .inl (upd (wF i) j.toNatClampNeg v))) = w2 κ (i + 1) := by
  rw [hj, hv, wF_s]
  rfl
theorem we_0 {κ : eg_K} {b : Nat} {L : List va_E} {k n : Nat} (hL : L.length = n) (hk : k < n) {Qc : Array Value → State → Outcome → State → Prop} {d mc ms cn sn : Nat} {fs : List Value} (kk : eg_N κ b mtX11_init d mc ms Qc 198 [(0, .ref (b + k))] [.ref (b + (n + 1)), .ref (b + k)] (wS L k (w2 κ 31) 11 fs) cn sn) : eg_N κ b mtX11_init d mc ms Qc 18 [(0, .ref (b + k))] [.ref (b + (n + 1)), .ref (b + k)] (wS L k (w2 κ 0) 11 fs) cn sn := by
  refine nw_dup dX11_init_18 rfl ?_
  refine nw_iconst (v := 0) dX11_init_19 (by decide) ?_
  refine nw_bipush (v := 115) dX11_init_20 (by decide) ?_
  refine ow_iast (i := 1) (N' := 121) (f := wF 0) hL hk dX11_init_22 rfl (nI_in' (n := 0) (by omega) (by omega)) ?_
  refine ow_A (w_s 0 (by decide) (by decide)) ?_
  refine nw_dup dX11_init_23 rfl ?_
  refine nw_iconst (v := 1) dX11_init_24 (by decide) ?_
  refine nw_bipush (v := 116) dX11_init_25 (by decide) ?_
  refine ow_iast (i := 1) (N' := 121) (f := wF 1) hL hk dX11_init_27 rfl (nI_in' (n := 1) (by omega) (by omega)) ?_
  refine ow_A (w_s 1 (by decide) (by decide)) ?_
  refine nw_dup dX11_init_28 rfl ?_
  refine nw_iconst (v := 2) dX11_init_29 (by decide) ?_
  refine nw_bipush (v := 97) dX11_init_30 (by decide) ?_
  refine ow_iast (i := 1) (N' := 121) (f := wF 2) hL hk dX11_init_32 rfl (nI_in' (n := 2) (by omega) (by omega)) ?_
  refine ow_A (w_s 2 (by decide) (by decide)) ?_
  refine nw_dup dX11_init_33 rfl ?_
  refine nw_iconst (v := 3) dX11_init_34 (by decide) ?_
  refine nw_bipush (v := 116) dX11_init_35 (by decide) ?_
  refine ow_iast (i := 1) (N' := 121) (f := wF 3) hL hk dX11_init_37 rfl (nI_in' (n := 3) (by omega) (by omega)) ?_
  refine ow_A (w_s 3 (by decide) (by decide)) ?_
  refine nw_dup dX11_init_38 rfl ?_
  refine nw_iconst (v := 4) dX11_init_39 (by decide) ?_
  refine nw_bipush (v := 105) dX11_init_40 (by decide) ?_
  refine ow_iast (i := 1) (N' := 121) (f := wF 4) hL hk dX11_init_42 rfl (nI_in' (n := 4) (by omega) (by omega)) ?_
  refine ow_A (w_s 4 (by decide) (by decide)) ?_
  refine nw_dup dX11_init_43 rfl ?_
  refine nw_iconst (v := 5) dX11_init_44 (by decide) ?_
  refine nw_bipush (v := 111) dX11_init_45 (by decide) ?_
  refine ow_iast (i := 1) (N' := 121) (f := wF 5) hL hk dX11_init_47 rfl (nI_in' (n := 5) (by omega) (by omega)) ?_
  refine ow_A (w_s 5 (by decide) (by decide)) ?_
  refine nw_dup dX11_init_48 rfl ?_
  refine nw_bipush (v := 6) dX11_init_49 (by decide) ?_
  refine nw_bipush (v := 110) dX11_init_51 (by decide) ?_
  refine ow_iast (i := 1) (N' := 121) (f := wF 6) hL hk dX11_init_53 rfl (nI_in' (n := 6) (by omega) (by omega)) ?_
  refine ow_A (w_s 6 (by decide) (by decide)) ?_
  refine nw_dup dX11_init_54 rfl ?_
  refine nw_bipush (v := 7) dX11_init_55 (by decide) ?_
  refine nw_bipush (v := 32) dX11_init_57 (by decide) ?_
  refine ow_iast (i := 1) (N' := 121) (f := wF 7) hL hk dX11_init_59 rfl (nI_in' (n := 7) (by omega) (by omega)) ?_
  refine ow_A (w_s 7 (by decide) (by decide)) ?_
  refine nw_dup dX11_init_60 rfl ?_
  refine nw_bipush (v := 8) dX11_init_61 (by decide) ?_
  refine nw_bipush (v := 103) dX11_init_63 (by decide) ?_
  refine ow_iast (i := 1) (N' := 121) (f := wF 8) hL hk dX11_init_65 rfl (nI_in' (n := 8) (by omega) (by omega)) ?_
  refine ow_A (w_s 8 (by decide) (by decide)) ?_
  refine nw_dup dX11_init_66 rfl ?_
  refine nw_bipush (v := 9) dX11_init_67 (by decide) ?_
  refine nw_bipush (v := 117) dX11_init_69 (by decide) ?_
  refine ow_iast (i := 1) (N' := 121) (f := wF 9) hL hk dX11_init_71 rfl (nI_in' (n := 9) (by omega) (by omega)) ?_
  refine ow_A (w_s 9 (by decide) (by decide)) ?_
  refine nw_dup dX11_init_72 rfl ?_
  refine nw_bipush (v := 10) dX11_init_73 (by decide) ?_
  refine nw_bipush (v := 101) dX11_init_75 (by decide) ?_
  refine ow_iast (i := 1) (N' := 121) (f := wF 10) hL hk dX11_init_77 rfl (nI_in' (n := 10) (by omega) (by omega)) ?_
  refine ow_A (w_s 10 (by decide) (by decide)) ?_
  refine nw_dup dX11_init_78 rfl ?_
  refine nw_bipush (v := 11) dX11_init_79 (by decide) ?_
  refine nw_bipush (v := 115) dX11_init_81 (by decide) ?_
  refine ow_iast (i := 1) (N' := 121) (f := wF 11) hL hk dX11_init_83 rfl (nI_in' (n := 11) (by omega) (by omega)) ?_
  refine ow_A (w_s 11 (by decide) (by decide)) ?_
  refine nw_dup dX11_init_84 rfl ?_
  refine nw_bipush (v := 12) dX11_init_85 (by decide) ?_
  refine nw_bipush (v := 116) dX11_init_87 (by decide) ?_
  refine ow_iast (i := 1) (N' := 121) (f := wF 12) hL hk dX11_init_89 rfl (nI_in' (n := 12) (by omega) (by omega)) ?_
  refine ow_A (w_s 12 (by decide) (by decide)) ?_
  refine nw_dup dX11_init_90 rfl ?_
  refine nw_bipush (v := 13) dX11_init_91 (by decide) ?_
  refine nw_bipush (v := 32) dX11_init_93 (by decide) ?_
  refine ow_iast (i := 1) (N' := 121) (f := wF 13) hL hk dX11_init_95 rfl (nI_in' (n := 13) (by omega) (by omega)) ?_
  refine ow_A (w_s 13 (by decide) (by decide)) ?_
  refine nw_dup dX11_init_96 rfl ?_
  refine nw_bipush (v := 14) dX11_init_97 (by decide) ?_
  refine nw_bipush (v := 112) dX11_init_99 (by decide) ?_
  refine ow_iast (i := 1) (N' := 121) (f := wF 14) hL hk dX11_init_101 rfl (nI_in' (n := 14) (by omega) (by omega)) ?_
  refine ow_A (w_s 14 (by decide) (by decide)) ?_
  refine nw_dup dX11_init_102 rfl ?_
  refine nw_bipush (v := 15) dX11_init_103 (by decide) ?_
  refine nw_bipush (v := 97) dX11_init_105 (by decide) ?_
  refine ow_iast (i := 1) (N' := 121) (f := wF 15) hL hk dX11_init_107 rfl (nI_in' (n := 15) (by omega) (by omega)) ?_
  refine ow_A (w_s 15 (by decide) (by decide)) ?_
  refine nw_dup dX11_init_108 rfl ?_
  refine nw_bipush (v := 16) dX11_init_109 (by decide) ?_
  refine nw_bipush (v := 115) dX11_init_111 (by decide) ?_
  refine ow_iast (i := 1) (N' := 121) (f := wF 16) hL hk dX11_init_113 rfl (nI_in' (n := 16) (by omega) (by omega)) ?_
  refine ow_A (w_s 16 (by decide) (by decide)) ?_
  refine nw_dup dX11_init_114 rfl ?_
  refine nw_bipush (v := 17) dX11_init_115 (by decide) ?_
  refine nw_bipush (v := 115) dX11_init_117 (by decide) ?_
  refine ow_iast (i := 1) (N' := 121) (f := wF 17) hL hk dX11_init_119 rfl (nI_in' (n := 17) (by omega) (by omega)) ?_
  refine ow_A (w_s 17 (by decide) (by decide)) ?_
  refine nw_dup dX11_init_120 rfl ?_
  refine nw_bipush (v := 18) dX11_init_121 (by decide) ?_
  refine nw_bipush (v := 32) dX11_init_123 (by decide) ?_
  refine ow_iast (i := 1) (N' := 121) (f := wF 18) hL hk dX11_init_125 rfl (nI_in' (n := 18) (by omega) (by omega)) ?_
  refine ow_A (w_s 18 (by decide) (by decide)) ?_
  refine nw_dup dX11_init_126 rfl ?_
  refine nw_bipush (v := 19) dX11_init_127 (by decide) ?_
  refine nw_bipush (v := 97) dX11_init_129 (by decide) ?_
  refine ow_iast (i := 1) (N' := 121) (f := wF 19) hL hk dX11_init_131 rfl (nI_in' (n := 19) (by omega) (by omega)) ?_
  refine ow_A (w_s 19 (by decide) (by decide)) ?_
  refine nw_dup dX11_init_132 rfl ?_
  refine nw_bipush (v := 20) dX11_init_133 (by decide) ?_
  refine nw_bipush (v := 103) dX11_init_135 (by decide) ?_
  refine ow_iast (i := 1) (N' := 121) (f := wF 20) hL hk dX11_init_137 rfl (nI_in' (n := 20) (by omega) (by omega)) ?_
  refine ow_A (w_s 20 (by decide) (by decide)) ?_
  refine nw_dup dX11_init_138 rfl ?_
  refine nw_bipush (v := 21) dX11_init_139 (by decide) ?_
  refine nw_bipush (v := 97) dX11_init_141 (by decide) ?_
  refine ow_iast (i := 1) (N' := 121) (f := wF 21) hL hk dX11_init_143 rfl (nI_in' (n := 21) (by omega) (by omega)) ?_
  refine ow_A (w_s 21 (by decide) (by decide)) ?_
  refine nw_dup dX11_init_144 rfl ?_
  refine nw_bipush (v := 22) dX11_init_145 (by decide) ?_
  refine nw_bipush (v := 105) dX11_init_147 (by decide) ?_
  refine ow_iast (i := 1) (N' := 121) (f := wF 22) hL hk dX11_init_149 rfl (nI_in' (n := 22) (by omega) (by omega)) ?_
  refine ow_A (w_s 22 (by decide) (by decide)) ?_
  refine nw_dup dX11_init_150 rfl ?_
  refine nw_bipush (v := 23) dX11_init_151 (by decide) ?_
  refine nw_bipush (v := 110) dX11_init_153 (by decide) ?_
  refine ow_iast (i := 1) (N' := 121) (f := wF 23) hL hk dX11_init_155 rfl (nI_in' (n := 23) (by omega) (by omega)) ?_
  refine ow_A (w_s 23 (by decide) (by decide)) ?_
  refine nw_dup dX11_init_156 rfl ?_
  refine nw_bipush (v := 24) dX11_init_157 (by decide) ?_
  refine nw_bipush (v := 32) dX11_init_159 (by decide) ?_
  refine ow_iast (i := 1) (N' := 121) (f := wF 24) hL hk dX11_init_161 rfl (nI_in' (n := 24) (by omega) (by omega)) ?_
  refine ow_A (w_s 24 (by decide) (by decide)) ?_
  refine nw_dup dX11_init_162 rfl ?_
  refine nw_bipush (v := 25) dX11_init_163 (by decide) ?_
  refine nw_bipush (v := 99) dX11_init_165 (by decide) ?_
  refine ow_iast (i := 1) (N' := 121) (f := wF 25) hL hk dX11_init_167 rfl (nI_in' (n := 25) (by omega) (by omega)) ?_
  refine ow_A (w_s 25 (by decide) (by decide)) ?_
  refine nw_dup dX11_init_168 rfl ?_
  refine nw_bipush (v := 26) dX11_init_169 (by decide) ?_
  refine nw_bipush (v := 108) dX11_init_171 (by decide) ?_
  refine ow_iast (i := 1) (N' := 121) (f := wF 26) hL hk dX11_init_173 rfl (nI_in' (n := 26) (by omega) (by omega)) ?_
  refine ow_A (w_s 26 (by decide) (by decide)) ?_
  refine nw_dup dX11_init_174 rfl ?_
  refine nw_bipush (v := 27) dX11_init_175 (by decide) ?_
  refine nw_bipush (v := 111) dX11_init_177 (by decide) ?_
  refine ow_iast (i := 1) (N' := 121) (f := wF 27) hL hk dX11_init_179 rfl (nI_in' (n := 27) (by omega) (by omega)) ?_
  refine ow_A (w_s 27 (by decide) (by decide)) ?_
  refine nw_dup dX11_init_180 rfl ?_
  refine nw_bipush (v := 28) dX11_init_181 (by decide) ?_
  refine nw_bipush (v := 115) dX11_init_183 (by decide) ?_
  refine ow_iast (i := 1) (N' := 121) (f := wF 28) hL hk dX11_init_185 rfl (nI_in' (n := 28) (by omega) (by omega)) ?_
  refine ow_A (w_s 28 (by decide) (by decide)) ?_
  refine nw_dup dX11_init_186 rfl ?_
  refine nw_bipush (v := 29) dX11_init_187 (by decide) ?_
  refine nw_bipush (v := 101) dX11_init_189 (by decide) ?_
  refine ow_iast (i := 1) (N' := 121) (f := wF 29) hL hk dX11_init_191 rfl (nI_in' (n := 29) (by omega) (by omega)) ?_
  refine ow_A (w_s 29 (by decide) (by decide)) ?_
  refine nw_dup dX11_init_192 rfl ?_
  refine nw_bipush (v := 30) dX11_init_193 (by decide) ?_
  refine nw_bipush (v := 32) dX11_init_195 (by decide) ?_
  refine ow_iast (i := 1) (N' := 121) (f := wF 30) hL hk dX11_init_197 rfl (nI_in' (n := 30) (by omega) (by omega)) ?_
  refine ow_A (w_s 30 (by decide) (by decide)) ?_
  exact kk
theorem we_1 {κ : eg_K} {b : Nat} {L : List va_E} {k n : Nat} (hL : L.length = n) (hk : k < n) {Qc : Array Value → State → Outcome → State → Prop} {d mc ms cn sn : Nat} {fs : List Value} (kk : eg_N κ b mtX11_init d mc ms Qc 378 [(0, .ref (b + k))] [.ref (b + (n + 1)), .ref (b + k)] (wS L k (w2 κ 61) 11 fs) cn sn) : eg_N κ b mtX11_init d mc ms Qc 198 [(0, .ref (b + k))] [.ref (b + (n + 1)), .ref (b + k)] (wS L k (w2 κ 31) 11 fs) cn sn := by
  refine nw_dup dX11_init_198 rfl ?_
  refine nw_bipush (v := 31) dX11_init_199 (by decide) ?_
  refine nw_bipush (v := 108) dX11_init_201 (by decide) ?_
  refine ow_iast (i := 1) (N' := 121) (f := wF 31) hL hk dX11_init_203 rfl (nI_in' (n := 31) (by omega) (by omega)) ?_
  refine ow_A (w_s 31 (by decide) (by decide)) ?_
  refine nw_dup dX11_init_204 rfl ?_
  refine nw_bipush (v := 32) dX11_init_205 (by decide) ?_
  refine nw_bipush (v := 97) dX11_init_207 (by decide) ?_
  refine ow_iast (i := 1) (N' := 121) (f := wF 32) hL hk dX11_init_209 rfl (nI_in' (n := 32) (by omega) (by omega)) ?_
  refine ow_A (w_s 32 (by decide) (by decide)) ?_
  refine nw_dup dX11_init_210 rfl ?_
  refine nw_bipush (v := 33) dX11_init_211 (by decide) ?_
  refine nw_bipush (v := 119) dX11_init_213 (by decide) ?_
  refine ow_iast (i := 1) (N' := 121) (f := wF 33) hL hk dX11_init_215 rfl (nI_in' (n := 33) (by omega) (by omega)) ?_
  refine ow_A (w_s 33 (by decide) (by decide)) ?_
  refine nw_dup dX11_init_216 rfl ?_
  refine nw_bipush (v := 34) dX11_init_217 (by decide) ?_
  refine nw_bipush (v := 32) dX11_init_219 (by decide) ?_
  refine ow_iast (i := 1) (N' := 121) (f := wF 34) hL hk dX11_init_221 rfl (nI_in' (n := 34) (by omega) (by omega)) ?_
  refine ow_A (w_s 34 (by decide) (by decide)) ?_
  refine nw_dup dX11_init_222 rfl ?_
  refine nw_bipush (v := 35) dX11_init_223 (by decide) ?_
  refine nw_bipush (v := 109) dX11_init_225 (by decide) ?_
  refine ow_iast (i := 1) (N' := 121) (f := wF 35) hL hk dX11_init_227 rfl (nI_in' (n := 35) (by omega) (by omega)) ?_
  refine ow_A (w_s 35 (by decide) (by decide)) ?_
  refine nw_dup dX11_init_228 rfl ?_
  refine nw_bipush (v := 36) dX11_init_229 (by decide) ?_
  refine nw_bipush (v := 97) dX11_init_231 (by decide) ?_
  refine ow_iast (i := 1) (N' := 121) (f := wF 36) hL hk dX11_init_233 rfl (nI_in' (n := 36) (by omega) (by omega)) ?_
  refine ow_A (w_s 36 (by decide) (by decide)) ?_
  refine nw_dup dX11_init_234 rfl ?_
  refine nw_bipush (v := 37) dX11_init_235 (by decide) ?_
  refine nw_bipush (v := 121) dX11_init_237 (by decide) ?_
  refine ow_iast (i := 1) (N' := 121) (f := wF 37) hL hk dX11_init_239 rfl (nI_in' (n := 37) (by omega) (by omega)) ?_
  refine ow_A (w_s 37 (by decide) (by decide)) ?_
  refine nw_dup dX11_init_240 rfl ?_
  refine nw_bipush (v := 38) dX11_init_241 (by decide) ?_
  refine nw_bipush (v := 32) dX11_init_243 (by decide) ?_
  refine ow_iast (i := 1) (N' := 121) (f := wF 38) hL hk dX11_init_245 rfl (nI_in' (n := 38) (by omega) (by omega)) ?_
  refine ow_A (w_s 38 (by decide) (by decide)) ?_
  refine nw_dup dX11_init_246 rfl ?_
  refine nw_bipush (v := 39) dX11_init_247 (by decide) ?_
  refine nw_bipush (v := 112) dX11_init_249 (by decide) ?_
  refine ow_iast (i := 1) (N' := 121) (f := wF 39) hL hk dX11_init_251 rfl (nI_in' (n := 39) (by omega) (by omega)) ?_
  refine ow_A (w_s 39 (by decide) (by decide)) ?_
  refine nw_dup dX11_init_252 rfl ?_
  refine nw_bipush (v := 40) dX11_init_253 (by decide) ?_
  refine nw_bipush (v := 97) dX11_init_255 (by decide) ?_
  refine ow_iast (i := 1) (N' := 121) (f := wF 40) hL hk dX11_init_257 rfl (nI_in' (n := 40) (by omega) (by omega)) ?_
  refine ow_A (w_s 40 (by decide) (by decide)) ?_
  refine nw_dup dX11_init_258 rfl ?_
  refine nw_bipush (v := 41) dX11_init_259 (by decide) ?_
  refine nw_bipush (v := 110) dX11_init_261 (by decide) ?_
  refine ow_iast (i := 1) (N' := 121) (f := wF 41) hL hk dX11_init_263 rfl (nI_in' (n := 41) (by omega) (by omega)) ?_
  refine ow_A (w_s 41 (by decide) (by decide)) ?_
  refine nw_dup dX11_init_264 rfl ?_
  refine nw_bipush (v := 42) dX11_init_265 (by decide) ?_
  refine nw_bipush (v := 32) dX11_init_267 (by decide) ?_
  refine ow_iast (i := 1) (N' := 121) (f := wF 42) hL hk dX11_init_269 rfl (nI_in' (n := 42) (by omega) (by omega)) ?_
  refine ow_A (w_s 42 (by decide) (by decide)) ?_
  refine nw_dup dX11_init_270 rfl ?_
  refine nw_bipush (v := 43) dX11_init_271 (by decide) ?_
  refine nw_bipush (v := 99) dX11_init_273 (by decide) ?_
  refine ow_iast (i := 1) (N' := 121) (f := wF 43) hL hk dX11_init_275 rfl (nI_in' (n := 43) (by omega) (by omega)) ?_
  refine ow_A (w_s 43 (by decide) (by decide)) ?_
  refine nw_dup dX11_init_276 rfl ?_
  refine nw_bipush (v := 44) dX11_init_277 (by decide) ?_
  refine nw_bipush (v := 111) dX11_init_279 (by decide) ?_
  refine ow_iast (i := 1) (N' := 121) (f := wF 44) hL hk dX11_init_281 rfl (nI_in' (n := 44) (by omega) (by omega)) ?_
  refine ow_A (w_s 44 (by decide) (by decide)) ?_
  refine nw_dup dX11_init_282 rfl ?_
  refine nw_bipush (v := 45) dX11_init_283 (by decide) ?_
  refine nw_bipush (v := 108) dX11_init_285 (by decide) ?_
  refine ow_iast (i := 1) (N' := 121) (f := wF 45) hL hk dX11_init_287 rfl (nI_in' (n := 45) (by omega) (by omega)) ?_
  refine ow_A (w_s 45 (by decide) (by decide)) ?_
  refine nw_dup dX11_init_288 rfl ?_
  refine nw_bipush (v := 46) dX11_init_289 (by decide) ?_
  refine nw_bipush (v := 100) dX11_init_291 (by decide) ?_
  refine ow_iast (i := 1) (N' := 121) (f := wF 46) hL hk dX11_init_293 rfl (nI_in' (n := 46) (by omega) (by omega)) ?_
  refine ow_A (w_s 46 (by decide) (by decide)) ?_
  refine nw_dup dX11_init_294 rfl ?_
  refine nw_bipush (v := 47) dX11_init_295 (by decide) ?_
  refine nw_bipush (v := 32) dX11_init_297 (by decide) ?_
  refine ow_iast (i := 1) (N' := 121) (f := wF 47) hL hk dX11_init_299 rfl (nI_in' (n := 47) (by omega) (by omega)) ?_
  refine ow_A (w_s 47 (by decide) (by decide)) ?_
  refine nw_dup dX11_init_300 rfl ?_
  refine nw_bipush (v := 48) dX11_init_301 (by decide) ?_
  refine nw_bipush (v := 119) dX11_init_303 (by decide) ?_
  refine ow_iast (i := 1) (N' := 121) (f := wF 48) hL hk dX11_init_305 rfl (nI_in' (n := 48) (by omega) (by omega)) ?_
  refine ow_A (w_s 48 (by decide) (by decide)) ?_
  refine nw_dup dX11_init_306 rfl ?_
  refine nw_bipush (v := 49) dX11_init_307 (by decide) ?_
  refine nw_bipush (v := 97) dX11_init_309 (by decide) ?_
  refine ow_iast (i := 1) (N' := 121) (f := wF 49) hL hk dX11_init_311 rfl (nI_in' (n := 49) (by omega) (by omega)) ?_
  refine ow_A (w_s 49 (by decide) (by decide)) ?_
  refine nw_dup dX11_init_312 rfl ?_
  refine nw_bipush (v := 50) dX11_init_313 (by decide) ?_
  refine nw_bipush (v := 110) dX11_init_315 (by decide) ?_
  refine ow_iast (i := 1) (N' := 121) (f := wF 50) hL hk dX11_init_317 rfl (nI_in' (n := 50) (by omega) (by omega)) ?_
  refine ow_A (w_s 50 (by decide) (by decide)) ?_
  refine nw_dup dX11_init_318 rfl ?_
  refine nw_bipush (v := 51) dX11_init_319 (by decide) ?_
  refine nw_bipush (v := 116) dX11_init_321 (by decide) ?_
  refine ow_iast (i := 1) (N' := 121) (f := wF 51) hL hk dX11_init_323 rfl (nI_in' (n := 51) (by omega) (by omega)) ?_
  refine ow_A (w_s 51 (by decide) (by decide)) ?_
  refine nw_dup dX11_init_324 rfl ?_
  refine nw_bipush (v := 52) dX11_init_325 (by decide) ?_
  refine nw_bipush (v := 115) dX11_init_327 (by decide) ?_
  refine ow_iast (i := 1) (N' := 121) (f := wF 52) hL hk dX11_init_329 rfl (nI_in' (n := 52) (by omega) (by omega)) ?_
  refine ow_A (w_s 52 (by decide) (by decide)) ?_
  refine nw_dup dX11_init_330 rfl ?_
  refine nw_bipush (v := 53) dX11_init_331 (by decide) ?_
  refine nw_bipush (v := 32) dX11_init_333 (by decide) ?_
  refine ow_iast (i := 1) (N' := 121) (f := wF 53) hL hk dX11_init_335 rfl (nI_in' (n := 53) (by omega) (by omega)) ?_
  refine ow_A (w_s 53 (by decide) (by decide)) ?_
  refine nw_dup dX11_init_336 rfl ?_
  refine nw_bipush (v := 54) dX11_init_337 (by decide) ?_
  refine nw_bipush (v := 104) dX11_init_339 (by decide) ?_
  refine ow_iast (i := 1) (N' := 121) (f := wF 54) hL hk dX11_init_341 rfl (nI_in' (n := 54) (by omega) (by omega)) ?_
  refine ow_A (w_s 54 (by decide) (by decide)) ?_
  refine nw_dup dX11_init_342 rfl ?_
  refine nw_bipush (v := 55) dX11_init_343 (by decide) ?_
  refine nw_bipush (v := 101) dX11_init_345 (by decide) ?_
  refine ow_iast (i := 1) (N' := 121) (f := wF 55) hL hk dX11_init_347 rfl (nI_in' (n := 55) (by omega) (by omega)) ?_
  refine ow_A (w_s 55 (by decide) (by decide)) ?_
  refine nw_dup dX11_init_348 rfl ?_
  refine nw_bipush (v := 56) dX11_init_349 (by decide) ?_
  refine nw_bipush (v := 97) dX11_init_351 (by decide) ?_
  refine ow_iast (i := 1) (N' := 121) (f := wF 56) hL hk dX11_init_353 rfl (nI_in' (n := 56) (by omega) (by omega)) ?_
  refine ow_A (w_s 56 (by decide) (by decide)) ?_
  refine nw_dup dX11_init_354 rfl ?_
  refine nw_bipush (v := 57) dX11_init_355 (by decide) ?_
  refine nw_bipush (v := 112) dX11_init_357 (by decide) ?_
  refine ow_iast (i := 1) (N' := 121) (f := wF 57) hL hk dX11_init_359 rfl (nI_in' (n := 57) (by omega) (by omega)) ?_
  refine ow_A (w_s 57 (by decide) (by decide)) ?_
  refine nw_dup dX11_init_360 rfl ?_
  refine nw_bipush (v := 58) dX11_init_361 (by decide) ?_
  refine nw_bipush (v := 32) dX11_init_363 (by decide) ?_
  refine ow_iast (i := 1) (N' := 121) (f := wF 58) hL hk dX11_init_365 rfl (nI_in' (n := 58) (by omega) (by omega)) ?_
  refine ow_A (w_s 58 (by decide) (by decide)) ?_
  refine nw_dup dX11_init_366 rfl ?_
  refine nw_bipush (v := 59) dX11_init_367 (by decide) ?_
  refine nw_bipush (v := 108) dX11_init_369 (by decide) ?_
  refine ow_iast (i := 1) (N' := 121) (f := wF 59) hL hk dX11_init_371 rfl (nI_in' (n := 59) (by omega) (by omega)) ?_
  refine ow_A (w_s 59 (by decide) (by decide)) ?_
  refine nw_dup dX11_init_372 rfl ?_
  refine nw_bipush (v := 60) dX11_init_373 (by decide) ?_
  refine nw_bipush (v := 101) dX11_init_375 (by decide) ?_
  refine ow_iast (i := 1) (N' := 121) (f := wF 60) hL hk dX11_init_377 rfl (nI_in' (n := 60) (by omega) (by omega)) ?_
  refine ow_A (w_s 60 (by decide) (by decide)) ?_
  exact kk
theorem we_2 {κ : eg_K} {b : Nat} {L : List va_E} {k n : Nat} (hL : L.length = n) (hk : k < n) {Qc : Array Value → State → Outcome → State → Prop} {d mc ms cn sn : Nat} {fs : List Value} (kk : eg_N κ b mtX11_init d mc ms Qc 558 [(0, .ref (b + k))] [.ref (b + (n + 1)), .ref (b + k)] (wS L k (w2 κ 91) 11 fs) cn sn) : eg_N κ b mtX11_init d mc ms Qc 378 [(0, .ref (b + k))] [.ref (b + (n + 1)), .ref (b + k)] (wS L k (w2 κ 61) 11 fs) cn sn := by
  refine nw_dup dX11_init_378 rfl ?_
  refine nw_bipush (v := 61) dX11_init_379 (by decide) ?_
  refine nw_bipush (v := 97) dX11_init_381 (by decide) ?_
  refine ow_iast (i := 1) (N' := 121) (f := wF 61) hL hk dX11_init_383 rfl (nI_in' (n := 61) (by omega) (by omega)) ?_
  refine ow_A (w_s 61 (by decide) (by decide)) ?_
  refine nw_dup dX11_init_384 rfl ?_
  refine nw_bipush (v := 62) dX11_init_385 (by decide) ?_
  refine nw_bipush (v := 118) dX11_init_387 (by decide) ?_
  refine ow_iast (i := 1) (N' := 121) (f := wF 62) hL hk dX11_init_389 rfl (nI_in' (n := 62) (by omega) (by omega)) ?_
  refine ow_A (w_s 62 (by decide) (by decide)) ?_
  refine nw_dup dX11_init_390 rfl ?_
  refine nw_bipush (v := 63) dX11_init_391 (by decide) ?_
  refine nw_bipush (v := 101) dX11_init_393 (by decide) ?_
  refine ow_iast (i := 1) (N' := 121) (f := wF 63) hL hk dX11_init_395 rfl (nI_in' (n := 63) (by omega) (by omega)) ?_
  refine ow_A (w_s 63 (by decide) (by decide)) ?_
  refine nw_dup dX11_init_396 rfl ?_
  refine nw_bipush (v := 64) dX11_init_397 (by decide) ?_
  refine nw_bipush (v := 32) dX11_init_399 (by decide) ?_
  refine ow_iast (i := 1) (N' := 121) (f := wF 64) hL hk dX11_init_401 rfl (nI_in' (n := 64) (by omega) (by omega)) ?_
  refine ow_A (w_s 64 (by decide) (by decide)) ?_
  refine nw_dup dX11_init_402 rfl ?_
  refine nw_bipush (v := 65) dX11_init_403 (by decide) ?_
  refine nw_bipush (v := 101) dX11_init_405 (by decide) ?_
  refine ow_iast (i := 1) (N' := 121) (f := wF 65) hL hk dX11_init_407 rfl (nI_in' (n := 65) (by omega) (by omega)) ?_
  refine ow_A (w_s 65 (by decide) (by decide)) ?_
  refine nw_dup dX11_init_408 rfl ?_
  refine nw_bipush (v := 66) dX11_init_409 (by decide) ?_
  refine nw_bipush (v := 97) dX11_init_411 (by decide) ?_
  refine ow_iast (i := 1) (N' := 121) (f := wF 66) hL hk dX11_init_413 rfl (nI_in' (n := 66) (by omega) (by omega)) ?_
  refine ow_A (w_s 66 (by decide) (by decide)) ?_
  refine nw_dup dX11_init_414 rfl ?_
  refine nw_bipush (v := 67) dX11_init_415 (by decide) ?_
  refine nw_bipush (v := 116) dX11_init_417 (by decide) ?_
  refine ow_iast (i := 1) (N' := 121) (f := wF 67) hL hk dX11_init_419 rfl (nI_in' (n := 67) (by omega) (by omega)) ?_
  refine ow_A (w_s 67 (by decide) (by decide)) ?_
  refine nw_dup dX11_init_420 rfl ?_
  refine nw_bipush (v := 68) dX11_init_421 (by decide) ?_
  refine nw_bipush (v := 115) dX11_init_423 (by decide) ?_
  refine ow_iast (i := 1) (N' := 121) (f := wF 68) hL hk dX11_init_425 rfl (nI_in' (n := 68) (by omega) (by omega)) ?_
  refine ow_A (w_s 68 (by decide) (by decide)) ?_
  refine nw_dup dX11_init_426 rfl ?_
  refine nw_bipush (v := 69) dX11_init_427 (by decide) ?_
  refine nw_bipush (v := 32) dX11_init_429 (by decide) ?_
  refine ow_iast (i := 1) (N' := 121) (f := wF 69) hL hk dX11_init_431 rfl (nI_in' (n := 69) (by omega) (by omega)) ?_
  refine ow_A (w_s 69 (by decide) (by decide)) ?_
  refine nw_dup dX11_init_432 rfl ?_
  refine nw_bipush (v := 70) dX11_init_433 (by decide) ?_
  refine nw_bipush (v := 97) dX11_init_435 (by decide) ?_
  refine ow_iast (i := 1) (N' := 121) (f := wF 70) hL hk dX11_init_437 rfl (nI_in' (n := 70) (by omega) (by omega)) ?_
  refine ow_A (w_s 70 (by decide) (by decide)) ?_
  refine nw_dup dX11_init_438 rfl ?_
  refine nw_bipush (v := 71) dX11_init_439 (by decide) ?_
  refine nw_bipush (v := 110) dX11_init_441 (by decide) ?_
  refine ow_iast (i := 1) (N' := 121) (f := wF 71) hL hk dX11_init_443 rfl (nI_in' (n := 71) (by omega) (by omega)) ?_
  refine ow_A (w_s 71 (by decide) (by decide)) ?_
  refine nw_dup dX11_init_444 rfl ?_
  refine nw_bipush (v := 72) dX11_init_445 (by decide) ?_
  refine nw_bipush (v := 100) dX11_init_447 (by decide) ?_
  refine ow_iast (i := 1) (N' := 121) (f := wF 72) hL hk dX11_init_449 rfl (nI_in' (n := 72) (by omega) (by omega)) ?_
  refine ow_A (w_s 72 (by decide) (by decide)) ?_
  refine nw_dup dX11_init_450 rfl ?_
  refine nw_bipush (v := 73) dX11_init_451 (by decide) ?_
  refine nw_bipush (v := 32) dX11_init_453 (by decide) ?_
  refine ow_iast (i := 1) (N' := 121) (f := wF 73) hL hk dX11_init_455 rfl (nI_in' (n := 73) (by omega) (by omega)) ?_
  refine ow_A (w_s 73 (by decide) (by decide)) ?_
  refine nw_dup dX11_init_456 rfl ?_
  refine nw_bipush (v := 74) dX11_init_457 (by decide) ?_
  refine nw_bipush (v := 111) dX11_init_459 (by decide) ?_
  refine ow_iast (i := 1) (N' := 121) (f := wF 74) hL hk dX11_init_461 rfl (nI_in' (n := 74) (by omega) (by omega)) ?_
  refine ow_A (w_s 74 (by decide) (by decide)) ?_
  refine nw_dup dX11_init_462 rfl ?_
  refine nw_bipush (v := 75) dX11_init_463 (by decide) ?_
  refine nw_bipush (v := 114) dX11_init_465 (by decide) ?_
  refine ow_iast (i := 1) (N' := 121) (f := wF 75) hL hk dX11_init_467 rfl (nI_in' (n := 75) (by omega) (by omega)) ?_
  refine ow_A (w_s 75 (by decide) (by decide)) ?_
  refine nw_dup dX11_init_468 rfl ?_
  refine nw_bipush (v := 76) dX11_init_469 (by decide) ?_
  refine nw_bipush (v := 32) dX11_init_471 (by decide) ?_
  refine ow_iast (i := 1) (N' := 121) (f := wF 76) hL hk dX11_init_473 rfl (nI_in' (n := 76) (by omega) (by omega)) ?_
  refine ow_A (w_s 76 (by decide) (by decide)) ?_
  refine nw_dup dX11_init_474 rfl ?_
  refine nw_bipush (v := 77) dX11_init_475 (by decide) ?_
  refine nw_bipush (v := 110) dX11_init_477 (by decide) ?_
  refine ow_iast (i := 1) (N' := 121) (f := wF 77) hL hk dX11_init_479 rfl (nI_in' (n := 77) (by omega) (by omega)) ?_
  refine ow_A (w_s 77 (by decide) (by decide)) ?_
  refine nw_dup dX11_init_480 rfl ?_
  refine nw_bipush (v := 78) dX11_init_481 (by decide) ?_
  refine nw_bipush (v := 111) dX11_init_483 (by decide) ?_
  refine ow_iast (i := 1) (N' := 121) (f := wF 78) hL hk dX11_init_485 rfl (nI_in' (n := 78) (by omega) (by omega)) ?_
  refine ow_A (w_s 78 (by decide) (by decide)) ?_
  refine nw_dup dX11_init_486 rfl ?_
  refine nw_bipush (v := 79) dX11_init_487 (by decide) ?_
  refine nw_bipush (v := 116) dX11_init_489 (by decide) ?_
  refine ow_iast (i := 1) (N' := 121) (f := wF 79) hL hk dX11_init_491 rfl (nI_in' (n := 79) (by omega) (by omega)) ?_
  refine ow_A (w_s 79 (by decide) (by decide)) ?_
  refine nw_dup dX11_init_492 rfl ?_
  refine nw_bipush (v := 80) dX11_init_493 (by decide) ?_
  refine nw_bipush (v := 32) dX11_init_495 (by decide) ?_
  refine ow_iast (i := 1) (N' := 121) (f := wF 80) hL hk dX11_init_497 rfl (nI_in' (n := 80) (by omega) (by omega)) ?_
  refine ow_A (w_s 80 (by decide) (by decide)) ?_
  refine nw_dup dX11_init_498 rfl ?_
  refine nw_bipush (v := 81) dX11_init_499 (by decide) ?_
  refine nw_bipush (v := 119) dX11_init_501 (by decide) ?_
  refine ow_iast (i := 1) (N' := 121) (f := wF 81) hL hk dX11_init_503 rfl (nI_in' (n := 81) (by omega) (by omega)) ?_
  refine ow_A (w_s 81 (by decide) (by decide)) ?_
  refine nw_dup dX11_init_504 rfl ?_
  refine nw_bipush (v := 82) dX11_init_505 (by decide) ?_
  refine nw_bipush (v := 97) dX11_init_507 (by decide) ?_
  refine ow_iast (i := 1) (N' := 121) (f := wF 82) hL hk dX11_init_509 rfl (nI_in' (n := 82) (by omega) (by omega)) ?_
  refine ow_A (w_s 82 (by decide) (by decide)) ?_
  refine nw_dup dX11_init_510 rfl ?_
  refine nw_bipush (v := 83) dX11_init_511 (by decide) ?_
  refine nw_bipush (v := 110) dX11_init_513 (by decide) ?_
  refine ow_iast (i := 1) (N' := 121) (f := wF 83) hL hk dX11_init_515 rfl (nI_in' (n := 83) (by omega) (by omega)) ?_
  refine ow_A (w_s 83 (by decide) (by decide)) ?_
  refine nw_dup dX11_init_516 rfl ?_
  refine nw_bipush (v := 84) dX11_init_517 (by decide) ?_
  refine nw_bipush (v := 116) dX11_init_519 (by decide) ?_
  refine ow_iast (i := 1) (N' := 121) (f := wF 84) hL hk dX11_init_521 rfl (nI_in' (n := 84) (by omega) (by omega)) ?_
  refine ow_A (w_s 84 (by decide) (by decide)) ?_
  refine nw_dup dX11_init_522 rfl ?_
  refine nw_bipush (v := 85) dX11_init_523 (by decide) ?_
  refine nw_bipush (v := 32) dX11_init_525 (by decide) ?_
  refine ow_iast (i := 1) (N' := 121) (f := wF 85) hL hk dX11_init_527 rfl (nI_in' (n := 85) (by omega) (by omega)) ?_
  refine ow_A (w_s 85 (by decide) (by decide)) ?_
  refine nw_dup dX11_init_528 rfl ?_
  refine nw_bipush (v := 86) dX11_init_529 (by decide) ?_
  refine nw_bipush (v := 114) dX11_init_531 (by decide) ?_
  refine ow_iast (i := 1) (N' := 121) (f := wF 86) hL hk dX11_init_533 rfl (nI_in' (n := 86) (by omega) (by omega)) ?_
  refine ow_A (w_s 86 (by decide) (by decide)) ?_
  refine nw_dup dX11_init_534 rfl ?_
  refine nw_bipush (v := 87) dX11_init_535 (by decide) ?_
  refine nw_bipush (v := 111) dX11_init_537 (by decide) ?_
  refine ow_iast (i := 1) (N' := 121) (f := wF 87) hL hk dX11_init_539 rfl (nI_in' (n := 87) (by omega) (by omega)) ?_
  refine ow_A (w_s 87 (by decide) (by decide)) ?_
  refine nw_dup dX11_init_540 rfl ?_
  refine nw_bipush (v := 88) dX11_init_541 (by decide) ?_
  refine nw_bipush (v := 111) dX11_init_543 (by decide) ?_
  refine ow_iast (i := 1) (N' := 121) (f := wF 88) hL hk dX11_init_545 rfl (nI_in' (n := 88) (by omega) (by omega)) ?_
  refine ow_A (w_s 88 (by decide) (by decide)) ?_
  refine nw_dup dX11_init_546 rfl ?_
  refine nw_bipush (v := 89) dX11_init_547 (by decide) ?_
  refine nw_bipush (v := 109) dX11_init_549 (by decide) ?_
  refine ow_iast (i := 1) (N' := 121) (f := wF 89) hL hk dX11_init_551 rfl (nI_in' (n := 89) (by omega) (by omega)) ?_
  refine ow_A (w_s 89 (by decide) (by decide)) ?_
  refine nw_dup dX11_init_552 rfl ?_
  refine nw_bipush (v := 90) dX11_init_553 (by decide) ?_
  refine nw_bipush (v := 32) dX11_init_555 (by decide) ?_
  refine ow_iast (i := 1) (N' := 121) (f := wF 90) hL hk dX11_init_557 rfl (nI_in' (n := 90) (by omega) (by omega)) ?_
  refine ow_A (w_s 90 (by decide) (by decide)) ?_
  exact kk
theorem we_3 {κ : eg_K} {b : Nat} {L : List va_E} {k n : Nat} (hL : L.length = n) (hk : k < n) {Qc : Array Value → State → Outcome → State → Prop} {d mc ms cn sn : Nat} {fs : List Value} (kk : eg_N κ b mtX11_init d mc ms Qc 738 [(0, .ref (b + k))] [.ref (b + (n + 1)), .ref (b + k)] (wS L k (w2 κ 121) 11 fs) cn sn) : eg_N κ b mtX11_init d mc ms Qc 558 [(0, .ref (b + k))] [.ref (b + (n + 1)), .ref (b + k)] (wS L k (w2 κ 91) 11 fs) cn sn := by
  refine nw_dup dX11_init_558 rfl ?_
  refine nw_bipush (v := 91) dX11_init_559 (by decide) ?_
  refine nw_bipush (v := 104) dX11_init_561 (by decide) ?_
  refine ow_iast (i := 1) (N' := 121) (f := wF 91) hL hk dX11_init_563 rfl (nI_in' (n := 91) (by omega) (by omega)) ?_
  refine ow_A (w_s 91 (by decide) (by decide)) ?_
  refine nw_dup dX11_init_564 rfl ?_
  refine nw_bipush (v := 92) dX11_init_565 (by decide) ?_
  refine nw_bipush (v := 101) dX11_init_567 (by decide) ?_
  refine ow_iast (i := 1) (N' := 121) (f := wF 92) hL hk dX11_init_569 rfl (nI_in' (n := 92) (by omega) (by omega)) ?_
  refine ow_A (w_s 92 (by decide) (by decide)) ?_
  refine nw_dup dX11_init_570 rfl ?_
  refine nw_bipush (v := 93) dX11_init_571 (by decide) ?_
  refine nw_bipush (v := 114) dX11_init_573 (by decide) ?_
  refine ow_iast (i := 1) (N' := 121) (f := wF 93) hL hk dX11_init_575 rfl (nI_in' (n := 93) (by omega) (by omega)) ?_
  refine ow_A (w_s 93 (by decide) (by decide)) ?_
  refine nw_dup dX11_init_576 rfl ?_
  refine nw_bipush (v := 94) dX11_init_577 (by decide) ?_
  refine nw_bipush (v := 101) dX11_init_579 (by decide) ?_
  refine ow_iast (i := 1) (N' := 121) (f := wF 94) hL hk dX11_init_581 rfl (nI_in' (n := 94) (by omega) (by omega)) ?_
  refine ow_A (w_s 94 (by decide) (by decide)) ?_
  refine nw_dup dX11_init_582 rfl ?_
  refine nw_bipush (v := 95) dX11_init_583 (by decide) ?_
  refine nw_bipush (v := 32) dX11_init_585 (by decide) ?_
  refine ow_iast (i := 1) (N' := 121) (f := wF 95) hL hk dX11_init_587 rfl (nI_in' (n := 95) (by omega) (by omega)) ?_
  refine ow_A (w_s 95 (by decide) (by decide)) ?_
  refine nw_dup dX11_init_588 rfl ?_
  refine nw_bipush (v := 96) dX11_init_589 (by decide) ?_
  refine nw_bipush (v := 97) dX11_init_591 (by decide) ?_
  refine ow_iast (i := 1) (N' := 121) (f := wF 96) hL hk dX11_init_593 rfl (nI_in' (n := 96) (by omega) (by omega)) ?_
  refine ow_A (w_s 96 (by decide) (by decide)) ?_
  refine nw_dup dX11_init_594 rfl ?_
  refine nw_bipush (v := 97) dX11_init_595 (by decide) ?_
  refine nw_bipush (v := 103) dX11_init_597 (by decide) ?_
  refine ow_iast (i := 1) (N' := 121) (f := wF 97) hL hk dX11_init_599 rfl (nI_in' (n := 97) (by omega) (by omega)) ?_
  refine ow_A (w_s 97 (by decide) (by decide)) ?_
  refine nw_dup dX11_init_600 rfl ?_
  refine nw_bipush (v := 98) dX11_init_601 (by decide) ?_
  refine nw_bipush (v := 101) dX11_init_603 (by decide) ?_
  refine ow_iast (i := 1) (N' := 121) (f := wF 98) hL hk dX11_init_605 rfl (nI_in' (n := 98) (by omega) (by omega)) ?_
  refine ow_A (w_s 98 (by decide) (by decide)) ?_
  refine nw_dup dX11_init_606 rfl ?_
  refine nw_bipush (v := 99) dX11_init_607 (by decide) ?_
  refine nw_bipush (v := 32) dX11_init_609 (by decide) ?_
  refine ow_iast (i := 1) (N' := 121) (f := wF 99) hL hk dX11_init_611 rfl (nI_in' (n := 99) (by omega) (by omega)) ?_
  refine ow_A (w_s 99 (by decide) (by decide)) ?_
  refine nw_dup dX11_init_612 rfl ?_
  refine nw_bipush (v := 100) dX11_init_613 (by decide) ?_
  refine nw_bipush (v := 108) dX11_init_615 (by decide) ?_
  refine ow_iast (i := 1) (N' := 121) (f := wF 100) hL hk dX11_init_617 rfl (nI_in' (n := 100) (by omega) (by omega)) ?_
  refine ow_A (w_s 100 (by decide) (by decide)) ?_
  refine nw_dup dX11_init_618 rfl ?_
  refine nw_bipush (v := 101) dX11_init_619 (by decide) ?_
  refine nw_bipush (v := 105) dX11_init_621 (by decide) ?_
  refine ow_iast (i := 1) (N' := 121) (f := wF 101) hL hk dX11_init_623 rfl (nI_in' (n := 101) (by omega) (by omega)) ?_
  refine ow_A (w_s 101 (by decide) (by decide)) ?_
  refine nw_dup dX11_init_624 rfl ?_
  refine nw_bipush (v := 102) dX11_init_625 (by decide) ?_
  refine nw_bipush (v := 110) dX11_init_627 (by decide) ?_
  refine ow_iast (i := 1) (N' := 121) (f := wF 102) hL hk dX11_init_629 rfl (nI_in' (n := 102) (by omega) (by omega)) ?_
  refine ow_A (w_s 102 (by decide) (by decide)) ?_
  refine nw_dup dX11_init_630 rfl ?_
  refine nw_bipush (v := 103) dX11_init_631 (by decide) ?_
  refine nw_bipush (v := 101) dX11_init_633 (by decide) ?_
  refine ow_iast (i := 1) (N' := 121) (f := wF 103) hL hk dX11_init_635 rfl (nI_in' (n := 103) (by omega) (by omega)) ?_
  refine ow_A (w_s 103 (by decide) (by decide)) ?_
  refine nw_dup dX11_init_636 rfl ?_
  refine nw_bipush (v := 104) dX11_init_637 (by decide) ?_
  refine nw_bipush (v := 32) dX11_init_639 (by decide) ?_
  refine ow_iast (i := 1) (N' := 121) (f := wF 104) hL hk dX11_init_641 rfl (nI_in' (n := 104) (by omega) (by omega)) ?_
  refine ow_A (w_s 104 (by decide) (by decide)) ?_
  refine nw_dup dX11_init_642 rfl ?_
  refine nw_bipush (v := 105) dX11_init_643 (by decide) ?_
  refine nw_bipush (v := 108) dX11_init_645 (by decide) ?_
  refine ow_iast (i := 1) (N' := 121) (f := wF 105) hL hk dX11_init_647 rfl (nI_in' (n := 105) (by omega) (by omega)) ?_
  refine ow_A (w_s 105 (by decide) (by decide)) ?_
  refine nw_dup dX11_init_648 rfl ?_
  refine nw_bipush (v := 106) dX11_init_649 (by decide) ?_
  refine nw_bipush (v := 97) dX11_init_651 (by decide) ?_
  refine ow_iast (i := 1) (N' := 121) (f := wF 106) hL hk dX11_init_653 rfl (nI_in' (n := 106) (by omega) (by omega)) ?_
  refine ow_A (w_s 106 (by decide) (by decide)) ?_
  refine nw_dup dX11_init_654 rfl ?_
  refine nw_bipush (v := 107) dX11_init_655 (by decide) ?_
  refine nw_bipush (v := 116) dX11_init_657 (by decide) ?_
  refine ow_iast (i := 1) (N' := 121) (f := wF 107) hL hk dX11_init_659 rfl (nI_in' (n := 107) (by omega) (by omega)) ?_
  refine ow_A (w_s 107 (by decide) (by decide)) ?_
  refine nw_dup dX11_init_660 rfl ?_
  refine nw_bipush (v := 108) dX11_init_661 (by decide) ?_
  refine nw_bipush (v := 101) dX11_init_663 (by decide) ?_
  refine ow_iast (i := 1) (N' := 121) (f := wF 108) hL hk dX11_init_665 rfl (nI_in' (n := 108) (by omega) (by omega)) ?_
  refine ow_A (w_s 108 (by decide) (by decide)) ?_
  refine nw_dup dX11_init_666 rfl ?_
  refine nw_bipush (v := 109) dX11_init_667 (by decide) ?_
  refine nw_bipush (v := 32) dX11_init_669 (by decide) ?_
  refine ow_iast (i := 1) (N' := 121) (f := wF 109) hL hk dX11_init_671 rfl (nI_in' (n := 109) (by omega) (by omega)) ?_
  refine ow_A (w_s 109 (by decide) (by decide)) ?_
  refine nw_dup dX11_init_672 rfl ?_
  refine nw_bipush (v := 110) dX11_init_673 (by decide) ?_
  refine nw_bipush (v := 115) dX11_init_675 (by decide) ?_
  refine ow_iast (i := 1) (N' := 121) (f := wF 110) hL hk dX11_init_677 rfl (nI_in' (n := 110) (by omega) (by omega)) ?_
  refine ow_A (w_s 110 (by decide) (by decide)) ?_
  refine nw_dup dX11_init_678 rfl ?_
  refine nw_bipush (v := 111) dX11_init_679 (by decide) ?_
  refine nw_bipush (v := 105) dX11_init_681 (by decide) ?_
  refine ow_iast (i := 1) (N' := 121) (f := wF 111) hL hk dX11_init_683 rfl (nI_in' (n := 111) (by omega) (by omega)) ?_
  refine ow_A (w_s 111 (by decide) (by decide)) ?_
  refine nw_dup dX11_init_684 rfl ?_
  refine nw_bipush (v := 112) dX11_init_685 (by decide) ?_
  refine nw_bipush (v := 122) dX11_init_687 (by decide) ?_
  refine ow_iast (i := 1) (N' := 121) (f := wF 112) hL hk dX11_init_689 rfl (nI_in' (n := 112) (by omega) (by omega)) ?_
  refine ow_A (w_s 112 (by decide) (by decide)) ?_
  refine nw_dup dX11_init_690 rfl ?_
  refine nw_bipush (v := 113) dX11_init_691 (by decide) ?_
  refine nw_bipush (v := 101) dX11_init_693 (by decide) ?_
  refine ow_iast (i := 1) (N' := 121) (f := wF 113) hL hk dX11_init_695 rfl (nI_in' (n := 113) (by omega) (by omega)) ?_
  refine ow_A (w_s 113 (by decide) (by decide)) ?_
  refine nw_dup dX11_init_696 rfl ?_
  refine nw_bipush (v := 114) dX11_init_697 (by decide) ?_
  refine nw_bipush (v := 32) dX11_init_699 (by decide) ?_
  refine ow_iast (i := 1) (N' := 121) (f := wF 114) hL hk dX11_init_701 rfl (nI_in' (n := 114) (by omega) (by omega)) ?_
  refine ow_A (w_s 114 (by decide) (by decide)) ?_
  refine nw_dup dX11_init_702 rfl ?_
  refine nw_bipush (v := 115) dX11_init_703 (by decide) ?_
  refine nw_bipush (v := 116) dX11_init_705 (by decide) ?_
  refine ow_iast (i := 1) (N' := 121) (f := wF 115) hL hk dX11_init_707 rfl (nI_in' (n := 115) (by omega) (by omega)) ?_
  refine ow_A (w_s 115 (by decide) (by decide)) ?_
  refine nw_dup dX11_init_708 rfl ?_
  refine nw_bipush (v := 116) dX11_init_709 (by decide) ?_
  refine nw_bipush (v := 97) dX11_init_711 (by decide) ?_
  refine ow_iast (i := 1) (N' := 121) (f := wF 116) hL hk dX11_init_713 rfl (nI_in' (n := 116) (by omega) (by omega)) ?_
  refine ow_A (w_s 116 (by decide) (by decide)) ?_
  refine nw_dup dX11_init_714 rfl ?_
  refine nw_bipush (v := 117) dX11_init_715 (by decide) ?_
  refine nw_bipush (v := 107) dX11_init_717 (by decide) ?_
  refine ow_iast (i := 1) (N' := 121) (f := wF 117) hL hk dX11_init_719 rfl (nI_in' (n := 117) (by omega) (by omega)) ?_
  refine ow_A (w_s 117 (by decide) (by decide)) ?_
  refine nw_dup dX11_init_720 rfl ?_
  refine nw_bipush (v := 118) dX11_init_721 (by decide) ?_
  refine nw_bipush (v := 101) dX11_init_723 (by decide) ?_
  refine ow_iast (i := 1) (N' := 121) (f := wF 118) hL hk dX11_init_725 rfl (nI_in' (n := 118) (by omega) (by omega)) ?_
  refine ow_A (w_s 118 (by decide) (by decide)) ?_
  refine nw_dup dX11_init_726 rfl ?_
  refine nw_bipush (v := 119) dX11_init_727 (by decide) ?_
  refine nw_bipush (v := 110) dX11_init_729 (by decide) ?_
  refine ow_iast (i := 1) (N' := 121) (f := wF 119) hL hk dX11_init_731 rfl (nI_in' (n := 119) (by omega) (by omega)) ?_
  refine ow_A (w_s 119 (by decide) (by decide)) ?_
  refine nw_dup dX11_init_732 rfl ?_
  refine nw_bipush (v := 120) dX11_init_733 (by decide) ?_
  refine nw_bipush (v := 32) dX11_init_735 (by decide) ?_
  refine ow_iast (i := 1) (N' := 121) (f := wF 120) hL hk dX11_init_737 rfl (nI_in' (n := 120) (by omega) (by omega)) ?_
  refine ow_A (w_s 120 (by decide) (by decide)) ?_
  exact kk
