/-! EGGTRAYS() -/
theorem dX10_init_0 : decode cX10_init 0 = .ok (.aload_n 0, 1) := by decide +kernel
theorem dX10_init_1 : decode cX10_init 1 = .ok (.invokespecial 5, 3) := by decide +kernel
theorem dX10_init_4 : decode cX10_init 4 = .ok (.aload_n 0, 1) := by decide +kernel
theorem dX10_init_5 : decode cX10_init 5 = .ok (.sipush 800, 3) := by decide +kernel
theorem dX10_init_8 : decode cX10_init 8 = .ok (.newarray .byte, 2) := by decide +kernel
theorem dX10_init_10 : decode cX10_init 10 = .ok (.putfield 11, 3) := by decide +kernel
theorem dX10_init_13 : decode cX10_init 13 = .ok (.aload_n 0, 1) := by decide +kernel
theorem dX10_init_14 : decode cX10_init 14 = .ok (.new 15, 3) := by decide +kernel
theorem dX10_init_17 : decode cX10_init 17 = .ok (.dup, 1) := by decide +kernel
theorem dX10_init_18 : decode cX10_init 18 = .ok (.new 17, 3) := by decide +kernel
theorem dX10_init_21 : decode cX10_init 21 = .ok (.dup, 1) := by decide +kernel
theorem dX10_init_22 : decode cX10_init 22 = .ok (.aload_n 0, 1) := by decide +kernel
theorem dX10_init_23 : decode cX10_init 23 = .ok (.getfield 11, 3) := by decide +kernel
theorem dX10_init_26 : decode cX10_init 26 = .ok (.invokespecial 19, 3) := by decide +kernel
theorem dX10_init_29 : decode cX10_init 29 = .ok (.invokespecial 22, 3) := by decide +kernel
theorem dX10_init_32 : decode cX10_init 32 = .ok (.putfield 25, 3) := by decide +kernel
theorem dX10_init_35 : decode cX10_init 35 = .ok (.aload_n 0, 1) := by decide +kernel
theorem dX10_init_36 : decode cX10_init 36 = .ok (.new 29, 3) := by decide +kernel
theorem dX10_init_39 : decode cX10_init 39 = .ok (.dup, 1) := by decide +kernel
theorem dX10_init_40 : decode cX10_init 40 = .ok (.invokespecial 31, 3) := by decide +kernel
theorem dX10_init_43 : decode cX10_init 43 = .ok (.putfield 32, 3) := by decide +kernel
theorem dX10_init_46 : decode cX10_init 46 = .ok (.aload_n 0, 1) := by decide +kernel
theorem dX10_init_47 : decode cX10_init 47 = .ok (.new 29, 3) := by decide +kernel
theorem dX10_init_50 : decode cX10_init 50 = .ok (.dup, 1) := by decide +kernel
theorem dX10_init_51 : decode cX10_init 51 = .ok (.invokespecial 31, 3) := by decide +kernel
theorem dX10_init_54 : decode cX10_init 54 = .ok (.putfield 36, 3) := by decide +kernel
theorem dX10_init_57 : decode cX10_init 57 = .ok (.aload_n 0, 1) := by decide +kernel
theorem dX10_init_58 : decode cX10_init 58 = .ok (.bipush 60, 2) := by decide +kernel
theorem dX10_init_60 : decode cX10_init 60 = .ok (.newarray .int, 2) := by decide +kernel
theorem dX10_init_62 : decode cX10_init 62 = .ok (.putfield 39, 3) := by decide +kernel
theorem dX10_init_65 : decode cX10_init 65 = .ok (.aload_n 0, 1) := by decide +kernel
theorem dX10_init_66 : decode cX10_init 66 = .ok (.new 43, 3) := by decide +kernel
theorem dX10_init_69 : decode cX10_init 69 = .ok (.dup, 1) := by decide +kernel
theorem dX10_init_70 : decode cX10_init 70 = .ok (.invokespecial 45, 3) := by decide +kernel
theorem dX10_init_73 : decode cX10_init 73 = .ok (.putfield 46, 3) := by decide +kernel
theorem dX10_init_76 : decode cX10_init 76 = .ok (.aload_n 0, 1) := by decide +kernel
theorem dX10_init_77 : decode cX10_init 77 = .ok (.iconst 5, 1) := by decide +kernel
theorem dX10_init_78 : decode cX10_init 78 = .ok (.newarray .int, 2) := by decide +kernel
theorem dX10_init_80 : decode cX10_init 80 = .ok (.putfield 50, 3) := by decide +kernel
theorem dX10_init_83 : decode cX10_init 83 = .ok (.aload_n 0, 1) := by decide +kernel
theorem dX10_init_84 : decode cX10_init 84 = .ok (.iconst 5, 1) := by decide +kernel
theorem dX10_init_85 : decode cX10_init 85 = .ok (.newarray .int, 2) := by decide +kernel
theorem dX10_init_87 : decode cX10_init 87 = .ok (.putfield 53, 3) := by decide +kernel
theorem dX10_init_90 : decode cX10_init 90 = .ok (.aload_n 0, 1) := by decide +kernel
theorem dX10_init_91 : decode cX10_init 91 = .ok (.getfield 32, 3) := by decide +kernel
theorem dX10_init_94 : decode cX10_init 94 = .ok (.invokevirtual 56, 3) := by decide +kernel
theorem dX10_init_97 : decode cX10_init 97 = .ok (.aload_n 0, 1) := by decide +kernel
theorem dX10_init_98 : decode cX10_init 98 = .ok (.getfield 36, 3) := by decide +kernel
theorem dX10_init_101 : decode cX10_init 101 = .ok (.invokevirtual 56, 3) := by decide +kernel
theorem dX10_init_104 : decode cX10_init 104 = .ok (.aload_n 0, 1) := by decide +kernel
theorem dX10_init_105 : decode cX10_init 105 = .ok (.getfield 46, 3) := by decide +kernel
theorem dX10_init_108 : decode cX10_init 108 = .ok (.invokevirtual 59, 3) := by decide +kernel
theorem dX10_init_111 : decode cX10_init 111 = .ok (.aload_n 0, 1) := by decide +kernel
theorem dX10_init_112 : decode cX10_init 112 = .ok (.new 60, 3) := by decide +kernel
theorem dX10_init_115 : decode cX10_init 115 = .ok (.dup, 1) := by decide +kernel
theorem dX10_init_116 : decode cX10_init 116 = .ok (.aload_n 0, 1) := by decide +kernel
theorem dX10_init_117 : decode cX10_init 117 = .ok (.getfield 32, 3) := by decide +kernel
theorem dX10_init_120 : decode cX10_init 120 = .ok (.invokespecial 62, 3) := by decide +kernel
theorem dX10_init_123 : decode cX10_init 123 = .ok (.putfield 65, 3) := by decide +kernel
theorem dX10_init_126 : decode cX10_init 126 = .ok (.aload_n 0, 1) := by decide +kernel
theorem dX10_init_127 : decode cX10_init 127 = .ok (.new 60, 3) := by decide +kernel
theorem dX10_init_130 : decode cX10_init 130 = .ok (.dup, 1) := by decide +kernel
theorem dX10_init_131 : decode cX10_init 131 = .ok (.aload_n 0, 1) := by decide +kernel
theorem dX10_init_132 : decode cX10_init 132 = .ok (.getfield 32, 3) := by decide +kernel
theorem dX10_init_135 : decode cX10_init 135 = .ok (.invokespecial 62, 3) := by decide +kernel
theorem dX10_init_138 : decode cX10_init 138 = .ok (.putfield 69, 3) := by decide +kernel
theorem dX10_init_141 : decode cX10_init 141 = .ok (.aload_n 0, 1) := by decide +kernel
theorem dX10_init_142 : decode cX10_init 142 = .ok (.new 60, 3) := by decide +kernel
theorem dX10_init_145 : decode cX10_init 145 = .ok (.dup, 1) := by decide +kernel
theorem dX10_init_146 : decode cX10_init 146 = .ok (.aload_n 0, 1) := by decide +kernel
theorem dX10_init_147 : decode cX10_init 147 = .ok (.getfield 32, 3) := by decide +kernel
theorem dX10_init_150 : decode cX10_init 150 = .ok (.invokespecial 62, 3) := by decide +kernel
theorem dX10_init_153 : decode cX10_init 153 = .ok (.putfield 72, 3) := by decide +kernel
theorem dX10_init_156 : decode cX10_init 156 = .ok (.aload_n 0, 1) := by decide +kernel
theorem dX10_init_157 : decode cX10_init 157 = .ok (.new 60, 3) := by decide +kernel
theorem dX10_init_160 : decode cX10_init 160 = .ok (.dup, 1) := by decide +kernel
theorem dX10_init_161 : decode cX10_init 161 = .ok (.aload_n 0, 1) := by decide +kernel
theorem dX10_init_162 : decode cX10_init 162 = .ok (.getfield 32, 3) := by decide +kernel
theorem dX10_init_165 : decode cX10_init 165 = .ok (.invokespecial 62, 3) := by decide +kernel
theorem dX10_init_168 : decode cX10_init 168 = .ok (.putfield 75, 3) := by decide +kernel
theorem dX10_init_171 : decode cX10_init 171 = .ok (.return_, 1) := by decide +kernel
theorem oi_10_5 : eg_OI RX10 5 := ⟨(eg_t1 (i := 29) (by decide +kernel) rfl), (eg_t1 (i := 30) (by decide +kernel) rfl), (eg_t1 (i := 31) (by decide +kernel) rfl)⟩
theorem ac_byte : Cond.arrayClass FieldType.byte ∈ eg_T := (eg_t1 (i := 67) (by decide +kernel) rfl)
theorem ck_10_15 : eg_CK RX10 15 6 := ⟨by decide, (eg_t1 (i := 32) (by decide +kernel) rfl), (eg_t1 (i := 33) (by decide +kernel) rfl), (eg_t1 (i := 2) (by decide +kernel) rfl)⟩
theorem ck_10_17 : eg_CK RX10 17 9 := ⟨by decide, (eg_t1 (i := 34) (by decide +kernel) rfl), (eg_t1 (i := 35) (by decide +kernel) rfl), (eg_t1 (i := 3) (by decide +kernel) rfl)⟩
theorem mi_10_19 : eg_MI RX10 19 mtX9_init 1 := ⟨⟨(eg_t1 (i := 36) (by decide +kernel) rfl), (eg_t1 (i := 37) (by decide +kernel) rfl), (eg_t1 (i := 3) (by decide +kernel) rfl), (eg_t1 (i := 38) rfl rfl)⟩, ⟨by decide, by decide, by decide +kernel⟩, by decide, rfl, rfl⟩
theorem mi_10_22 : eg_MI RX10 22 mtX6_init 1 := ⟨⟨(eg_t1 (i := 68) (by decide +kernel) rfl), (eg_t1 (i := 69) (by decide +kernel) rfl), (eg_t1 (i := 2) (by decide +kernel) rfl), (eg_t1 (i := 70) rfl rfl)⟩, ⟨by decide, by decide, by decide +kernel⟩, by decide, rfl, rfl⟩
theorem ck_10_29 : eg_CK RX10 29 5 := ⟨by decide, (eg_t1 (i := 122) (by decide +kernel) rfl), (eg_t1 (i := 123) (by decide +kernel) rfl), (eg_t1 (i := 4) (by decide +kernel) rfl)⟩
theorem mi_10_31 : eg_MI RX10 31 mtX5_init 0 := ⟨⟨(eg_t1 (i := 124) (by decide +kernel) rfl), (eg_t1 (i := 125) (by decide +kernel) rfl), (eg_t1 (i := 4) (by decide +kernel) rfl), (eg_t1 (i := 126) rfl rfl)⟩, ⟨by decide, by decide, by decide +kernel⟩, by decide, rfl, rfl⟩
theorem ck_10_43 : eg_CK RX10 43 8 := ⟨by decide, (eg_t2 (i := 71) (by decide +kernel) rfl), (eg_t2 (i := 72) (by decide +kernel) rfl), (eg_t1 (i := 8) (by decide +kernel) rfl)⟩
theorem mn_10_45 : eg_MN RX10 45 mtX8_init 0 := ⟨⟨by decide, (eg_t2 (i := 74) (by decide +kernel) rfl), (eg_t1 (i := 8) (by decide +kernel) rfl), (eg_t2 (i := 75) rfl rfl)⟩, ⟨by decide, by decide, by decide +kernel⟩, by decide, rfl, rfl⟩
theorem ck_10_60 : eg_CK RX10 60 7 := ⟨by decide, (eg_t2 (i := 114) (by decide +kernel) rfl), (eg_t2 (i := 115) (by decide +kernel) rfl), (eg_t1 (i := 9) (by decide +kernel) rfl)⟩
theorem mi_10_62 : eg_MI RX10 62 mtX7_init 1 := ⟨⟨(eg_t2 (i := 116) (by decide +kernel) rfl), (eg_t2 (i := 117) (by decide +kernel) rfl), (eg_t1 (i := 9) (by decide +kernel) rfl), (eg_t2 (i := 118) rfl rfl)⟩, ⟨by decide, by decide, by decide +kernel⟩, by decide, rfl, rfl⟩
theorem b10_4 {κ : eg_K} {b : Nat} {L : List va_E} {k n m : Nat} {As : List va_E} {fs : List Value} (hL : L.length = n) (hk : k < n) (hA : As.length = m) (hfs : fs.length = 15)  {Qc : Array Value → State → Outcome → State → Prop} {mc ms cn sn : Nat} (hc : cn + 1 ≤ mc) (hs : sn + 800 ≤ ms) (kk : eg_N κ b mtX10_init 3 mc ms Qc 13 [(0, .ref (b + k))] [] (wS L k (As ++ [.inl (kA κ 1, 800, .inl (fun _ => 0))]) 10 (fs.set 0 (.ref (b + (n + m))))) (cn + 1) (sn + 800)) : eg_N κ b mtX10_init 3 mc ms Qc 4 [(0, .ref (b + k))] [] (wS L k As 10 fs) cn sn := by
  refine nw_aload 0 dX10_init_4 rfl rfl ?_
  refine nw_sipush (v := 800) dX10_init_5 (by decide) ?_
  refine ow_arr (t := 1) (ty := .byte) (a0 := (800, .inl (fun _ => 0))) (N' := 800) (m := m) hL hk hA dX10_init_8 rfl ac_byte rfl (fun _ h => by cases h) (fun _ => rfl) (by decide) (by decide) (by decide) (by omega) (by omega) ?_
  refine ow_putF hL hk dX10_init_10 fl_10_11 rfl rfl rfl rfl rfl (by rw [hfs]; decide) ?_
  exact kk
theorem b10_13 {κ : eg_K} {b : Nat} {L : List va_E} {k n m : Nat} {As : List va_E} {fs : List Value} (hL : L.length = n) (hk : k < n) (hA : As.length = m) (hfs : fs.length = 15) {tp : Nat} (h0 : fs[0]? = some (.ref tp)) {Qc : Array Value → State → Outcome → State → Prop} {mc ms cn sn : Nat} (hc : cn + 3 ≤ mc) (hs : sn + 94 ≤ ms) (kk : eg_N κ b mtX10_init 3 mc ms Qc 35 [(0, .ref (b + k))] [] (wS L k (As ++ (.inr (6, fsX6 b (n + (m + 2)) (b + (n + (m + 1)))) :: .inr (9, fsX9 b (n + (m + 2)) tp) :: asX6 κ b (n + (m + 2)) (b + (n + (m + 1))))) 10 (fs.set 2 (.ref (b + (n + m))))) (cn + 3) (sn + 94)) : eg_N κ b mtX10_init 3 mc ms Qc 13 [(0, .ref (b + k))] [] (wS L k As 10 fs) cn sn := by
  refine nw_aload 0 dX10_init_13 rfl rfl ?_
  refine ow_new (cj := 6) (m := m) hL hk hA dX10_init_14 ck_10_15 (by omega) (by show _ + 15 ≤ _; omega) ?_
  refine nw_dup dX10_init_17 rfl ?_
  refine ow_new (cj := 9) (m := m + 1) hL hk (by rw [List.length_append, hA]; rfl) dX10_init_18 ck_10_17 (by omega) (by show _ + 15 + 7 ≤ _; omega) ?_
  refine nw_dup dX10_init_21 rfl ?_
  refine nw_aload 0 dX10_init_22 rfl rfl ?_
  refine ow_get (v := .ref tp) hL hk dX10_init_23 fl_10_11 h0 ?_
  refine ow_init (i := m + 1) (Ar := [.ref tp]) (cj := 9) hL hk (by rw [List.length_append, List.length_append, hA]; exact Nat.lt_succ_self _) dX10_init_26 mi_10_19 rfl rfl (c_X9 (n := n + (m + 2)) (a0 := tp) ((wS_len hL).trans (by rw [List.length_append, List.length_append, hA]; rfl)) (wS_at hL hk (sl_4 (by rw [List.length_append, hA]; rfl)))) rfl (by decide) (by omega) (by show _ + 15 + 7 + 0 ≤ _; omega) (Nat.le_of_ble_eq_true rfl) ?_
  refine ow_init (i := m) (Ar := [.ref (b + (n + (m + 1)))]) (cj := 6) hL hk (by rw [List.length_append, List.length_set, List.length_append, List.length_append, hA]; exact Nat.lt_of_lt_of_le (Nat.lt_succ_self m) (Nat.le_add_right _ _)) dX10_init_29 mi_10_22 rfl rfl (c_X6 (n := n + (m + 2)) (a0 := b + (n + (m + 1))) ((wS_len hL).trans (by rw [List.length_append, List.length_set, List.length_append, List.length_append, hA]; rfl)) (wS_at hL hk (sl_8 hA))) rfl (by decide) (by omega) (by show _ + 15 + 7 + 0 + 72 ≤ _; omega) (Nat.le_of_ble_eq_true rfl) ?_
  refine ow_A (sl_7 hA) ?_
  refine ow_putF hL hk dX10_init_32 fl_10_25 rfl rfl rfl rfl rfl (by rw [hfs]; decide) ?_
  exact nw_cs (by omega) (by show sn + 15 + 7 + 0 + 72 = _; omega) kk
theorem b10_35 {κ : eg_K} {b : Nat} {L : List va_E} {k n m : Nat} {As : List va_E} {fs : List Value} (hL : L.length = n) (hk : k < n) (hA : As.length = m) (hfs : fs.length = 15)  {Qc : Array Value → State → Outcome → State → Prop} {mc ms cn sn : Nat} (hc : cn + 48 ≤ mc) (hs : sn + 375 ≤ ms) (kk : eg_N κ b mtX10_init 3 mc ms Qc 46 [(0, .ref (b + k))] [] (wS L k (As ++ (.inr (5, fsX5 b (n + (m + 1))) :: asX5 κ b (n + (m + 1)))) 10 (fs.set 3 (.ref (b + (n + m))))) (cn + 48) (sn + 375)) : eg_N κ b mtX10_init 3 mc ms Qc 35 [(0, .ref (b + k))] [] (wS L k As 10 fs) cn sn := by
  refine nw_aload 0 dX10_init_35 rfl rfl ?_
  refine ow_new (cj := 5) (m := m) hL hk hA dX10_init_36 ck_10_29 (by omega) (by show _ + 13 ≤ _; omega) ?_
  refine nw_dup dX10_init_39 rfl ?_
  refine ow_init (i := m) (Ar := []) (cj := 5) hL hk (by rw [List.length_append, hA]; exact Nat.lt_succ_self _) dX10_init_40 mi_10_31 rfl rfl (c_X5 (n := n + (m + 1)) ((wS_len hL).trans (by rw [List.length_append, hA]; rfl)) (wS_at hL hk (sl_4 hA))) (asX5_len _ _ _) (by decide) (by omega) (by show _ + 13 + 362 ≤ _; omega) (Nat.le_of_ble_eq_true rfl) ?_
  refine ow_A (sl_2 hA) ?_
  refine ow_put hL hk dX10_init_43 fl_10_32 rfl rfl rfl (by rw [hfs]; decide) ?_
  exact nw_cs (by omega) (by show sn + 13 + 362 = _; omega) kk
theorem b10_46 {κ : eg_K} {b : Nat} {L : List va_E} {k n m : Nat} {As : List va_E} {fs : List Value} (hL : L.length = n) (hk : k < n) (hA : As.length = m) (hfs : fs.length = 15)  {Qc : Array Value → State → Outcome → State → Prop} {mc ms cn sn : Nat} (hc : cn + 48 ≤ mc) (hs : sn + 375 ≤ ms) (kk : eg_N κ b mtX10_init 3 mc ms Qc 57 [(0, .ref (b + k))] [] (wS L k (As ++ (.inr (5, fsX5 b (n + (m + 1))) :: asX5 κ b (n + (m + 1)))) 10 (fs.set 4 (.ref (b + (n + m))))) (cn + 48) (sn + 375)) : eg_N κ b mtX10_init 3 mc ms Qc 46 [(0, .ref (b + k))] [] (wS L k As 10 fs) cn sn := by
  refine nw_aload 0 dX10_init_46 rfl rfl ?_
  refine ow_new (cj := 5) (m := m) hL hk hA dX10_init_47 ck_10_29 (by omega) (by show _ + 13 ≤ _; omega) ?_
  refine nw_dup dX10_init_50 rfl ?_
  refine ow_init (i := m) (Ar := []) (cj := 5) hL hk (by rw [List.length_append, hA]; exact Nat.lt_succ_self _) dX10_init_51 mi_10_31 rfl rfl (c_X5 (n := n + (m + 1)) ((wS_len hL).trans (by rw [List.length_append, hA]; rfl)) (wS_at hL hk (sl_4 hA))) (asX5_len _ _ _) (by decide) (by omega) (by show _ + 13 + 362 ≤ _; omega) (Nat.le_of_ble_eq_true rfl) ?_
  refine ow_A (sl_2 hA) ?_
  refine ow_put hL hk dX10_init_54 fl_10_36 rfl rfl rfl (by rw [hfs]; decide) ?_
  exact nw_cs (by omega) (by show sn + 13 + 362 = _; omega) kk
theorem b10_57 {κ : eg_K} {b : Nat} {L : List va_E} {k n m : Nat} {As : List va_E} {fs : List Value} (hL : L.length = n) (hk : k < n) (hA : As.length = m) (hfs : fs.length = 15)  {Qc : Array Value → State → Outcome → State → Prop} {mc ms cn sn : Nat} (hc : cn + 1 ≤ mc) (hs : sn + 60 ≤ ms) (kk : eg_N κ b mtX10_init 3 mc ms Qc 65 [(0, .ref (b + k))] [] (wS L k (As ++ [.inl (kA κ 0, 60, .inl (fun _ => 0))]) 10 (fs.set 10 (.ref (b + (n + m))))) (cn + 1) (sn + 60)) : eg_N κ b mtX10_init 3 mc ms Qc 57 [(0, .ref (b + k))] [] (wS L k As 10 fs) cn sn := by
  refine nw_aload 0 dX10_init_57 rfl rfl ?_
  refine nw_bipush (v := 60) dX10_init_58 (by decide) ?_
  refine ow_arr (t := 0) (ty := .int) (a0 := (60, .inl (fun _ => 0))) (N' := 60) (m := m) hL hk hA dX10_init_60 rfl ac_int rfl (fun _ h => by cases h) (fun _ => rfl) (by decide) (by decide) (by decide) (by omega) (by omega) ?_
  refine ow_putF hL hk dX10_init_62 fl_10_39 rfl rfl rfl rfl rfl (by rw [hfs]; decide) ?_
  exact kk
theorem b10_65 {κ : eg_K} {b : Nat} {L : List va_E} {k n m : Nat} {As : List va_E} {fs : List Value} (hL : L.length = n) (hk : k < n) (hA : As.length = m) (hfs : fs.length = 15)  {Qc : Array Value → State → Outcome → State → Prop} {mc ms cn sn : Nat} (hc : cn + 6 ≤ mc) (hs : sn + 207 ≤ ms) (kk : eg_N κ b mtX10_init 3 mc ms Qc 76 [(0, .ref (b + k))] [] (wS L k (As ++ (.inr (8, fsX8 b (n + (m + 1))) :: asX8 κ b (n + (m + 1)))) 10 (fs.set 12 (.ref (b + (n + m))))) (cn + 6) (sn + 207)) : eg_N κ b mtX10_init 3 mc ms Qc 65 [(0, .ref (b + k))] [] (wS L k As 10 fs) cn sn := by
  refine nw_aload 0 dX10_init_65 rfl rfl ?_
  refine ow_new (cj := 8) (m := m) hL hk hA dX10_init_66 ck_10_43 (by omega) (by show _ + 7 ≤ _; omega) ?_
  refine nw_dup dX10_init_69 rfl ?_
  refine ow_nest (i := m) (Ar := []) (cj := 8) hL hk (by rw [List.length_append, hA]; exact Nat.lt_succ_self _) dX10_init_70 mn_10_45 rfl rfl (c_X8 (n := n + (m + 1)) ((wS_len hL).trans (by rw [List.length_append, hA]; rfl)) (wS_at hL hk (sl_4 hA))) rfl (by decide) (by omega) (by show _ + 7 + 200 ≤ _; omega) (Nat.le_of_ble_eq_true rfl) ?_
  refine ow_A (sl_2 hA) ?_
  refine ow_putF hL hk dX10_init_73 fl_10_46 rfl rfl rfl rfl rfl (by rw [hfs]; decide) ?_
  exact nw_cs (by omega) (by show sn + 7 + 200 = _; omega) kk
theorem b10_76 {κ : eg_K} {b : Nat} {L : List va_E} {k n m : Nat} {As : List va_E} {fs : List Value} (hL : L.length = n) (hk : k < n) (hA : As.length = m) (hfs : fs.length = 15)  {Qc : Array Value → State → Outcome → State → Prop} {mc ms cn sn : Nat} (hc : cn + 1 ≤ mc) (hs : sn + 5 ≤ ms) (kk : eg_N κ b mtX10_init 3 mc ms Qc 83 [(0, .ref (b + k))] [] (wS L k (As ++ [.inl (kA κ 0, 5, .inl (fun _ => 0))]) 10 (fs.set 13 (.ref (b + (n + m))))) (cn + 1) (sn + 5)) : eg_N κ b mtX10_init 3 mc ms Qc 76 [(0, .ref (b + k))] [] (wS L k As 10 fs) cn sn := by
  refine nw_aload 0 dX10_init_76 rfl rfl ?_
  refine nw_iconst (v := 5) dX10_init_77 (by decide) ?_
  refine ow_arr (t := 0) (ty := .int) (a0 := (5, .inl (fun _ => 0))) (N' := 5) (m := m) hL hk hA dX10_init_78 rfl ac_int rfl (fun _ h => by cases h) (fun _ => rfl) (by decide) (by decide) (by decide) (by omega) (by omega) ?_
  refine ow_putF hL hk dX10_init_80 fl_10_50 rfl rfl rfl rfl rfl (by rw [hfs]; decide) ?_
  exact kk
theorem b10_83 {κ : eg_K} {b : Nat} {L : List va_E} {k n m : Nat} {As : List va_E} {fs : List Value} (hL : L.length = n) (hk : k < n) (hA : As.length = m) (hfs : fs.length = 15)  {Qc : Array Value → State → Outcome → State → Prop} {mc ms cn sn : Nat} (hc : cn + 1 ≤ mc) (hs : sn + 5 ≤ ms) (kk : eg_N κ b mtX10_init 3 mc ms Qc 90 [(0, .ref (b + k))] [] (wS L k (As ++ [.inl (kA κ 0, 5, .inl (fun _ => 0))]) 10 (fs.set 14 (.ref (b + (n + m))))) (cn + 1) (sn + 5)) : eg_N κ b mtX10_init 3 mc ms Qc 83 [(0, .ref (b + k))] [] (wS L k As 10 fs) cn sn := by
  refine nw_aload 0 dX10_init_83 rfl rfl ?_
  refine nw_iconst (v := 5) dX10_init_84 (by decide) ?_
  refine ow_arr (t := 0) (ty := .int) (a0 := (5, .inl (fun _ => 0))) (N' := 5) (m := m) hL hk hA dX10_init_85 rfl ac_int rfl (fun _ h => by cases h) (fun _ => rfl) (by decide) (by decide) (by decide) (by omega) (by omega) ?_
  refine ow_putF hL hk dX10_init_87 fl_10_53 rfl rfl rfl rfl rfl (by rw [hfs]; decide) ?_
  exact kk
theorem b10_90 {κ : eg_K} {b : Nat} {L : List va_E} {k n m : Nat} {As : List va_E} {fs : List Value} (hL : L.length = n) (hk : k < n) (hA : As.length = m) (hfs : fs.length = 15) {i q r : Nat} {gs hs : List Value} {f : Nat → Int32} (h0 : fs[3]? = some (.ref (b + (n + i)))) (hi : As[i]? = some (.inr (5, gs))) (g0 : ∀ j, j = 0 ∨ j = 2 ∨ j = 4 ∨ j = 5 ∨ j = 7 → gs[j]? = some (.int 0)) (g6 : 6 < gs.length) (g11 : gs[11]? = some (.ref (b + (n + q)))) (g12 : gs[12]? = some (.ref (b + (n + r)))) (hq : As[q]? = some (inA κ 3 f)) (hr : As[r]? = some (.inr (3, hs))) (k3 : hs[3]? = some (.int 0)) (k4 : hs[4]? = some (.int 0)) (d1 : i ≠ q) (d2 : i ≠ r) (d3 : q ≠ r) {Qc : Array Value → State → Outcome → State → Prop} {mc ms cn sn : Nat} (hc : cn + 0 ≤ mc) (hs : sn + 0 ≤ ms) (kk : eg_N κ b mtX10_init 3 mc ms Qc 97 [(0, .ref (b + k))] [] (wS L k ((As.set i (.inr (5, gs.set 6 (.int 3600)))).set q (inA κ 3 (upd (upd (upd f 0 (-1)) 1 (-1)) 2 (-1)))) 10 (fs)) (cn + 0) (sn + 0)) : eg_N κ b mtX10_init 3 mc ms Qc 90 [(0, .ref (b + k))] [] (wS L k As 10 fs) cn sn := by
  refine nw_aload 0 dX10_init_90 rfl rfl ?_
  refine ow_get (v := .ref (b + (n + i))) hL hk dX10_init_91 fl_10_32 h0 ?_
  refine nw_virt (q0 := n + i) (ci := 5) (As := []) (mc1 := 0) (ms1 := 0) dX10_init_94 ml_10_56 rfl rfl (wS_at hL hk hi) (by decide) rfl (k_X5 (wS_at hL hk hi) g0 g6 g11 g12 (wS_at hL hk hq) (wS_at hL hk hr) k3 k4 (by omega) (by omega) (by omega)) (by decide) (by omega) (by omega) (by decide) (by rw [List.length_set, List.length_set]; rfl) ?_
  rw [wS_set hL hk, wS_set hL hk]
  exact kk
theorem b10_97 {κ : eg_K} {b : Nat} {L : List va_E} {k n m : Nat} {As : List va_E} {fs : List Value} (hL : L.length = n) (hk : k < n) (hA : As.length = m) (hfs : fs.length = 15) {i q r : Nat} {gs hs : List Value} {f : Nat → Int32} (h0 : fs[4]? = some (.ref (b + (n + i)))) (hi : As[i]? = some (.inr (5, gs))) (g0 : ∀ j, j = 0 ∨ j = 2 ∨ j = 4 ∨ j = 5 ∨ j = 7 → gs[j]? = some (.int 0)) (g6 : 6 < gs.length) (g11 : gs[11]? = some (.ref (b + (n + q)))) (g12 : gs[12]? = some (.ref (b + (n + r)))) (hq : As[q]? = some (inA κ 3 f)) (hr : As[r]? = some (.inr (3, hs))) (k3 : hs[3]? = some (.int 0)) (k4 : hs[4]? = some (.int 0)) (d1 : i ≠ q) (d2 : i ≠ r) (d3 : q ≠ r) {Qc : Array Value → State → Outcome → State → Prop} {mc ms cn sn : Nat} (hc : cn + 0 ≤ mc) (hs : sn + 0 ≤ ms) (kk : eg_N κ b mtX10_init 3 mc ms Qc 104 [(0, .ref (b + k))] [] (wS L k ((As.set i (.inr (5, gs.set 6 (.int 3600)))).set q (inA κ 3 (upd (upd (upd f 0 (-1)) 1 (-1)) 2 (-1)))) 10 (fs)) (cn + 0) (sn + 0)) : eg_N κ b mtX10_init 3 mc ms Qc 97 [(0, .ref (b + k))] [] (wS L k As 10 fs) cn sn := by
  refine nw_aload 0 dX10_init_97 rfl rfl ?_
  refine ow_get (v := .ref (b + (n + i))) hL hk dX10_init_98 fl_10_36 h0 ?_
  refine nw_virt (q0 := n + i) (ci := 5) (As := []) (mc1 := 0) (ms1 := 0) dX10_init_101 ml_10_56 rfl rfl (wS_at hL hk hi) (by decide) rfl (k_X5 (wS_at hL hk hi) g0 g6 g11 g12 (wS_at hL hk hq) (wS_at hL hk hr) k3 k4 (by omega) (by omega) (by omega)) (by decide) (by omega) (by omega) (by decide) (by rw [List.length_set, List.length_set]; rfl) ?_
  rw [wS_set hL hk, wS_set hL hk]
  exact kk
theorem b10_104 {κ : eg_K} {b : Nat} {L : List va_E} {k n m : Nat} {As : List va_E} {fs : List Value} (hL : L.length = n) (hk : k < n) (hA : As.length = m) (hfs : fs.length = 15) {i : Nat} {gs : List Value} (h0 : fs[12]? = some (.ref (b + (n + i)))) (hi : As[i]? = some (.inr (8, gs))) (g0 : gs[0]? = some (.int 0)) (g1 : 1 < gs.length) {Qc : Array Value → State → Outcome → State → Prop} {mc ms cn sn : Nat} (hc : cn + 0 ≤ mc) (hs : sn + 0 ≤ ms) (kk : eg_N κ b mtX10_init 3 mc ms Qc 111 [(0, .ref (b + k))] [] (wS L k (As.set i (.inr (8, gs.set 1 (.int (-1))))) 10 (fs)) (cn + 0) (sn + 0)) : eg_N κ b mtX10_init 3 mc ms Qc 104 [(0, .ref (b + k))] [] (wS L k As 10 fs) cn sn := by
  refine nw_aload 0 dX10_init_104 rfl rfl ?_
  refine ow_get (v := .ref (b + (n + i))) hL hk dX10_init_105 fl_10_46 h0 ?_
  refine nw_virt (q0 := n + i) (ci := 8) (As := []) (mc1 := 0) (ms1 := 0) dX10_init_108 ml_10_59 rfl rfl (wS_at hL hk hi) (by decide) rfl (k_X8 (wS_at hL hk hi) g0 g1) (by decide) (by omega) (by omega) (by decide) (by rw [List.length_set]; rfl) ?_
  rw [wS_set hL hk]
  exact kk
theorem b10_111 {κ : eg_K} {b : Nat} {L : List va_E} {k n m : Nat} {As : List va_E} {fs : List Value} (hL : L.length = n) (hk : k < n) (hA : As.length = m) (hfs : fs.length = 15) {tp : Nat} (h0 : fs[3]? = some (.ref tp)) {Qc : Array Value → State → Outcome → State → Prop} {mc ms cn sn : Nat} (hc : cn + 40 ≤ mc) (hs : sn + 353 ≤ ms) (kk : eg_N κ b mtX10_init 3 mc ms Qc 126 [(0, .ref (b + k))] [] (wS L k (As ++ (.inr (7, fsX7 b (n + (m + 1)) tp) :: asX7 κ b (n + (m + 1)) tp)) 10 (fs.set 5 (.ref (b + (n + m))))) (cn + 40) (sn + 353)) : eg_N κ b mtX10_init 3 mc ms Qc 111 [(0, .ref (b + k))] [] (wS L k As 10 fs) cn sn := by
  refine nw_aload 0 dX10_init_111 rfl rfl ?_
  refine ow_new (cj := 7) (m := m) hL hk hA dX10_init_112 ck_10_60 (by omega) (by show _ + 8 ≤ _; omega) ?_
  refine nw_dup dX10_init_115 rfl ?_
  refine nw_aload 0 dX10_init_116 rfl rfl ?_
  refine ow_get (v := .ref tp) hL hk dX10_init_117 fl_10_32 h0 ?_
  refine ow_init (i := m) (Ar := [.ref tp]) (cj := 7) hL hk (by rw [List.length_append, hA]; exact Nat.lt_succ_self _) dX10_init_120 mi_10_62 rfl rfl (c_X7 (n := n + (m + 1)) (a0 := tp) ((wS_len hL).trans (by rw [List.length_append, hA]; rfl)) (wS_at hL hk (sl_4 hA))) (asX7_len _ _ _ _) (by decide) (by omega) (by show _ + 8 + 345 ≤ _; omega) (Nat.le_of_ble_eq_true rfl) ?_
  refine ow_A (sl_2 hA) ?_
  refine ow_putF hL hk dX10_init_123 fl_10_65 rfl rfl rfl rfl rfl (by rw [hfs]; decide) ?_
  exact nw_cs (by omega) (by show sn + 8 + 345 = _; omega) kk
theorem b10_126 {κ : eg_K} {b : Nat} {L : List va_E} {k n m : Nat} {As : List va_E} {fs : List Value} (hL : L.length = n) (hk : k < n) (hA : As.length = m) (hfs : fs.length = 15) {tp : Nat} (h0 : fs[3]? = some (.ref tp)) {Qc : Array Value → State → Outcome → State → Prop} {mc ms cn sn : Nat} (hc : cn + 40 ≤ mc) (hs : sn + 353 ≤ ms) (kk : eg_N κ b mtX10_init 3 mc ms Qc 141 [(0, .ref (b + k))] [] (wS L k (As ++ (.inr (7, fsX7 b (n + (m + 1)) tp) :: asX7 κ b (n + (m + 1)) tp)) 10 (fs.set 6 (.ref (b + (n + m))))) (cn + 40) (sn + 353)) : eg_N κ b mtX10_init 3 mc ms Qc 126 [(0, .ref (b + k))] [] (wS L k As 10 fs) cn sn := by
  refine nw_aload 0 dX10_init_126 rfl rfl ?_
  refine ow_new (cj := 7) (m := m) hL hk hA dX10_init_127 ck_10_60 (by omega) (by show _ + 8 ≤ _; omega) ?_
  refine nw_dup dX10_init_130 rfl ?_
  refine nw_aload 0 dX10_init_131 rfl rfl ?_
  refine ow_get (v := .ref tp) hL hk dX10_init_132 fl_10_32 h0 ?_
  refine ow_init (i := m) (Ar := [.ref tp]) (cj := 7) hL hk (by rw [List.length_append, hA]; exact Nat.lt_succ_self _) dX10_init_135 mi_10_62 rfl rfl (c_X7 (n := n + (m + 1)) (a0 := tp) ((wS_len hL).trans (by rw [List.length_append, hA]; rfl)) (wS_at hL hk (sl_4 hA))) (asX7_len _ _ _ _) (by decide) (by omega) (by show _ + 8 + 345 ≤ _; omega) (Nat.le_of_ble_eq_true rfl) ?_
  refine ow_A (sl_2 hA) ?_
  refine ow_putF hL hk dX10_init_138 fl_10_69 rfl rfl rfl rfl rfl (by rw [hfs]; decide) ?_
  exact nw_cs (by omega) (by show sn + 8 + 345 = _; omega) kk
theorem b10_141 {κ : eg_K} {b : Nat} {L : List va_E} {k n m : Nat} {As : List va_E} {fs : List Value} (hL : L.length = n) (hk : k < n) (hA : As.length = m) (hfs : fs.length = 15) {tp : Nat} (h0 : fs[3]? = some (.ref tp)) {Qc : Array Value → State → Outcome → State → Prop} {mc ms cn sn : Nat} (hc : cn + 40 ≤ mc) (hs : sn + 353 ≤ ms) (kk : eg_N κ b mtX10_init 3 mc ms Qc 156 [(0, .ref (b + k))] [] (wS L k (As ++ (.inr (7, fsX7 b (n + (m + 1)) tp) :: asX7 κ b (n + (m + 1)) tp)) 10 (fs.set 7 (.ref (b + (n + m))))) (cn + 40) (sn + 353)) : eg_N κ b mtX10_init 3 mc ms Qc 141 [(0, .ref (b + k))] [] (wS L k As 10 fs) cn sn := by
  refine nw_aload 0 dX10_init_141 rfl rfl ?_
  refine ow_new (cj := 7) (m := m) hL hk hA dX10_init_142 ck_10_60 (by omega) (by show _ + 8 ≤ _; omega) ?_
  refine nw_dup dX10_init_145 rfl ?_
  refine nw_aload 0 dX10_init_146 rfl rfl ?_
  refine ow_get (v := .ref tp) hL hk dX10_init_147 fl_10_32 h0 ?_
  refine ow_init (i := m) (Ar := [.ref tp]) (cj := 7) hL hk (by rw [List.length_append, hA]; exact Nat.lt_succ_self _) dX10_init_150 mi_10_62 rfl rfl (c_X7 (n := n + (m + 1)) (a0 := tp) ((wS_len hL).trans (by rw [List.length_append, hA]; rfl)) (wS_at hL hk (sl_4 hA))) (asX7_len _ _ _ _) (by decide) (by omega) (by show _ + 8 + 345 ≤ _; omega) (Nat.le_of_ble_eq_true rfl) ?_
  refine ow_A (sl_2 hA) ?_
  refine ow_putF hL hk dX10_init_153 fl_10_72 rfl rfl rfl rfl rfl (by rw [hfs]; decide) ?_
  exact nw_cs (by omega) (by show sn + 8 + 345 = _; omega) kk
theorem b10_156 {κ : eg_K} {b : Nat} {L : List va_E} {k n m : Nat} {As : List va_E} {fs : List Value} (hL : L.length = n) (hk : k < n) (hA : As.length = m) (hfs : fs.length = 15) {tp : Nat} (h0 : fs[3]? = some (.ref tp)) {Qc : Array Value → State → Outcome → State → Prop} {mc ms cn sn : Nat} (hc : cn + 40 ≤ mc) (hs : sn + 353 ≤ ms) (kk : eg_N κ b mtX10_init 3 mc ms Qc 171 [(0, .ref (b + k))] [] (wS L k (As ++ (.inr (7, fsX7 b (n + (m + 1)) tp) :: asX7 κ b (n + (m + 1)) tp)) 10 (fs.set 9 (.ref (b + (n + m))))) (cn + 40) (sn + 353)) : eg_N κ b mtX10_init 3 mc ms Qc 156 [(0, .ref (b + k))] [] (wS L k As 10 fs) cn sn := by
  refine nw_aload 0 dX10_init_156 rfl rfl ?_
  refine ow_new (cj := 7) (m := m) hL hk hA dX10_init_157 ck_10_60 (by omega) (by show _ + 8 ≤ _; omega) ?_
  refine nw_dup dX10_init_160 rfl ?_
  refine nw_aload 0 dX10_init_161 rfl rfl ?_
  refine ow_get (v := .ref tp) hL hk dX10_init_162 fl_10_32 h0 ?_
  refine ow_init (i := m) (Ar := [.ref tp]) (cj := 7) hL hk (by rw [List.length_append, hA]; exact Nat.lt_succ_self _) dX10_init_165 mi_10_62 rfl rfl (c_X7 (n := n + (m + 1)) (a0 := tp) ((wS_len hL).trans (by rw [List.length_append, hA]; rfl)) (wS_at hL hk (sl_4 hA))) (asX7_len _ _ _ _) (by decide) (by omega) (by show _ + 8 + 345 ≤ _; omega) (Nat.le_of_ble_eq_true rfl) ?_
  refine ow_A (sl_2 hA) ?_
  refine ow_putF hL hk dX10_init_168 fl_10_75 rfl rfl rfl rfl rfl (by rw [hfs]; decide) ?_
  exact nw_cs (by omega) (by show sn + 8 + 345 = _; omega) kk
/-! the whole: its cells in the order in which they are made -/
def q1 (κ : eg_K) : List va_E := [] ++ [.inl (kA κ 1, 800, .inl (fun _ => 0))]
def q2 (κ : eg_K) (b n : Nat) : List va_E := q1 κ ++ (.inr (6, fsX6 b (n + (1 + 2)) (b + (n + (1 + 1)))) :: .inr (9, fsX9 b (n + (1 + 2)) (b + (n + 0))) :: asX6 κ b (n + (1 + 2)) (b + (n + (1 + 1))))
def q3 (κ : eg_K) (b n : Nat) : List va_E := q2 κ b n ++ (.inr (5, fsX5 b (n + (4 + 1))) :: asX5 κ b (n + (4 + 1)))
def q4 (κ : eg_K) (b n : Nat) : List va_E := q3 κ b n ++ (.inr (5, fsX5 b (n + (52 + 1))) :: asX5 κ b (n + (52 + 1)))
def q5 (κ : eg_K) (b n : Nat) : List va_E := q4 κ b n ++ [.inl (kA κ 0, 60, .inl (fun _ => 0))]
def q6 (κ : eg_K) (b n : Nat) : List va_E := q5 κ b n ++ (.inr (8, fsX8 b (n + (101 + 1))) :: asX8 κ b (n + (101 + 1)))
def q7 (κ : eg_K) (b n : Nat) : List va_E := q6 κ b n ++ [.inl (kA κ 0, 5, .inl (fun _ => 0))]
def q8 (κ : eg_K) (b n : Nat) : List va_E := q7 κ b n ++ [.inl (kA κ 0, 5, .inl (fun _ => 0))]
def tld0 : Nat → Int32 := upd (upd (upd (fun _ => 0) 0 (-1)) 1 (-1)) 2 (-1)
def q9 (κ : eg_K) (b n : Nat) : List va_E := ((q8 κ b n).set 4 (.inr (5, (fsX5 b (n + (4 + 1))).set 6 (.int 3600)))).set 10 (inA κ 3 tld0)
def qa (κ : eg_K) (b n : Nat) : List va_E := ((q9 κ b n).set 52 (.inr (5, (fsX5 b (n + (52 + 1))).set 6 (.int 3600)))).set 58 (inA κ 3 tld0)
def qb (κ : eg_K) (b n : Nat) : List va_E := (qa κ b n).set 101 (.inr (8, (fsX8 b (n + (101 + 1))).set 1 (.int (-1))))
def qc (κ : eg_K) (b n : Nat) : List va_E := qb κ b n ++ (.inr (7, fsX7 b (n + (109 + 1)) (b + (n + 4))) :: asX7 κ b (n + (109 + 1)) (b + (n + 4)))
def qd (κ : eg_K) (b n : Nat) : List va_E := qc κ b n ++ (.inr (7, fsX7 b (n + (149 + 1)) (b + (n + 4))) :: asX7 κ b (n + (149 + 1)) (b + (n + 4)))
def qe (κ : eg_K) (b n : Nat) : List va_E := qd κ b n ++ (.inr (7, fsX7 b (n + (189 + 1)) (b + (n + 4))) :: asX7 κ b (n + (189 + 1)) (b + (n + 4)))
def qf (κ : eg_K) (b n : Nat) : List va_E := qe κ b n ++ (.inr (7, fsX7 b (n + (229 + 1)) (b + (n + 4))) :: asX7 κ b (n + (229 + 1)) (b + (n + 4)))
def fsX10 (b n : Nat) : List Value := [.ref (b + (n + 0)), .int 0, .ref (b + (n + 1)), .ref (b + (n + 4)), .ref (b + (n + 52)), .ref (b + (n + 109)), .ref (b + (n + 149)), .ref (b + (n + 189)), .int 0, .ref (b + (n + 229)), .ref (b + (n + 100)), .int 0, .ref (b + (n + 101)), .ref (b + (n + 107)), .ref (b + (n + 108))]
theorem q2_l (κ : eg_K) (b n : Nat) : (q2 κ b n).length = 4 := rfl
theorem q3_l (κ : eg_K) (b n : Nat) : (q3 κ b n).length = 52 := by unfold q3; rw [List.length_append, q2_l, List.length_cons, asX5_len]
theorem q4_l (κ : eg_K) (b n : Nat) : (q4 κ b n).length = 100 := by unfold q4; rw [List.length_append, q3_l, List.length_cons, asX5_len]
theorem q5_l (κ : eg_K) (b n : Nat) : (q5 κ b n).length = 101 := by unfold q5; rw [List.length_append, q4_l]; rfl
theorem q6_l (κ : eg_K) (b n : Nat) : (q6 κ b n).length = 107 := by unfold q6; rw [List.length_append, q5_l]; rfl
theorem q7_l (κ : eg_K) (b n : Nat) : (q7 κ b n).length = 108 := by unfold q7; rw [List.length_append, q6_l]; rfl
theorem q8_l (κ : eg_K) (b n : Nat) : (q8 κ b n).length = 109 := by unfold q8; rw [List.length_append, q7_l]; rfl
theorem qb_l (κ : eg_K) (b n : Nat) : (qb κ b n).length = 109 := by unfold qb qa q9; rw [List.length_set, List.length_set, List.length_set, List.length_set, List.length_set, q8_l]
theorem qc_l (κ : eg_K) (b n : Nat) : (qc κ b n).length = 149 := by unfold qc; rw [List.length_append, qb_l, List.length_cons, asX7_len]
theorem qd_l (κ : eg_K) (b n : Nat) : (qd κ b n).length = 189 := by unfold qd; rw [List.length_append, qc_l, List.length_cons, asX7_len]
theorem qe_l (κ : eg_K) (b n : Nat) : (qe κ b n).length = 229 := by unfold qe; rw [List.length_append, qd_l, List.length_cons, asX7_len]
theorem qf_l (κ : eg_K) (b n : Nat) : (qf κ b n).length = 269 := by unfold qf; rw [List.length_append, qe_l, List.length_cons, asX7_len]
/-- what stands early stands also behind -/
theorem q_up {X Y : List va_E} {i : Nat} {e : va_E} (h : X[i]? = some e) : (X ++ Y)[i]? = some e := by
  rw [List.getElem?_append_left (List.getElem?_eq_some_iff.mp h).1]
  exact h
theorem q_mid {X Y : List va_E} {m i : Nat} {e : va_E} (hm : X.length = m) (h : Y[i]? = some e) : (X ++ Y)[m + i]? = some e := by
  rw [List.getElem?_append_right (by omega), hm, Nat.add_sub_cancel_left]
  exact h
theorem q3_8 {κ : eg_K} {b n i : Nat} {e : va_E} (h : (q3 κ b n)[i]? = some e) : (q8 κ b n)[i]? = some e := q_up (q_up (q_up (q_up (q_up h))))
theorem q4_8 {κ : eg_K} {b n i : Nat} {e : va_E} (h : (q4 κ b n)[i]? = some e) : (q8 κ b n)[i]? = some e := q_up (q_up (q_up (q_up h)))
theorem p3_4 (κ : eg_K) (b n : Nat) : (q3 κ b n)[4]? = some (.inr (5, fsX5 b (n + (4 + 1)))) := q_mid (m := 4) (i := 0) (q2_l κ b n) rfl
theorem p3_10 (κ : eg_K) (b n : Nat) : (q3 κ b n)[10]? = some (inA κ 3 (fun _ => 0)) := q_mid (m := 4) (i := 6) (q2_l κ b n) rfl
theorem p3_11 (κ : eg_K) (b n : Nat) : (q3 κ b n)[11]? = some (.inr (3, fsX3 b (n + (4 + 1) + 7))) := q_mid (m := 4) (i := 7) (q2_l κ b n) rfl
theorem p4_52 (κ : eg_K) (b n : Nat) : (q4 κ b n)[52]? = some (.inr (5, fsX5 b (n + (52 + 1)))) := q_mid (m := 52) (i := 0) (q3_l κ b n) rfl
theorem p4_58 (κ : eg_K) (b n : Nat) : (q4 κ b n)[58]? = some (inA κ 3 (fun _ => 0)) := q_mid (m := 52) (i := 6) (q3_l κ b n) rfl
theorem p4_59 (κ : eg_K) (b n : Nat) : (q4 κ b n)[59]? = some (.inr (3, fsX3 b (n + (52 + 1) + 7))) := q_mid (m := 52) (i := 7) (q3_l κ b n) rfl
theorem p6_101 (κ : eg_K) (b n : Nat) : (q6 κ b n)[101]? = some (.inr (8, fsX8 b (n + (101 + 1)))) := q_mid (m := 101) (i := 0) (q5_l κ b n) rfl
theorem c_X10 {κ : eg_K} {b : Nat} {L : List va_E} {k n : Nat} (hL : L.length = n) (he : L[k]? = some (.inr (10, eg_d0 10))) : eg_X κ b mtX10_init 3 269 3333 [.ref (b + k)] L (wS L k (qf κ b n) 10 (fsX10 b n)) := by
  refine ow_of hL he rfl (Nat.le_of_ble_eq_true rfl) (fun hk => ?_)
  refine nw_aload 0 dX10_init_0 rfl rfl ?_
  refine nw_obj dX10_init_1 oi_10_5 (by decide) ?_
  refine b10_4 (m := 0) hL hk rfl rfl (Nat.le_of_ble_eq_true rfl) (Nat.le_of_ble_eq_true rfl) ?_
  refine ow_A (As1 := q1 κ) rfl ?_
  refine b10_13 (m := 1) (tp := b + (n + 0)) hL hk rfl rfl rfl (Nat.le_of_ble_eq_true rfl) (Nat.le_of_ble_eq_true rfl) ?_
  refine ow_A (As1 := q2 κ b n) rfl ?_
  refine b10_35 (m := 4) hL hk (q2_l κ b n) rfl (Nat.le_of_ble_eq_true rfl) (Nat.le_of_ble_eq_true rfl) ?_
  refine ow_A (As1 := q3 κ b n) rfl ?_
  refine b10_46 (m := 52) hL hk (q3_l κ b n) rfl (Nat.le_of_ble_eq_true rfl) (Nat.le_of_ble_eq_true rfl) ?_
  refine ow_A (As1 := q4 κ b n) rfl ?_
  refine b10_57 (m := 100) hL hk (q4_l κ b n) rfl (Nat.le_of_ble_eq_true rfl) (Nat.le_of_ble_eq_true rfl) ?_
  refine ow_A (As1 := q5 κ b n) rfl ?_
  refine b10_65 (m := 101) hL hk (q5_l κ b n) rfl (Nat.le_of_ble_eq_true rfl) (Nat.le_of_ble_eq_true rfl) ?_
  refine ow_A (As1 := q6 κ b n) rfl ?_
  refine b10_76 (m := 107) hL hk (q6_l κ b n) rfl (Nat.le_of_ble_eq_true rfl) (Nat.le_of_ble_eq_true rfl) ?_
  refine ow_A (As1 := q7 κ b n) rfl ?_
  refine b10_83 (m := 108) hL hk (q7_l κ b n) rfl (Nat.le_of_ble_eq_true rfl) (Nat.le_of_ble_eq_true rfl) ?_
  refine ow_A (As1 := q8 κ b n) rfl ?_
  refine b10_90 (m := 109) (i := 4) (q := 10) (r := 11) hL hk (q8_l κ b n) rfl rfl (q3_8 (p3_4 κ b n)) (fun j hj => by rcases hj with z | z | z | z | z <;> rw [z] <;> rfl) (Nat.le_of_ble_eq_true rfl) rfl rfl (q3_8 (p3_10 κ b n)) (q3_8 (p3_11 κ b n)) rfl rfl (by decide) (by decide) (by decide) (Nat.le_of_ble_eq_true rfl) (Nat.le_of_ble_eq_true rfl) ?_
  refine ow_A (As1 := q9 κ b n) rfl ?_
  refine b10_97 (m := 109) (i := 52) (q := 58) (r := 59) hL hk (by unfold q9; rw [List.length_set, List.length_set, q8_l]) rfl rfl (by unfold q9; rw [List.getElem?_set_ne (by decide), List.getElem?_set_ne (by decide)]; exact q4_8 (p4_52 κ b n)) (fun j hj => by rcases hj with z | z | z | z | z <;> rw [z] <;> rfl) (Nat.le_of_ble_eq_true rfl) rfl rfl (by unfold q9; rw [List.getElem?_set_ne (by decide), List.getElem?_set_ne (by decide)]; exact q4_8 (p4_58 κ b n)) (by unfold q9; rw [List.getElem?_set_ne (by decide), List.getElem?_set_ne (by decide)]; exact q4_8 (p4_59 κ b n)) rfl rfl (by decide) (by decide) (by decide) (Nat.le_of_ble_eq_true rfl) (Nat.le_of_ble_eq_true rfl) ?_
  refine ow_A (As1 := qa κ b n) rfl ?_
  refine b10_104 (m := 109) (i := 101) hL hk (by unfold qa q9; rw [List.length_set, List.length_set, List.length_set, List.length_set, q8_l]) rfl rfl (by unfold qa q9; rw [List.getElem?_set_ne (by decide), List.getElem?_set_ne (by decide), List.getElem?_set_ne (by decide), List.getElem?_set_ne (by decide)]; exact q_up (q_up (p6_101 κ b n))) rfl (Nat.le_of_ble_eq_true rfl) (Nat.le_of_ble_eq_true rfl) (Nat.le_of_ble_eq_true rfl) ?_
  refine ow_A (As1 := qb κ b n) rfl ?_
  refine b10_111 (m := 109) (tp := b + (n + 4)) hL hk (qb_l κ b n) rfl rfl (Nat.le_of_ble_eq_true rfl) (Nat.le_of_ble_eq_true rfl) ?_
  refine ow_A (As1 := qc κ b n) rfl ?_
  refine b10_126 (m := 149) (tp := b + (n + 4)) hL hk (qc_l κ b n) rfl rfl (Nat.le_of_ble_eq_true rfl) (Nat.le_of_ble_eq_true rfl) ?_
  refine ow_A (As1 := qd κ b n) rfl ?_
  refine b10_141 (m := 189) (tp := b + (n + 4)) hL hk (qd_l κ b n) rfl rfl (Nat.le_of_ble_eq_true rfl) (Nat.le_of_ble_eq_true rfl) ?_
  refine ow_A (As1 := qe κ b n) rfl ?_
  refine b10_156 (m := 229) (tp := b + (n + 4)) hL hk (qe_l κ b n) rfl rfl (Nat.le_of_ble_eq_true rfl) (Nat.le_of_ble_eq_true rfl) ?_
  refine ow_A (As1 := qf κ b n) rfl ?_
  exact ow_ret hL hk dX10_init_171 rfl (Nat.le_of_ble_eq_true rfl) (Nat.le_of_ble_eq_true rfl) rfl rfl
