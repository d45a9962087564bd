/-! THE SMALL MAKERS -/
theorem dX1_init_0 : decode cX1_init 0 = .ok (.aload_n 0, 1) := by decide +kernel
theorem dX1_init_1 : decode cX1_init 1 = .ok (.invokespecial 1, 3) := by decide +kernel
theorem dX1_init_4 : decode cX1_init 4 = .ok (.return_, 1) := by decide +kernel
theorem dX4_init_0 : decode cX4_init 0 = .ok (.aload_n 0, 1) := by decide +kernel
theorem dX4_init_1 : decode cX4_init 1 = .ok (.invokespecial 3, 3) := by decide +kernel
theorem dX4_init_4 : decode cX4_init 4 = .ok (.return_, 1) := by decide +kernel
theorem dX0_init_0 : decode cX0_init 0 = .ok (.aload_n 0, 1) := by decide +kernel
theorem dX0_init_1 : decode cX0_init 1 = .ok (.invokespecial 3, 3) := by decide +kernel
theorem dX0_init_4 : decode cX0_init 4 = .ok (.aload_n 0, 1) := by decide +kernel
theorem dX0_init_5 : decode cX0_init 5 = .ok (.iconst 5, 1) := by decide +kernel
theorem dX0_init_6 : decode cX0_init 6 = .ok (.newarray .int, 2) := by decide +kernel
theorem dX0_init_8 : decode cX0_init 8 = .ok (.putfield 9, 3) := by decide +kernel
theorem dX0_init_11 : decode cX0_init 11 = .ok (.return_, 1) := by decide +kernel
theorem dX2_init_0 : decode cX2_init 0 = .ok (.aload_n 0, 1) := by decide +kernel
theorem dX2_init_1 : decode cX2_init 1 = .ok (.invokespecial 3, 3) := by decide +kernel
theorem dX2_init_4 : decode cX2_init 4 = .ok (.aload_n 0, 1) := by decide +kernel
theorem dX2_init_5 : decode cX2_init 5 = .ok (.iconst 5, 1) := by decide +kernel
theorem dX2_init_6 : decode cX2_init 6 = .ok (.newarray .int, 2) := by decide +kernel
theorem dX2_init_8 : decode cX2_init 8 = .ok (.putfield 9, 3) := by decide +kernel
theorem dX2_init_11 : decode cX2_init 11 = .ok (.return_, 1) := by decide +kernel
theorem dX3_init_0 : decode cX3_init 0 = .ok (.aload_n 0, 1) := by decide +kernel
theorem dX3_init_1 : decode cX3_init 1 = .ok (.invokespecial 3, 3) := by decide +kernel
theorem dX3_init_4 : decode cX3_init 4 = .ok (.aload_n 0, 1) := by decide +kernel
theorem dX3_init_5 : decode cX3_init 5 = .ok (.bipush 64, 2) := by decide +kernel
theorem dX3_init_7 : decode cX3_init 7 = .ok (.newarray .int, 2) := by decide +kernel
theorem dX3_init_9 : decode cX3_init 9 = .ok (.putfield 9, 3) := by decide +kernel
theorem dX3_init_12 : decode cX3_init 12 = .ok (.aload_n 0, 1) := by decide +kernel
theorem dX3_init_13 : decode cX3_init 13 = .ok (.bipush 7, 2) := by decide +kernel
theorem dX3_init_15 : decode cX3_init 15 = .ok (.newarray .int, 2) := by decide +kernel
theorem dX3_init_17 : decode cX3_init 17 = .ok (.putfield 15, 3) := by decide +kernel
theorem dX3_init_20 : decode cX3_init 20 = .ok (.aload_n 0, 1) := by decide +kernel
theorem dX3_init_21 : decode cX3_init 21 = .ok (.bipush 7, 2) := by decide +kernel
theorem dX3_init_23 : decode cX3_init 23 = .ok (.newarray .int, 2) := by decide +kernel
theorem dX3_init_25 : decode cX3_init 25 = .ok (.putfield 18, 3) := by decide +kernel
theorem dX3_init_28 : decode cX3_init 28 = .ok (.aload_n 0, 1) := by decide +kernel
theorem dX3_init_29 : decode cX3_init 29 = .ok (.bipush 8, 2) := by decide +kernel
theorem dX3_init_31 : decode cX3_init 31 = .ok (.newarray .long, 2) := by decide +kernel
theorem dX3_init_33 : decode cX3_init 33 = .ok (.putfield 21, 3) := by decide +kernel
theorem dX3_init_36 : decode cX3_init 36 = .ok (.aload_n 0, 1) := by decide +kernel
theorem dX3_init_37 : decode cX3_init 37 = .ok (.bipush 64, 2) := by decide +kernel
theorem dX3_init_39 : decode cX3_init 39 = .ok (.newarray .long, 2) := by decide +kernel
theorem dX3_init_41 : decode cX3_init 41 = .ok (.putfield 25, 3) := by decide +kernel
theorem dX3_init_44 : decode cX3_init 44 = .ok (.return_, 1) := by decide +kernel
theorem dX8_init_0 : decode cX8_init 0 = .ok (.aload_n 0, 1) := by decide +kernel
theorem dX8_init_1 : decode cX8_init 1 = .ok (.invokespecial 3, 3) := by decide +kernel
theorem dX8_init_4 : decode cX8_init 4 = .ok (.aload_n 0, 1) := by decide +kernel
theorem dX8_init_5 : decode cX8_init 5 = .ok (.bipush 40, 2) := by decide +kernel
theorem dX8_init_7 : decode cX8_init 7 = .ok (.newarray .int, 2) := by decide +kernel
theorem dX8_init_9 : decode cX8_init 9 = .ok (.putfield 9, 3) := by decide +kernel
theorem dX8_init_12 : decode cX8_init 12 = .ok (.aload_n 0, 1) := by decide +kernel
theorem dX8_init_13 : decode cX8_init 13 = .ok (.bipush 40, 2) := by decide +kernel
theorem dX8_init_15 : decode cX8_init 15 = .ok (.newarray .int, 2) := by decide +kernel
theorem dX8_init_17 : decode cX8_init 17 = .ok (.putfield 15, 3) := by decide +kernel
theorem dX8_init_20 : decode cX8_init 20 = .ok (.aload_n 0, 1) := by decide +kernel
theorem dX8_init_21 : decode cX8_init 21 = .ok (.bipush 40, 2) := by decide +kernel
theorem dX8_init_23 : decode cX8_init 23 = .ok (.newarray .int, 2) := by decide +kernel
theorem dX8_init_25 : decode cX8_init 25 = .ok (.putfield 18, 3) := by decide +kernel
theorem dX8_init_28 : decode cX8_init 28 = .ok (.aload_n 0, 1) := by decide +kernel
theorem dX8_init_29 : decode cX8_init 29 = .ok (.bipush 40, 2) := by decide +kernel
theorem dX8_init_31 : decode cX8_init 31 = .ok (.newarray .int, 2) := by decide +kernel
theorem dX8_init_33 : decode cX8_init 33 = .ok (.putfield 21, 3) := by decide +kernel
theorem dX8_init_36 : decode cX8_init 36 = .ok (.aload_n 0, 1) := by decide +kernel
theorem dX8_init_37 : decode cX8_init 37 = .ok (.bipush 40, 2) := by decide +kernel
theorem dX8_init_39 : decode cX8_init 39 = .ok (.newarray .boolean, 2) := by decide +kernel
theorem dX8_init_41 : decode cX8_init 41 = .ok (.putfield 24, 3) := by decide +kernel
theorem dX8_init_44 : decode cX8_init 44 = .ok (.return_, 1) := by decide +kernel
theorem dX9_init_0 : decode cX9_init 0 = .ok (.aload_n 0, 1) := by decide +kernel
theorem dX9_init_1 : decode cX9_init 1 = .ok (.invokespecial 3, 3) := by decide +kernel
theorem dX9_init_4 : decode cX9_init 4 = .ok (.aload_n 0, 1) := by decide +kernel
theorem dX9_init_5 : decode cX9_init 5 = .ok (.aload_n 1, 1) := by decide +kernel
theorem dX9_init_6 : decode cX9_init 6 = .ok (.putfield 9, 3) := by decide +kernel
theorem dX9_init_9 : decode cX9_init 9 = .ok (.return_, 1) := by decide +kernel
theorem dX6_init_0 : decode cX6_init 0 = .ok (.aload_n 0, 1) := by decide +kernel
theorem dX6_init_1 : decode cX6_init 1 = .ok (.invokespecial 3, 3) := by decide +kernel
theorem dX6_init_4 : decode cX6_init 4 = .ok (.aload_n 0, 1) := by decide +kernel
theorem dX6_init_5 : decode cX6_init 5 = .ok (.iconst (-1), 1) := by decide +kernel
theorem dX6_init_6 : decode cX6_init 6 = .ok (.putfield 9, 3) := by decide +kernel
theorem dX6_init_9 : decode cX6_init 9 = .ok (.aload_n 0, 1) := by decide +kernel
theorem dX6_init_10 : decode cX6_init 10 = .ok (.bipush 72, 2) := by decide +kernel
theorem dX6_init_12 : decode cX6_init 12 = .ok (.newarray .int, 2) := by decide +kernel
theorem dX6_init_14 : decode cX6_init 14 = .ok (.putfield 15, 3) := by decide +kernel
theorem dX6_init_17 : decode cX6_init 17 = .ok (.aload_n 0, 1) := by decide +kernel
theorem dX6_init_18 : decode cX6_init 18 = .ok (.aload_n 1, 1) := by decide +kernel
theorem dX6_init_19 : decode cX6_init 19 = .ok (.putfield 19, 3) := by decide +kernel
theorem dX6_init_22 : decode cX6_init 22 = .ok (.return_, 1) := by decide +kernel
theorem oi_1_1 : eg_OI RX1 1 := ⟨(eg_t1 (i := 167) (by decide +kernel) rfl), (eg_t1 (i := 30) (by decide +kernel) rfl), (eg_t1 (i := 31) (by decide +kernel) rfl)⟩
theorem oi_4_3 : eg_OI RX4 3 := ⟨(eg_t2 (i := 128) (by decide +kernel) rfl), (eg_t1 (i := 30) (by decide +kernel) rfl), (eg_t1 (i := 31) (by decide +kernel) rfl)⟩
theorem oi_0_3 : eg_OI RX0 3 := ⟨(eg_t1 (i := 214) (by decide +kernel) rfl), (eg_t1 (i := 30) (by decide +kernel) rfl), (eg_t1 (i := 31) (by decide +kernel) rfl)⟩
theorem ac_int : Cond.arrayClass FieldType.int ∈ eg_T := (eg_t1 (i := 121) (by decide +kernel) rfl)
theorem oi_2_3 : eg_OI RX2 3 := ⟨(eg_t2 (i := 169) (by decide +kernel) rfl), (eg_t1 (i := 30) (by decide +kernel) rfl), (eg_t1 (i := 31) (by decide +kernel) rfl)⟩
theorem oi_3_3 : eg_OI RX3 3 := ⟨(eg_t1 (i := 137) (by decide +kernel) rfl), (eg_t1 (i := 30) (by decide +kernel) rfl), (eg_t1 (i := 31) (by decide +kernel) rfl)⟩
theorem ac_long : Cond.arrayClass FieldType.long ∈ eg_T := (eg_t1 (i := 162) (by decide +kernel) rfl)
theorem oi_8_3 : eg_OI RX8 3 := ⟨(eg_t2 (i := 76) (by decide +kernel) rfl), (eg_t1 (i := 30) (by decide +kernel) rfl), (eg_t1 (i := 31) (by decide +kernel) rfl)⟩
theorem ac_boolean : Cond.arrayClass FieldType.boolean ∈ eg_T := (eg_t2 (i := 101) (by decide +kernel) rfl)
theorem oi_9_3 : eg_OI RX9 3 := ⟨(eg_t1 (i := 39) (by decide +kernel) rfl), (eg_t1 (i := 30) (by decide +kernel) rfl), (eg_t1 (i := 31) (by decide +kernel) rfl)⟩
theorem oi_6_3 : eg_OI RX6 3 := ⟨(eg_t1 (i := 71) (by decide +kernel) rfl), (eg_t1 (i := 30) (by decide +kernel) rfl), (eg_t1 (i := 31) (by decide +kernel) rfl)⟩
def asX1 (κ : eg_K) (b n : Nat) : List va_E := []
def fsX1 (b n : Nat) : List Value := [.int 0, .int 0, .int 0, .int 0, .int 0, .int 0, .int 0]
set_option maxRecDepth 20000 in
theorem c_X1 {κ : eg_K} {b : Nat} {L : List va_E} {k n : Nat}  (hL : L.length = n) (he : L[k]? = some (.inr (1, eg_d0 1))) : eg_X κ b mtX1_init 1 0 0 [.ref (b + k)] L (wS L k (asX1 κ b n ) 1 (fsX1 b n )) := by
  refine ow_of hL he rfl (Nat.le_of_ble_eq_true rfl) (fun hk => ?_)
  refine nw_aload 0 dX1_init_0 rfl rfl ?_
  refine nw_obj dX1_init_1 oi_1_1 (by decide) ?_
  exact ow_ret hL hk dX1_init_4 rfl (Nat.le_of_ble_eq_true rfl) (Nat.le_of_ble_eq_true rfl) rfl rfl
def asX4 (κ : eg_K) (b n : Nat) : List va_E := []
def fsX4 (b n : Nat) : List Value := [.int 0, .int 0, .int 0, .int 0, .int 0, .int 0, .int 0]
set_option maxRecDepth 20000 in
theorem c_X4 {κ : eg_K} {b : Nat} {L : List va_E} {k n : Nat}  (hL : L.length = n) (he : L[k]? = some (.inr (4, eg_d0 4))) : eg_X κ b mtX4_init 1 0 0 [.ref (b + k)] L (wS L k (asX4 κ b n ) 4 (fsX4 b n )) := by
  refine ow_of hL he rfl (Nat.le_of_ble_eq_true rfl) (fun hk => ?_)
  refine nw_aload 0 dX4_init_0 rfl rfl ?_
  refine nw_obj dX4_init_1 oi_4_3 (by decide) ?_
  exact ow_ret hL hk dX4_init_4 rfl (Nat.le_of_ble_eq_true rfl) (Nat.le_of_ble_eq_true rfl) rfl rfl
def asX0 (κ : eg_K) (b n : Nat) : List va_E := [.inl (kA κ 0, 5, .inl (fun _ => 0))]
def fsX0 (b n : Nat) : List Value := [.int 0, .int 0, .int 0, .ref (b + (n + 0))]
set_option maxRecDepth 20000 in
theorem c_X0 {κ : eg_K} {b : Nat} {L : List va_E} {k n : Nat}  (hL : L.length = n) (he : L[k]? = some (.inr (0, eg_d0 0))) : eg_X κ b mtX0_init 1 1 5 [.ref (b + k)] L (wS L k (asX0 κ b n ) 0 (fsX0 b n )) := by
  refine ow_of hL he rfl (Nat.le_of_ble_eq_true rfl) (fun hk => ?_)
  refine nw_aload 0 dX0_init_0 rfl rfl ?_
  refine nw_obj dX0_init_1 oi_0_3 (by decide) ?_
  refine nw_aload 0 dX0_init_4 rfl rfl ?_
  refine nw_iconst (v := 5) dX0_init_5 (by decide) ?_
  refine ow_arr (t := 0) (ty := .int) (a0 := (5, .inl (fun _ => 0))) (N' := 5) (m := 0) hL hk rfl dX0_init_6 rfl ac_int rfl (fun _ h => by cases h) (fun _ => rfl) (by decide) (by decide) (by decide) (Nat.le_of_ble_eq_true rfl) (Nat.le_of_ble_eq_true rfl) ?_
  refine ow_putF hL hk dX0_init_8 fl_0_9 rfl rfl rfl rfl rfl (Nat.le_of_ble_eq_true rfl) ?_
  exact ow_ret hL hk dX0_init_11 rfl (Nat.le_of_ble_eq_true rfl) (Nat.le_of_ble_eq_true rfl) rfl rfl
def asX2 (κ : eg_K) (b n : Nat) : List va_E := [.inl (kA κ 0, 5, .inl (fun _ => 0))]
def fsX2 (b n : Nat) : List Value := [.int 0, .int 0, .int 0, .ref (b + (n + 0)), .int 0, .int 0, .int 0, .int 0, .int 0, .int 0, .int 0, .int 0, .int 0]
set_option maxRecDepth 20000 in
theorem c_X2 {κ : eg_K} {b : Nat} {L : List va_E} {k n : Nat}  (hL : L.length = n) (he : L[k]? = some (.inr (2, eg_d0 2))) : eg_X κ b mtX2_init 1 1 5 [.ref (b + k)] L (wS L k (asX2 κ b n ) 2 (fsX2 b n )) := by
  refine ow_of hL he rfl (Nat.le_of_ble_eq_true rfl) (fun hk => ?_)
  refine nw_aload 0 dX2_init_0 rfl rfl ?_
  refine nw_obj dX2_init_1 oi_2_3 (by decide) ?_
  refine nw_aload 0 dX2_init_4 rfl rfl ?_
  refine nw_iconst (v := 5) dX2_init_5 (by decide) ?_
  refine ow_arr (t := 0) (ty := .int) (a0 := (5, .inl (fun _ => 0))) (N' := 5) (m := 0) hL hk rfl dX2_init_6 rfl ac_int rfl (fun _ h => by cases h) (fun _ => rfl) (by decide) (by decide) (by decide) (Nat.le_of_ble_eq_true rfl) (Nat.le_of_ble_eq_true rfl) ?_
  refine ow_putF hL hk dX2_init_8 fl_2_9 rfl rfl rfl rfl rfl (Nat.le_of_ble_eq_true rfl) ?_
  exact ow_ret hL hk dX2_init_11 rfl (Nat.le_of_ble_eq_true rfl) (Nat.le_of_ble_eq_true rfl) rfl rfl
def asX3 (κ : eg_K) (b n : Nat) : List va_E := [.inl (kA κ 0, 64, .inl (fun _ => 0)), .inl (kA κ 0, 7, .inl (fun _ => 0)), .inl (kA κ 0, 7, .inl (fun _ => 0)), .inl (kA κ 3, 8, .inr (.inl (fun _ => 0))), .inl (kA κ 3, 64, .inr (.inl (fun _ => 0)))]
def fsX3 (b n : Nat) : List Value := [.ref (b + (n + 0)), .ref (b + (n + 1)), .ref (b + (n + 2)), .int 0, .int 0, .ref (b + (n + 3)), .ref (b + (n + 4))]
set_option maxRecDepth 20000 in
theorem c_X3 {κ : eg_K} {b : Nat} {L : List va_E} {k n : Nat}  (hL : L.length = n) (he : L[k]? = some (.inr (3, eg_d0 3))) : eg_X κ b mtX3_init 1 5 150 [.ref (b + k)] L (wS L k (asX3 κ b n ) 3 (fsX3 b n )) := by
  refine ow_of hL he rfl (Nat.le_of_ble_eq_true rfl) (fun hk => ?_)
  refine nw_aload 0 dX3_init_0 rfl rfl ?_
  refine nw_obj dX3_init_1 oi_3_3 (by decide) ?_
  refine nw_aload 0 dX3_init_4 rfl rfl ?_
  refine nw_bipush (v := 64) dX3_init_5 (by decide) ?_
  refine ow_arr (t := 0) (ty := .int) (a0 := (64, .inl (fun _ => 0))) (N' := 64) (m := 0) hL hk rfl dX3_init_7 rfl ac_int rfl (fun _ h => by cases h) (fun _ => rfl) (by decide) (by decide) (by decide) (Nat.le_of_ble_eq_true rfl) (Nat.le_of_ble_eq_true rfl) ?_
  refine ow_putF hL hk dX3_init_9 fl_3_9 rfl rfl rfl rfl rfl (Nat.le_of_ble_eq_true rfl) ?_
  refine nw_aload 0 dX3_init_12 rfl rfl ?_
  refine nw_bipush (v := 7) dX3_init_13 (by decide) ?_
  refine ow_arr (t := 0) (ty := .int) (a0 := (7, .inl (fun _ => 0))) (N' := 7) (m := 1) hL hk rfl dX3_init_15 rfl ac_int rfl (fun _ h => by cases h) (fun _ => rfl) (by decide) (by decide) (by decide) (Nat.le_of_ble_eq_true rfl) (Nat.le_of_ble_eq_true rfl) ?_
  refine ow_putF hL hk dX3_init_17 fl_3_15 rfl rfl rfl rfl rfl (Nat.le_of_ble_eq_true rfl) ?_
  refine nw_aload 0 dX3_init_20 rfl rfl ?_
  refine nw_bipush (v := 7) dX3_init_21 (by decide) ?_
  refine ow_arr (t := 0) (ty := .int) (a0 := (7, .inl (fun _ => 0))) (N' := 7) (m := 2) hL hk rfl dX3_init_23 rfl ac_int rfl (fun _ h => by cases h) (fun _ => rfl) (by decide) (by decide) (by decide) (Nat.le_of_ble_eq_true rfl) (Nat.le_of_ble_eq_true rfl) ?_
  refine ow_putF hL hk dX3_init_25 fl_3_18 rfl rfl rfl rfl rfl (Nat.le_of_ble_eq_true rfl) ?_
  refine nw_aload 0 dX3_init_28 rfl rfl ?_
  refine nw_bipush (v := 8) dX3_init_29 (by decide) ?_
  refine ow_arr (t := 3) (ty := .long) (a0 := (8, .inr (.inl (fun _ => 0)))) (N' := 8) (m := 3) hL hk rfl dX3_init_31 rfl ac_long rfl (fun _ h => by cases h) (fun _ => rfl) (by decide) (by decide) (by decide) (Nat.le_of_ble_eq_true rfl) (Nat.le_of_ble_eq_true rfl) ?_
  refine ow_putF hL hk dX3_init_33 fl_3_21 rfl rfl rfl rfl rfl (Nat.le_of_ble_eq_true rfl) ?_
  refine nw_aload 0 dX3_init_36 rfl rfl ?_
  refine nw_bipush (v := 64) dX3_init_37 (by decide) ?_
  refine ow_arr (t := 3) (ty := .long) (a0 := (64, .inr (.inl (fun _ => 0)))) (N' := 64) (m := 4) hL hk rfl dX3_init_39 rfl ac_long rfl (fun _ h => by cases h) (fun _ => rfl) (by decide) (by decide) (by decide) (Nat.le_of_ble_eq_true rfl) (Nat.le_of_ble_eq_true rfl) ?_
  refine ow_putF hL hk dX3_init_41 fl_3_25 rfl rfl rfl rfl rfl (Nat.le_of_ble_eq_true rfl) ?_
  exact ow_ret hL hk dX3_init_44 rfl (Nat.le_of_ble_eq_true rfl) (Nat.le_of_ble_eq_true rfl) rfl rfl
def asX8 (κ : eg_K) (b n : Nat) : List va_E := [.inl (kA κ 0, 40, .inl (fun _ => 0)), .inl (kA κ 0, 40, .inl (fun _ => 0)), .inl (kA κ 0, 40, .inl (fun _ => 0)), .inl (kA κ 0, 40, .inl (fun _ => 0)), .inl (kA κ 2, 40, .inl (fun _ => 0))]
def fsX8 (b n : Nat) : List Value := [.int 0, .int 0, .ref (b + (n + 0)), .ref (b + (n + 1)), .ref (b + (n + 2)), .ref (b + (n + 3)), .ref (b + (n + 4))]
set_option maxRecDepth 20000 in
theorem c_X8 {κ : eg_K} {b : Nat} {L : List va_E} {k n : Nat}  (hL : L.length = n) (he : L[k]? = some (.inr (8, eg_d0 8))) : eg_X κ b mtX8_init 1 5 200 [.ref (b + k)] L (wS L k (asX8 κ b n ) 8 (fsX8 b n )) := by
  refine ow_of hL he rfl (Nat.le_of_ble_eq_true rfl) (fun hk => ?_)
  refine nw_aload 0 dX8_init_0 rfl rfl ?_
  refine nw_obj dX8_init_1 oi_8_3 (by decide) ?_
  refine nw_aload 0 dX8_init_4 rfl rfl ?_
  refine nw_bipush (v := 40) dX8_init_5 (by decide) ?_
  refine ow_arr (t := 0) (ty := .int) (a0 := (40, .inl (fun _ => 0))) (N' := 40) (m := 0) hL hk rfl dX8_init_7 rfl ac_int rfl (fun _ h => by cases h) (fun _ => rfl) (by decide) (by decide) (by decide) (Nat.le_of_ble_eq_true rfl) (Nat.le_of_ble_eq_true rfl) ?_
  refine ow_putF hL hk dX8_init_9 fl_8_9 rfl rfl rfl rfl rfl (Nat.le_of_ble_eq_true rfl) ?_
  refine nw_aload 0 dX8_init_12 rfl rfl ?_
  refine nw_bipush (v := 40) dX8_init_13 (by decide) ?_
  refine ow_arr (t := 0) (ty := .int) (a0 := (40, .inl (fun _ => 0))) (N' := 40) (m := 1) hL hk rfl dX8_init_15 rfl ac_int rfl (fun _ h => by cases h) (fun _ => rfl) (by decide) (by decide) (by decide) (Nat.le_of_ble_eq_true rfl) (Nat.le_of_ble_eq_true rfl) ?_
  refine ow_putF hL hk dX8_init_17 fl_8_15 rfl rfl rfl rfl rfl (Nat.le_of_ble_eq_true rfl) ?_
  refine nw_aload 0 dX8_init_20 rfl rfl ?_
  refine nw_bipush (v := 40) dX8_init_21 (by decide) ?_
  refine ow_arr (t := 0) (ty := .int) (a0 := (40, .inl (fun _ => 0))) (N' := 40) (m := 2) hL hk rfl dX8_init_23 rfl ac_int rfl (fun _ h => by cases h) (fun _ => rfl) (by decide) (by decide) (by decide) (Nat.le_of_ble_eq_true rfl) (Nat.le_of_ble_eq_true rfl) ?_
  refine ow_putF hL hk dX8_init_25 fl_8_18 rfl rfl rfl rfl rfl (Nat.le_of_ble_eq_true rfl) ?_
  refine nw_aload 0 dX8_init_28 rfl rfl ?_
  refine nw_bipush (v := 40) dX8_init_29 (by decide) ?_
  refine ow_arr (t := 0) (ty := .int) (a0 := (40, .inl (fun _ => 0))) (N' := 40) (m := 3) hL hk rfl dX8_init_31 rfl ac_int rfl (fun _ h => by cases h) (fun _ => rfl) (by decide) (by decide) (by decide) (Nat.le_of_ble_eq_true rfl) (Nat.le_of_ble_eq_true rfl) ?_
  refine ow_putF hL hk dX8_init_33 fl_8_21 rfl rfl rfl rfl rfl (Nat.le_of_ble_eq_true rfl) ?_
  refine nw_aload 0 dX8_init_36 rfl rfl ?_
  refine nw_bipush (v := 40) dX8_init_37 (by decide) ?_
  refine ow_arr (t := 2) (ty := .boolean) (a0 := (40, .inl (fun _ => 0))) (N' := 40) (m := 4) hL hk rfl dX8_init_39 rfl ac_boolean rfl (fun _ h => by cases h) (fun _ => rfl) (by decide) (by decide) (by decide) (Nat.le_of_ble_eq_true rfl) (Nat.le_of_ble_eq_true rfl) ?_
  refine ow_putF hL hk dX8_init_41 fl_8_24 rfl rfl rfl rfl rfl (Nat.le_of_ble_eq_true rfl) ?_
  exact ow_ret hL hk dX8_init_44 rfl (Nat.le_of_ble_eq_true rfl) (Nat.le_of_ble_eq_true rfl) rfl rfl
def asX9 (κ : eg_K) (b n : Nat) (a0 : Nat): List va_E := []
def fsX9 (b n : Nat) (a0 : Nat): List Value := [.ref (a0), .int 0, .int 0, .int 0, .int 0, .int 0, .int 0]
set_option maxRecDepth 20000 in
theorem c_X9 {κ : eg_K} {b : Nat} {L : List va_E} {k n : Nat} {a0 : Nat} (hL : L.length = n) (he : L[k]? = some (.inr (9, eg_d0 9))) : eg_X κ b mtX9_init 1 0 0 [.ref (b + k), .ref a0] L (wS L k (asX9 κ b n a0) 9 (fsX9 b n a0)) := by
  refine ow_of hL he rfl (Nat.le_of_ble_eq_true rfl) (fun hk => ?_)
  refine nw_aload 0 dX9_init_0 rfl rfl ?_
  refine nw_obj dX9_init_1 oi_9_3 (by decide) ?_
  refine nw_aload 0 dX9_init_4 rfl rfl ?_
  refine nw_aload 1 dX9_init_5 rfl rfl ?_
  refine ow_putF hL hk dX9_init_6 fl_9_9 rfl rfl rfl rfl rfl (Nat.le_of_ble_eq_true rfl) ?_
  exact ow_ret hL hk dX9_init_9 rfl (Nat.le_of_ble_eq_true rfl) (Nat.le_of_ble_eq_true rfl) rfl rfl
def asX6 (κ : eg_K) (b n : Nat) (a0 : Nat): List va_E := [.inl (kA κ 0, 72, .inl (fun _ => 0))]
def fsX6 (b n : Nat) (a0 : Nat): List Value := [.ref (a0), .null, .int 0, .int (-1), .int 0, .int 0, .int 0, .int 0, .int 0, .ref (b + (n + 0)), .int 0, .int 0, .int 0, .int 0, .int 0]
set_option maxRecDepth 20000 in
theorem c_X6 {κ : eg_K} {b : Nat} {L : List va_E} {k n : Nat} {a0 : Nat} (hL : L.length = n) (he : L[k]? = some (.inr (6, eg_d0 6))) : eg_X κ b mtX6_init 1 1 72 [.ref (b + k), .ref a0] L (wS L k (asX6 κ b n a0) 6 (fsX6 b n a0)) := by
  refine ow_of hL he rfl (Nat.le_of_ble_eq_true rfl) (fun hk => ?_)
  refine nw_aload 0 dX6_init_0 rfl rfl ?_
  refine nw_obj dX6_init_1 oi_6_3 (by decide) ?_
  refine nw_aload 0 dX6_init_4 rfl rfl ?_
  refine nw_iconst (v := (-1)) dX6_init_5 (by decide) ?_
  refine ow_put hL hk dX6_init_6 fl_6_9 rfl rfl rfl (Nat.le_of_ble_eq_true rfl) ?_
  refine nw_aload 0 dX6_init_9 rfl rfl ?_
  refine nw_bipush (v := 72) dX6_init_10 (by decide) ?_
  refine ow_arr (t := 0) (ty := .int) (a0 := (72, .inl (fun _ => 0))) (N' := 72) (m := 0) hL hk rfl dX6_init_12 rfl ac_int rfl (fun _ h => by cases h) (fun _ => rfl) (by decide) (by decide) (by decide) (Nat.le_of_ble_eq_true rfl) (Nat.le_of_ble_eq_true rfl) ?_
  refine ow_putF hL hk dX6_init_14 fl_6_15 rfl rfl rfl rfl rfl (Nat.le_of_ble_eq_true rfl) ?_
  refine nw_aload 0 dX6_init_17 rfl rfl ?_
  refine nw_aload 1 dX6_init_18 rfl rfl ?_
  refine ow_putF hL hk dX6_init_19 fl_6_19 rfl rfl rfl rfl rfl (Nat.le_of_ble_eq_true rfl) ?_
  exact ow_ret hL hk dX6_init_22 rfl (Nat.le_of_ble_eq_true rfl) (Nat.le_of_ble_eq_true rfl) rfl rfl
