/-! A TABLE IS MADE -/
theorem dX7_init_0 : decode cX7_init 0 = .ok (.aload_n 0, 1) := by decide +kernel
theorem dX7_init_1 : decode cX7_init 1 = .ok (.invokespecial 3, 3) := by decide +kernel
theorem dX7_init_4 : decode cX7_init 4 = .ok (.aload_n 0, 1) := by decide +kernel
theorem dX7_init_5 : decode cX7_init 5 = .ok (.iconst 5, 1) := by decide +kernel
theorem dX7_init_6 : decode cX7_init 6 = .ok (.newarray .int, 2) := by decide +kernel
theorem dX7_init_8 : decode cX7_init 8 = .ok (.putfield 9, 3) := by decide +kernel
theorem dX7_init_11 : decode cX7_init 11 = .ok (.aload_n 0, 1) := by decide +kernel
theorem dX7_init_12 : decode cX7_init 12 = .ok (.iconst 5, 1) := by decide +kernel
theorem dX7_init_13 : decode cX7_init 13 = .ok (.anewarray 15, 3) := by decide +kernel
theorem dX7_init_16 : decode cX7_init 16 = .ok (.putfield 17, 3) := by decide +kernel
theorem dX7_init_19 : decode cX7_init 19 = .ok (.aload_n 0, 1) := by decide +kernel
theorem dX7_init_20 : decode cX7_init 20 = .ok (.bipush 15, 2) := by decide +kernel
theorem dX7_init_22 : decode cX7_init 22 = .ok (.anewarray 21, 3) := by decide +kernel
theorem dX7_init_25 : decode cX7_init 25 = .ok (.putfield 23, 3) := by decide +kernel
theorem dX7_init_28 : decode cX7_init 28 = .ok (.aload_n 0, 1) := by decide +kernel
theorem dX7_init_29 : decode cX7_init 29 = .ok (.bipush 15, 2) := by decide +kernel
theorem dX7_init_31 : decode cX7_init 31 = .ok (.newarray .int, 2) := by decide +kernel
theorem dX7_init_33 : decode cX7_init 33 = .ok (.putfield 27, 3) := by decide +kernel
theorem dX7_init_36 : decode cX7_init 36 = .ok (.aload_n 0, 1) := by decide +kernel
theorem dX7_init_37 : decode cX7_init 37 = .ok (.aload_n 1, 1) := by decide +kernel
theorem dX7_init_38 : decode cX7_init 38 = .ok (.putfield 30, 3) := by decide +kernel
theorem dX7_init_41 : decode cX7_init 41 = .ok (.iconst 0, 1) := by decide +kernel
theorem dX7_init_42 : decode cX7_init 42 = .ok (.istore_n 2, 1) := by decide +kernel
theorem dX7_init_43 : decode cX7_init 43 = .ok (.iload_n 2, 1) := by decide +kernel
theorem dX7_init_44 : decode cX7_init 44 = .ok (.iconst 5, 1) := by decide +kernel
theorem dX7_init_45 : decode cX7_init 45 = .ok (.if_icmp .ge 29, 3) := by decide +kernel
theorem dX7_init_48 : decode cX7_init 48 = .ok (.aload_n 0, 1) := by decide +kernel
theorem dX7_init_49 : decode cX7_init 49 = .ok (.getfield 17, 3) := by decide +kernel
theorem dX7_init_52 : decode cX7_init 52 = .ok (.iload_n 2, 1) := by decide +kernel
theorem dX7_init_53 : decode cX7_init 53 = .ok (.new 15, 3) := by decide +kernel
theorem dX7_init_56 : decode cX7_init 56 = .ok (.dup, 1) := by decide +kernel
theorem dX7_init_57 : decode cX7_init 57 = .ok (.invokespecial 34, 3) := by decide +kernel
theorem dX7_init_60 : decode cX7_init 60 = .ok (.aastore, 1) := by decide +kernel
theorem dX7_init_61 : decode cX7_init 61 = .ok (.aload_n 0, 1) := by decide +kernel
theorem dX7_init_62 : decode cX7_init 62 = .ok (.getfield 9, 3) := by decide +kernel
theorem dX7_init_65 : decode cX7_init 65 = .ok (.iload_n 2, 1) := by decide +kernel
theorem dX7_init_66 : decode cX7_init 66 = .ok (.iload_n 2, 1) := by decide +kernel
theorem dX7_init_67 : decode cX7_init 67 = .ok (.iastore, 1) := by decide +kernel
theorem dX7_init_68 : decode cX7_init 68 = .ok (.iinc 2 1, 3) := by decide +kernel
theorem dX7_init_71 : decode cX7_init 71 = .ok (.goto (-28), 3) := by decide +kernel
theorem dX7_init_74 : decode cX7_init 74 = .ok (.iconst 0, 1) := by decide +kernel
theorem dX7_init_75 : decode cX7_init 75 = .ok (.istore_n 2, 1) := by decide +kernel
theorem dX7_init_76 : decode cX7_init 76 = .ok (.iload_n 2, 1) := by decide +kernel
theorem dX7_init_77 : decode cX7_init 77 = .ok (.bipush 15, 2) := by decide +kernel
theorem dX7_init_79 : decode cX7_init 79 = .ok (.if_icmp .ge 22, 3) := by decide +kernel
theorem dX7_init_82 : decode cX7_init 82 = .ok (.aload_n 0, 1) := by decide +kernel
theorem dX7_init_83 : decode cX7_init 83 = .ok (.getfield 23, 3) := by decide +kernel
theorem dX7_init_86 : decode cX7_init 86 = .ok (.iload_n 2, 1) := by decide +kernel
theorem dX7_init_87 : decode cX7_init 87 = .ok (.new 21, 3) := by decide +kernel
theorem dX7_init_90 : decode cX7_init 90 = .ok (.dup, 1) := by decide +kernel
theorem dX7_init_91 : decode cX7_init 91 = .ok (.invokespecial 35, 3) := by decide +kernel
theorem dX7_init_94 : decode cX7_init 94 = .ok (.aastore, 1) := by decide +kernel
theorem dX7_init_95 : decode cX7_init 95 = .ok (.iinc 2 1, 3) := by decide +kernel
theorem dX7_init_98 : decode cX7_init 98 = .ok (.goto (-22), 3) := by decide +kernel
theorem dX7_init_101 : decode cX7_init 101 = .ok (.return_, 1) := by decide +kernel
theorem oi_7_3 : eg_OI RX7 3 := ⟨(eg_t2 (i := 119) (by decide +kernel) rfl), (eg_t1 (i := 30) (by decide +kernel) rfl), (eg_t1 (i := 31) (by decide +kernel) rfl)⟩
theorem cl_7_15 : Cond.classLink RX7 15 RX4 ∈ eg_T := (eg_t2 (i := 120) (by decide +kernel) rfl)
theorem cl_7_21 : Cond.classLink RX7 21 RX2 ∈ eg_T := (eg_t2 (i := 122) (by decide +kernel) rfl)
theorem ck_7_15 : eg_CK RX7 15 4 := ⟨by decide, (eg_t2 (i := 120) (by decide +kernel) rfl), (eg_t2 (i := 124) (by decide +kernel) rfl), (eg_t1 (i := 10) (by decide +kernel) rfl)⟩
theorem mn_7_34 : eg_MN RX7 34 mtX4_init 0 := ⟨⟨by decide, (eg_t2 (i := 126) (by decide +kernel) rfl), (eg_t1 (i := 10) (by decide +kernel) rfl), (eg_t2 (i := 127) rfl rfl)⟩, ⟨by decide, by decide, by decide +kernel⟩, by decide, rfl, rfl⟩
theorem ck_7_21 : eg_CK RX7 21 2 := ⟨by decide, (eg_t2 (i := 122) (by decide +kernel) rfl), (eg_t2 (i := 165) (by decide +kernel) rfl), (eg_t1 (i := 11) (by decide +kernel) rfl)⟩
theorem mn_7_35 : eg_MN RX7 35 mtX2_init 0 := ⟨⟨by decide, (eg_t2 (i := 167) (by decide +kernel) rfl), (eg_t1 (i := 11) (by decide +kernel) rfl), (eg_t2 (i := 168) rfl rfl)⟩, ⟨by decide, by decide, by decide +kernel⟩, by decide, rfl, rfl⟩
theorem lp7a {κ : eg_K} {b : Nat} {L : List va_E} {k n : Nat} {a0 : Nat} (hL : L.length = n) (hk : k < n) {As : List va_E} {fs : List Value} (hA : As.length = 4) (hf : fs[3]? = some (.ref (b + (n + 1)))) (hs0 : As[1]? = some (rfA κ 6 5 (fun _ => none))) (hr : fs[2]? = some (.ref (b + (n + 0)))) (h0 : As[0]? = some (inA κ 5 (fun _ => 0))) {Qc : Array Value → State → Outcome → State → Prop} {mc ms sn : Nat} (hc : 9 ≤ mc) (hs : sn + 35 ≤ ms) (kk : eg_N κ b mtX7_init 2 mc ms Qc 74 [(2, .int 5), (0, .ref (b + k)), (1, .ref a0)] [] (wS L k ((As.set 0 (inA κ 5 (rowF 5))).set 1 (rfA κ 6 5 (adF (b + (n + 4)) 1 5)) ++ fmL (fun j => .inr (4, fsX4 b (n + (4 + 1 * j + 1))) :: asX4 κ b (n + (4 + 1 * j + 1))) 5) 7 fs) 9 (sn + 35)) : eg_N κ b mtX7_init 2 mc ms Qc 43 [(2, .int 0), (0, .ref (b + k)), (1, .ref a0)] [] (wS L k As 7 fs) 4 sn := by
  have hg : ∀ j, ((fun j => .inr (4, fsX4 b (n + (4 + 1 * j + 1))) :: asX4 κ b (n + (4 + 1 * j + 1))) j).length = 1 := fun j => rfl
  have hl2 : ∀ i, ((As.set 0 (inA κ 5 (rowF i))).set 1 (rfA κ 6 5 (adF (b + (n + 4)) 1 i)) ++ fmL (fun j => .inr (4, fsX4 b (n + (4 + 1 * j + 1))) :: asX4 κ b (n + (4 + 1 * j + 1))) i).length = 4 + 1 * i := fun i => by rw [List.length_append, List.length_set, List.length_set, hA, fmL_len _ 1 hg]
  have h := eg_down (P := fun i => eg_N κ b mtX7_init 2 mc ms Qc 43 [(2, .int (nI i)), (0, .ref (b + k)), (1, .ref a0)] [] (wS L k ((As.set 0 (inA κ 5 (rowF i))).set 1 (rfA κ 6 5 (adF (b + (n + 4)) 1 i)) ++ fmL (fun j => .inr (4, fsX4 b (n + (4 + 1 * j + 1))) :: asX4 κ b (n + (4 + 1 * j + 1))) i) 7 fs) (4 + 1 * i) (sn + 7 * i)) 5 (fun i hi ih => ?_) (by
    refine nw_iload 0 dX7_init_43 rfl rfl ?_
    refine nw_iconst (v := 5) dX7_init_44 (by decide) ?_
    refine nw_ge (tgt := 74) dX7_init_45 (by decide) (fun _ => ?_) (fun h => absurd ((nI_le' (a := 5) (b := 5) (by omega) (by omega)).mpr (by omega)) h)
    exact nw_cs (by omega) (by omega) kk)
  · have e0 : As = (As.set 0 (inA κ 5 (rowF 0))).set 1 (rfA κ 6 5 (adF (b + (n + 4)) 1 0)) ++ fmL (fun j => .inr (4, fsX4 b (n + (4 + 1 * j + 1))) :: asX4 κ b (n + (4 + 1 * j + 1))) 0 := by
      rw [← adF_0, ← rowF_0, ls_self h0, ls_self hs0]
      exact (List.append_nil As).symm
    exact ow_A e0 (nw_cs (by omega) (by omega) h)
  · refine nw_iload 0 dX7_init_43 rfl rfl ?_
    refine nw_iconst (v := 5) dX7_init_44 (by decide) ?_
    refine nw_ge (tgt := 74) dX7_init_45 (by decide) (fun h => absurd ((nI_le' (a := 5) (by omega) (by omega)).mp h) (by omega)) (fun _ => ?_)
    refine nw_aload 1 dX7_init_48 rfl rfl ?_
    refine ow_get (v := .ref (b + (n + 1))) hL hk dX7_init_49 fl_7_17 hf ?_
    refine nw_iload 0 dX7_init_52 rfl rfl ?_
    refine ow_new (cj := 4) (m := 4 + 1 * i) hL hk (hl2 i) dX7_init_53 ck_7_15 (by omega) (by show _ + 7 ≤ _; omega) ?_
    refine nw_dup dX7_init_56 rfl ?_
    refine ow_nest (i := 4 + 1 * i) (Ar := []) (cj := 4) hL hk (by rw [List.length_append, hl2 i]; exact Nat.lt_succ_self _) dX7_init_57 mn_7_34 rfl rfl (c_X4 (n := n + (4 + 1 * i + 1)) ((wS_len hL).trans (by rw [List.length_append, hl2 i]; rfl)) (wS_at hL hk (sl_4 (hl2 i)))) rfl (by decide) (by omega) (by show _ + 7 + 0 ≤ _; omega) (Nat.le_of_ble_eq_true rfl) ?_
    refine ow_A (sl_2 (hl2 i)) ?_
    refine ow_aast (i := 1) (j := 4 + 1 * i) (N' := 5) (cj := 4) (t := 6) (f := adF (b + (n + 4)) 1 i) hL hk dX7_init_60 (by decide) (by rw [List.append_assoc]; exact sl_0 (m := 4) (As := As.set 0 (inA κ 5 (rowF i))) (by rw [List.length_set]; exact hA) (by omega)) rfl (sl_4 (hl2 i)) (nI_in' (by omega) (by omega)) ?_
    refine ow_A (As1 := (As.set 0 (inA κ 5 (rowF i))).set 1 (rfA κ 6 5 (adF (b + (n + 4)) 1 (i + 1))) ++ fmL (fun j => .inr (4, fsX4 b (n + (4 + 1 * j + 1))) :: asX4 κ b (n + (4 + 1 * j + 1))) (i + 1)) ?_ ?_
    · rw [List.append_assoc, sl_1 (m := 4) (As := As.set 0 (inA κ 5 (rowF i))) (by rw [List.length_set]; exact hA) (by omega), nI_t (by omega), show b + (n + (4 + 1 * i)) = b + (n + 4) + 1 * i by omega, adF_s, fmL_s]
      rfl
    refine nw_aload 1 dX7_init_61 rfl rfl ?_
    refine ow_get (v := .ref (b + (n + 0))) hL hk dX7_init_62 fl_7_9 hr ?_
    refine nw_iload 0 dX7_init_65 rfl rfl ?_
    refine nw_iload 0 dX7_init_66 rfl rfl ?_
    refine ow_iast (i := 0) (N' := 5) (f := rowF i) hL hk dX7_init_67 (sl_6 hA (by omega)) (nI_in' (by omega) (by omega)) ?_
    refine ow_A (As1 := (As.set 0 (inA κ 5 (rowF (i + 1)))).set 1 (rfA κ 6 5 (adF (b + (n + 4)) 1 (i + 1))) ++ fmL (fun j => .inr (4, fsX4 b (n + (4 + 1 * j + 1))) :: asX4 κ b (n + (4 + 1 * j + 1))) (i + 1)) ?_ ?_
    · rw [sl_5 hA (by omega), nI_t (by omega), rowF_s]
      rfl
    refine nw_iinc (v := nI (i + 1)) (ls1 := [(2, .int (nI (i + 1))), (0, .ref (b + k)), (1, .ref a0)]) 0 dX7_init_68 rfl (by rw [show Int32.ofInt 1 = (1 : Int32) by decide, nI_1]) (by decide) rfl ?_
    refine nw_goto (tgt := 43) dX7_init_71 (by decide) ?_
    exact nw_cs (by omega) (by show sn + 7 * i + 7 + 0 = _; omega) ih
theorem lp7b {κ : eg_K} {b : Nat} {L : List va_E} {k n : Nat} {a0 : Nat} (hL : L.length = n) (hk : k < n) {As : List va_E} {fs : List Value} (hA : As.length = 9) (hf : fs[4]? = some (.ref (b + (n + 2)))) (hs0 : As[2]? = some (rfA κ 7 15 (fun _ => none))) {Qc : Array Value → State → Outcome → State → Prop} {mc ms sn : Nat} (hc : 39 ≤ mc) (hs : sn + 270 ≤ ms) (kk : eg_N κ b mtX7_init 2 mc ms Qc 101 [(2, .int 15), (0, .ref (b + k)), (1, .ref a0)] [] (wS L k (As.set 2 (rfA κ 7 15 (adF (b + (n + 9)) 2 15)) ++ fmL (fun j => .inr (2, fsX2 b (n + (9 + 2 * j + 1))) :: asX2 κ b (n + (9 + 2 * j + 1))) 15) 7 fs) 39 (sn + 270)) : eg_N κ b mtX7_init 2 mc ms Qc 76 [(2, .int 0), (0, .ref (b + k)), (1, .ref a0)] [] (wS L k As 7 fs) 9 sn := by
  have hg : ∀ j, ((fun j => .inr (2, fsX2 b (n + (9 + 2 * j + 1))) :: asX2 κ b (n + (9 + 2 * j + 1))) j).length = 2 := fun j => rfl
  have hl2 : ∀ i, (As.set 2 (rfA κ 7 15 (adF (b + (n + 9)) 2 i)) ++ fmL (fun j => .inr (2, fsX2 b (n + (9 + 2 * j + 1))) :: asX2 κ b (n + (9 + 2 * j + 1))) i).length = 9 + 2 * i := fun i => sl_3 hA (fmL_len _ 2 hg i)
  have h := eg_down (P := fun i => eg_N κ b mtX7_init 2 mc ms Qc 76 [(2, .int (nI i)), (0, .ref (b + k)), (1, .ref a0)] [] (wS L k (As.set 2 (rfA κ 7 15 (adF (b + (n + 9)) 2 i)) ++ fmL (fun j => .inr (2, fsX2 b (n + (9 + 2 * j + 1))) :: asX2 κ b (n + (9 + 2 * j + 1))) i) 7 fs) (9 + 2 * i) (sn + 18 * i)) 15 (fun i hi ih => ?_) (by
    refine nw_iload 0 dX7_init_76 rfl rfl ?_
    refine nw_bipush (v := 15) dX7_init_77 (by decide) ?_
    refine nw_ge (tgt := 101) dX7_init_79 (by decide) (fun _ => ?_) (fun h => absurd ((nI_le' (a := 15) (b := 15) (by omega) (by omega)).mpr (by omega)) h)
    exact nw_cs (by omega) (by omega) kk)
  · have e0 : As = As.set 2 (rfA κ 7 15 (adF (b + (n + 9)) 2 0)) ++ fmL (fun j => .inr (2, fsX2 b (n + (9 + 2 * j + 1))) :: asX2 κ b (n + (9 + 2 * j + 1))) 0 := by
      rw [← adF_0, ls_self hs0]
      exact (List.append_nil As).symm
    exact ow_A e0 (nw_cs (by omega) (by omega) h)
  · refine nw_iload 0 dX7_init_76 rfl rfl ?_
    refine nw_bipush (v := 15) dX7_init_77 (by decide) ?_
    refine nw_ge (tgt := 101) dX7_init_79 (by decide) (fun h => absurd ((nI_le' (a := 15) (by omega) (by omega)).mp h) (by omega)) (fun _ => ?_)
    refine nw_aload 1 dX7_init_82 rfl rfl ?_
    refine ow_get (v := .ref (b + (n + 2))) hL hk dX7_init_83 fl_7_23 hf ?_
    refine nw_iload 0 dX7_init_86 rfl rfl ?_
    refine ow_new (cj := 2) (m := 9 + 2 * i) hL hk (hl2 i) dX7_init_87 ck_7_21 (by omega) (by show _ + 13 ≤ _; omega) ?_
    refine nw_dup dX7_init_90 rfl ?_
    refine ow_nest (i := 9 + 2 * i) (Ar := []) (cj := 2) hL hk (by rw [List.length_append, hl2 i]; exact Nat.lt_succ_self _) dX7_init_91 mn_7_35 rfl rfl (c_X2 (n := n + (9 + 2 * i + 1)) ((wS_len hL).trans (by rw [List.length_append, hl2 i]; rfl)) (wS_at hL hk (sl_4 (hl2 i)))) rfl (by decide) (by omega) (by show _ + 13 + 5 ≤ _; omega) (Nat.le_of_ble_eq_true rfl) ?_
    refine ow_A (sl_2 (hl2 i)) ?_
    refine ow_aast (i := 2) (j := 9 + 2 * i) (N' := 15) (cj := 2) (t := 7) (f := adF (b + (n + 9)) 2 i) hL hk dX7_init_94 (by decide) (by rw [List.append_assoc]; exact sl_0 hA (by omega)) rfl (sl_4 (hl2 i)) (nI_in' (by omega) (by omega)) ?_
    refine ow_A (As1 := As.set 2 (rfA κ 7 15 (adF (b + (n + 9)) 2 (i + 1))) ++ fmL (fun j => .inr (2, fsX2 b (n + (9 + 2 * j + 1))) :: asX2 κ b (n + (9 + 2 * j + 1))) (i + 1)) ?_ ?_
    · rw [List.append_assoc, sl_1 hA (by omega), nI_t (by omega), show b + (n + (9 + 2 * i)) = b + (n + 9) + 2 * i by omega, adF_s, fmL_s]
      rfl
    refine nw_iinc (v := nI (i + 1)) (ls1 := [(2, .int (nI (i + 1))), (0, .ref (b + k)), (1, .ref a0)]) 0 dX7_init_95 rfl (by rw [show Int32.ofInt 1 = (1 : Int32) by decide, nI_1]) (by decide) rfl ?_
    refine nw_goto (tgt := 76) dX7_init_98 (by decide) ?_
    exact nw_cs (by omega) (by show sn + 18 * i + 13 + 5 = _; omega) ih
def a0X7 (κ : eg_K) : List va_E := [inA κ 5 (fun _ => 0), rfA κ 6 5 (fun _ => none), rfA κ 7 15 (fun _ => none), inA κ 15 (fun _ => 0)]
def fsX7 (b n : Nat) (a0 : Nat) : List Value := [.ref (a0), .int 0, .ref (b + (n + 0)), .ref (b + (n + 1)), .ref (b + (n + 2)), .ref (b + (n + 3)), .int 0, .int 0]
def asX7 (κ : eg_K) (b n : Nat) (a0 : Nat) : List va_E := (((a0X7 κ).set 0 (inA κ 5 (rowF 5))).set 1 (rfA κ 6 5 (adF (b + (n + 4)) 1 5)) ++ fmL (fun j => .inr (4, fsX4 b (n + (4 + 1 * j + 1))) :: asX4 κ b (n + (4 + 1 * j + 1))) 5).set 2 (rfA κ 7 15 (adF (b + (n + 9)) 2 15)) ++ fmL (fun j => .inr (2, fsX2 b (n + (9 + 2 * j + 1))) :: asX2 κ b (n + (9 + 2 * j + 1))) 15
set_option maxRecDepth 20000 in
theorem c_X7 {κ : eg_K} {b : Nat} {L : List va_E} {k n : Nat} {a0 : Nat} (hL : L.length = n) (he : L[k]? = some (.inr (7, eg_d0 7))) : eg_X κ b mtX7_init 2 39 345 [.ref (b + k), .ref a0] L (wS L k (asX7 κ b n a0) 7 (fsX7 b n a0)) := by
  refine ow_of hL he rfl (Nat.le_of_ble_eq_true rfl) (fun hk => ?_)
  refine nw_aload 0 dX7_init_0 rfl rfl ?_
  refine nw_obj dX7_init_1 oi_7_3 (by decide) ?_
  refine nw_aload 0 dX7_init_4 rfl rfl ?_
  refine nw_iconst (v := 5) dX7_init_5 (by decide) ?_
  refine ow_arr (t := 0) (ty := .int) (a0 := (5, .inl (fun _ => 0))) (N' := 5) (m := 0) hL hk rfl dX7_init_6 rfl ac_int rfl (fun _ h => by cases h) (fun _ => rfl) (by decide) (by decide) (by decide) (Nat.le_of_ble_eq_true rfl) (Nat.le_of_ble_eq_true rfl) ?_
  refine ow_putF hL hk dX7_init_8 fl_7_9 rfl rfl rfl rfl rfl (Nat.le_of_ble_eq_true rfl) ?_
  refine nw_aload 0 dX7_init_11 rfl rfl ?_
  refine nw_iconst (v := 5) dX7_init_12 (by decide) ?_
  refine ow_anew (t := 6) (Cn := RX4) (N' := 5) (m := 1) hL hk rfl dX7_init_13 cl_7_15 (by decide) rfl (by decide) (by decide) (by decide) (Nat.le_of_ble_eq_true rfl) (Nat.le_of_ble_eq_true rfl) ?_
  refine ow_putF hL hk dX7_init_16 fl_7_17 rfl rfl rfl rfl rfl (Nat.le_of_ble_eq_true rfl) ?_
  refine nw_aload 0 dX7_init_19 rfl rfl ?_
  refine nw_bipush (v := 15) dX7_init_20 (by decide) ?_
  refine ow_anew (t := 7) (Cn := RX2) (N' := 15) (m := 2) hL hk rfl dX7_init_22 cl_7_21 (by decide) rfl (by decide) (by decide) (by decide) (Nat.le_of_ble_eq_true rfl) (Nat.le_of_ble_eq_true rfl) ?_
  refine ow_putF hL hk dX7_init_25 fl_7_23 rfl rfl rfl rfl rfl (Nat.le_of_ble_eq_true rfl) ?_
  refine nw_aload 0 dX7_init_28 rfl rfl ?_
  refine nw_bipush (v := 15) dX7_init_29 (by decide) ?_
  refine ow_arr (t := 0) (ty := .int) (a0 := (15, .inl (fun _ => 0))) (N' := 15) (m := 3) hL hk rfl dX7_init_31 rfl ac_int rfl (fun _ h => by cases h) (fun _ => rfl) (by decide) (by decide) (by decide) (Nat.le_of_ble_eq_true rfl) (Nat.le_of_ble_eq_true rfl) ?_
  refine ow_putF hL hk dX7_init_33 fl_7_27 rfl rfl rfl rfl rfl (Nat.le_of_ble_eq_true rfl) ?_
  refine nw_aload 0 dX7_init_36 rfl rfl ?_
  refine nw_aload 1 dX7_init_37 rfl rfl ?_
  refine ow_put hL hk dX7_init_38 fl_7_30 rfl rfl rfl (Nat.le_of_ble_eq_true rfl) ?_
  refine nw_iconst (v := 0) dX7_init_41 (by decide) ?_
  refine nw_istore (ls1 := [(2, .int 0), (0, .ref (b + k)), (1, .ref (a0))]) dX7_init_42 rfl (by decide) rfl ?_
  refine ow_A (As1 := a0X7 κ) rfl ?_
  refine lp7a (sn := 40) hL hk rfl rfl rfl rfl rfl (Nat.le_of_ble_eq_true rfl) (Nat.le_of_ble_eq_true rfl) ?_
  refine nw_iconst (v := 0) dX7_init_74 (by decide) ?_
  refine nw_istore (ls1 := [(2, .int 0), (0, .ref (b + k)), (1, .ref a0)]) dX7_init_75 rfl (by decide) rfl ?_
  refine lp7b (sn := 75) hL hk rfl rfl rfl (Nat.le_of_ble_eq_true rfl) (Nat.le_of_ble_eq_true rfl) ?_
  exact ow_ret hL hk dX7_init_101 rfl (Nat.le_of_ble_eq_true rfl) (Nat.le_of_ble_eq_true rfl) rfl rfl
