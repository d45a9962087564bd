/-! lists that loops make -/
def adF (c w i : Nat) : Nat → Option Nat := fun j => if j < i then some (c + w * j) else none
theorem adF_0 (c w : Nat) : (fun _ => none) = adF c w 0 := by
  funext j
  unfold adF
  rw [if_neg (Nat.not_lt_zero j)]
theorem adF_s (c w i : Nat) : va_up (adF c w i) i (some (c + w * i)) = adF c w (i + 1) := by
  funext j
  unfold va_up adF
  by_cases h : j = i
  · rw [if_pos h, h, if_pos (by omega)]
  · rw [if_neg h]
    by_cases h2 : j < i
    · rw [if_pos h2, if_pos (by omega)]
    · rw [if_neg h2, if_neg (by omega)]
def fmL (g : Nat → List va_E) (i : Nat) : List va_E := (List.range i).flatMap g
theorem fmL_s (g : Nat → List va_E) (i : Nat) : fmL g (i + 1) = fmL g i ++ g i := by
  unfold fmL
  rw [List.range_succ, List.flatMap_append]
  simp
theorem fmL_len (g : Nat → List va_E) (w : Nat) (h : ∀ j, (g j).length = w) : ∀ i, (fmL g i).length = w * i
  | 0 => rfl
  | i + 1 => by rw [fmL_s, List.length_append, fmL_len g w h i, h, Nat.mul_succ]
theorem sl_0 {As R : List va_E} {j m : Nat} {x : va_E} (hm : As.length = m) (hj : j < m) : (As.set j x ++ R)[j]? = some x := by
  rw [List.getElem?_append_left (by rw [List.length_set]; omega), List.getElem?_set_self (by omega)]
theorem sl_1 {As R : List va_E} {j m : Nat} {x y : va_E} (hm : As.length = m) (hj : j < m) : (As.set j x ++ R).set j y = As.set j y ++ R := by
  rw [List.set_append_left _ _ (by rw [List.length_set]; omega), List.set_set]
theorem sl_2 {X Bs : List va_E} {m : Nat} {x y : va_E} (hm : X.length = m) : (X ++ [x]).set m y ++ Bs = X ++ (y :: Bs) := by
  rw [List.set_append_right _ _ (by omega), hm, Nat.sub_self, List.append_assoc]
  rfl
theorem sl_3 {As R : List va_E} {m w : Nat} {j : Nat} {x : va_E} (hm : As.length = m) (hR : R.length = w) : (As.set j x ++ R).length = m + w := by
  rw [List.length_append, List.length_set, hm, hR]
theorem sl_4 {X Y : List va_E} {m : Nat} {y : va_E} (hm : X.length = m) : (X ++ (y :: Y))[m]? = some y := by
  rw [List.getElem?_append_right (by omega), hm, Nat.sub_self]
  rfl
theorem ls_self {As : List va_E} {j : Nat} {x : va_E} (h : As[j]? = some x) : As.set j x = As := by
  apply List.ext_getElem?
  intro i
  by_cases c : j = i
  · subst c
    rw [List.getElem?_set_self (List.getElem?_eq_some_iff.mp h).1, h]
  · rw [List.getElem?_set_ne c]
def rowF (i : Nat) : Nat → Int32 := fun j => if j < i then nI j else 0
theorem rowF_0 : (fun _ => 0) = rowF 0 := by
  funext j
  unfold rowF
  rw [if_neg (Nat.not_lt_zero j)]
theorem rowF_s (i : Nat) : upd (rowF i) i (nI i) = rowF (i + 1) := by
  funext j
  unfold upd rowF
  by_cases h : j = i
  · rw [if_pos h, h, if_pos (by omega)]
  · rw [if_neg h]
    by_cases h2 : j < i
    · rw [if_pos h2, if_pos (by omega)]
    · rw [if_neg h2, if_neg (by omega)]
theorem sl_5 {As R : List va_E} {m : Nat} {x y z : va_E} (hm : As.length = m) (hj : 1 < m) : ((As.set 0 x).set 1 y ++ R).set 0 z = (As.set 0 z).set 1 y ++ R := by
  rw [List.set_append_left _ _ (by rw [List.length_set, List.length_set]; omega), List.set_comm _ _ (by decide), List.set_set]
theorem sl_6 {As R : List va_E} {m : Nat} {x y : va_E} (hm : As.length = m) (hj : 1 < m) : ((As.set 0 x).set 1 y ++ R)[0]? = some x := by
  rw [List.getElem?_append_left (by rw [List.length_set, List.length_set]; omega), List.getElem?_set_ne (by decide), List.getElem?_set_self (by omega)]
def rfA (κ : eg_K) (t N : Nat) (f : Nat → Option Nat) : va_E := .inl (kA κ t, N, .inr (.inr (.inr (.inr f))))
def inA (κ : eg_K) (N : Nat) (f : Nat → Int32) : va_E := .inl (kA κ 0, N, .inl f)
section ENP
variable {κ : eg_K} {b : Nat} {mt : eg_M} {d mc ms : Nat} {Qc : Array Value → State → Outcome → State → Prop} {pc : Nat} {ls : List (Nat × Value)} {st : List Value} {L As As1 : List va_E} {k ci : Nat} {fs : List Value} {cn sn cn1 sn1 : Nat}
theorem nw_cs (h1 : cn = cn1) (h2 : sn = sn1) (k : eg_N κ b mt d mc ms Qc pc ls st L cn1 sn1) : eg_N κ b mt d mc ms Qc pc ls st L cn sn := by
  rw [h1, h2]
  exact k
theorem ow_A (h : As = As1) (kk : eg_N κ b mt d mc ms Qc pc ls st (wS L k As1 ci fs) cn sn) : eg_N κ b mt d mc ms Qc pc ls st (wS L k As ci fs) cn sn := by
  rw [h]
  exact kk
end ENP
/-! A PLAN IS MADE -/
theorem dX5_init_0 : decode cX5_init 0 = .ok (.aload_n 0, 1) := by decide +kernel
theorem dX5_init_1 : decode cX5_init 1 = .ok (.invokespecial 3, 3) := by decide +kernel
theorem dX5_init_4 : decode cX5_init 4 = .ok (.aload_n 0, 1) := by decide +kernel
theorem dX5_init_5 : decode cX5_init 5 = .ok (.iconst 5, 1) := by decide +kernel
theorem dX5_init_6 : decode cX5_init 6 = .ok (.anewarray 9, 3) := by decide +kernel
theorem dX5_init_9 : decode cX5_init 9 = .ok (.putfield 11, 3) := by decide +kernel
theorem dX5_init_12 : decode cX5_init 12 = .ok (.aload_n 0, 1) := by decide +kernel
theorem dX5_init_13 : decode cX5_init 13 = .ok (.bipush 15, 2) := by decide +kernel
theorem dX5_init_15 : decode cX5_init 15 = .ok (.anewarray 17, 3) := by decide +kernel
theorem dX5_init_18 : decode cX5_init 18 = .ok (.putfield 19, 3) := by decide +kernel
theorem dX5_init_21 : decode cX5_init 21 = .ok (.aload_n 0, 1) := by decide +kernel
theorem dX5_init_22 : decode cX5_init 22 = .ok (.iconst 4, 1) := by decide +kernel
theorem dX5_init_23 : decode cX5_init 23 = .ok (.newarray .int, 2) := by decide +kernel
theorem dX5_init_25 : decode cX5_init 25 = .ok (.putfield 23, 3) := by decide +kernel
theorem dX5_init_28 : decode cX5_init 28 = .ok (.aload_n 0, 1) := by decide +kernel
theorem dX5_init_29 : decode cX5_init 29 = .ok (.iconst 4, 1) := by decide +kernel
theorem dX5_init_30 : decode cX5_init 30 = .ok (.newarray .int, 2) := by decide +kernel
theorem dX5_init_32 : decode cX5_init 32 = .ok (.putfield 27, 3) := by decide +kernel
theorem dX5_init_35 : decode cX5_init 35 = .ok (.aload_n 0, 1) := by decide +kernel
theorem dX5_init_36 : decode cX5_init 36 = .ok (.iconst 4, 1) := by decide +kernel
theorem dX5_init_37 : decode cX5_init 37 = .ok (.newarray .int, 2) := by decide +kernel
theorem dX5_init_39 : decode cX5_init 39 = .ok (.putfield 30, 3) := by decide +kernel
theorem dX5_init_42 : decode cX5_init 42 = .ok (.aload_n 0, 1) := by decide +kernel
theorem dX5_init_43 : decode cX5_init 43 = .ok (.iconst 3, 1) := by decide +kernel
theorem dX5_init_44 : decode cX5_init 44 = .ok (.newarray .int, 2) := by decide +kernel
theorem dX5_init_46 : decode cX5_init 46 = .ok (.putfield 33, 3) := by decide +kernel
theorem dX5_init_49 : decode cX5_init 49 = .ok (.aload_n 0, 1) := by decide +kernel
theorem dX5_init_50 : decode cX5_init 50 = .ok (.new 36, 3) := by decide +kernel
theorem dX5_init_53 : decode cX5_init 53 = .ok (.dup, 1) := by decide +kernel
theorem dX5_init_54 : decode cX5_init 54 = .ok (.invokespecial 38, 3) := by decide +kernel
theorem dX5_init_57 : decode cX5_init 57 = .ok (.putfield 39, 3) := by decide +kernel
theorem dX5_init_60 : decode cX5_init 60 = .ok (.iconst 0, 1) := by decide +kernel
theorem dX5_init_61 : decode cX5_init 61 = .ok (.istore_n 1, 1) := by decide +kernel
theorem dX5_init_62 : decode cX5_init 62 = .ok (.iload_n 1, 1) := by decide +kernel
theorem dX5_init_63 : decode cX5_init 63 = .ok (.iconst 5, 1) := by decide +kernel
theorem dX5_init_64 : decode cX5_init 64 = .ok (.if_icmp .ge 22, 3) := by decide +kernel
theorem dX5_init_67 : decode cX5_init 67 = .ok (.aload_n 0, 1) := by decide +kernel
theorem dX5_init_68 : decode cX5_init 68 = .ok (.getfield 11, 3) := by decide +kernel
theorem dX5_init_71 : decode cX5_init 71 = .ok (.iload_n 1, 1) := by decide +kernel
theorem dX5_init_72 : decode cX5_init 72 = .ok (.new 9, 3) := by decide +kernel
theorem dX5_init_75 : decode cX5_init 75 = .ok (.dup, 1) := by decide +kernel
theorem dX5_init_76 : decode cX5_init 76 = .ok (.invokespecial 43, 3) := by decide +kernel
theorem dX5_init_79 : decode cX5_init 79 = .ok (.aastore, 1) := by decide +kernel
theorem dX5_init_80 : decode cX5_init 80 = .ok (.iinc 1 1, 3) := by decide +kernel
theorem dX5_init_83 : decode cX5_init 83 = .ok (.goto (-21), 3) := by decide +kernel
theorem dX5_init_86 : decode cX5_init 86 = .ok (.iconst 0, 1) := by decide +kernel
theorem dX5_init_87 : decode cX5_init 87 = .ok (.istore_n 1, 1) := by decide +kernel
theorem dX5_init_88 : decode cX5_init 88 = .ok (.iload_n 1, 1) := by decide +kernel
theorem dX5_init_89 : decode cX5_init 89 = .ok (.bipush 15, 2) := by decide +kernel
theorem dX5_init_91 : decode cX5_init 91 = .ok (.if_icmp .ge 22, 3) := by decide +kernel
theorem dX5_init_94 : decode cX5_init 94 = .ok (.aload_n 0, 1) := by decide +kernel
theorem dX5_init_95 : decode cX5_init 95 = .ok (.getfield 19, 3) := by decide +kernel
theorem dX5_init_98 : decode cX5_init 98 = .ok (.iload_n 1, 1) := by decide +kernel
theorem dX5_init_99 : decode cX5_init 99 = .ok (.new 17, 3) := by decide +kernel
theorem dX5_init_102 : decode cX5_init 102 = .ok (.dup, 1) := by decide +kernel
theorem dX5_init_103 : decode cX5_init 103 = .ok (.invokespecial 44, 3) := by decide +kernel
theorem dX5_init_106 : decode cX5_init 106 = .ok (.aastore, 1) := by decide +kernel
theorem dX5_init_107 : decode cX5_init 107 = .ok (.iinc 1 1, 3) := by decide +kernel
theorem dX5_init_110 : decode cX5_init 110 = .ok (.goto (-22), 3) := by decide +kernel
theorem dX5_init_113 : decode cX5_init 113 = .ok (.return_, 1) := by decide +kernel
theorem oi_5_3 : eg_OI RX5 3 := ⟨(eg_t1 (i := 127) (by decide +kernel) rfl), (eg_t1 (i := 30) (by decide +kernel) rfl), (eg_t1 (i := 31) (by decide +kernel) rfl)⟩
theorem cl_5_9 : Cond.classLink RX5 9 RX1 ∈ eg_T := (eg_t1 (i := 128) (by decide +kernel) rfl)
theorem cl_5_17 : Cond.classLink RX5 17 RX0 ∈ eg_T := (eg_t1 (i := 130) (by decide +kernel) rfl)
theorem ck_5_36 : eg_CK RX5 36 3 := ⟨by decide, (eg_t1 (i := 132) (by decide +kernel) rfl), (eg_t1 (i := 133) (by decide +kernel) rfl), (eg_t1 (i := 5) (by decide +kernel) rfl)⟩
theorem mn_5_38 : eg_MN RX5 38 mtX3_init 0 := ⟨⟨by decide, (eg_t1 (i := 135) (by decide +kernel) rfl), (eg_t1 (i := 5) (by decide +kernel) rfl), (eg_t1 (i := 136) rfl rfl)⟩, ⟨by decide, by decide, by decide +kernel⟩, by decide, rfl, rfl⟩
theorem ck_5_9 : eg_CK RX5 9 1 := ⟨by decide, (eg_t1 (i := 128) (by decide +kernel) rfl), (eg_t1 (i := 163) (by decide +kernel) rfl), (eg_t1 (i := 6) (by decide +kernel) rfl)⟩
theorem mn_5_43 : eg_MN RX5 43 mtX1_init 0 := ⟨⟨by decide, (eg_t1 (i := 165) (by decide +kernel) rfl), (eg_t1 (i := 6) (by decide +kernel) rfl), (eg_t1 (i := 166) rfl rfl)⟩, ⟨by decide, by decide, by decide +kernel⟩, by decide, rfl, rfl⟩
theorem ck_5_17 : eg_CK RX5 17 0 := ⟨by decide, (eg_t1 (i := 130) (by decide +kernel) rfl), (eg_t1 (i := 210) (by decide +kernel) rfl), (eg_t1 (i := 7) (by decide +kernel) rfl)⟩
theorem mn_5_44 : eg_MN RX5 44 mtX0_init 0 := ⟨⟨by decide, (eg_t1 (i := 212) (by decide +kernel) rfl), (eg_t1 (i := 7) (by decide +kernel) rfl), (eg_t1 (i := 213) rfl rfl)⟩, ⟨by decide, by decide, by decide +kernel⟩, by decide, rfl, rfl⟩
theorem lp5a {κ : eg_K} {b : Nat} {L : List va_E} {k n : Nat} (hL : L.length = n) (hk : k < n) {As : List va_E} {fs : List Value} (hA : As.length = 12) (hf : fs[1]? = some (.ref (b + (n + 0)))) (hs0 : As[0]? = some (rfA κ 4 5 (fun _ => none))) {Qc : Array Value → State → Outcome → State → Prop} {mc ms sn : Nat} (hc : 17 ≤ mc) (hs : sn + 35 ≤ ms) (kk : eg_N κ b mtX5_init 2 mc ms Qc 86 [(1, .int 5), (0, .ref (b + k))] [] (wS L k (As.set 0 (rfA κ 4 5 (adF (b + (n + 12)) 1 5)) ++ fmL (fun j => .inr (1, fsX1 b (n + (12 + 1 * j + 1))) :: asX1 κ b (n + (12 + 1 * j + 1))) 5) 5 fs) 17 (sn + 35)) : eg_N κ b mtX5_init 2 mc ms Qc 62 [(1, .int 0), (0, .ref (b + k))] [] (wS L k As 5 fs) 12 sn := by
  have hg : ∀ j, ((fun j => .inr (1, fsX1 b (n + (12 + 1 * j + 1))) :: asX1 κ b (n + (12 + 1 * j + 1))) j).length = 1 := fun j => rfl
  have hl2 : ∀ i, (As.set 0 (rfA κ 4 5 (adF (b + (n + 12)) 1 i)) ++ fmL (fun j => .inr (1, fsX1 b (n + (12 + 1 * j + 1))) :: asX1 κ b (n + (12 + 1 * j + 1))) i).length = 12 + 1 * i := fun i => sl_3 hA (fmL_len _ 1 hg i)
  have h := eg_down (P := fun i => eg_N κ b mtX5_init 2 mc ms Qc 62 [(1, .int (nI i)), (0, .ref (b + k))] [] (wS L k (As.set 0 (rfA κ 4 5 (adF (b + (n + 12)) 1 i)) ++ fmL (fun j => .inr (1, fsX1 b (n + (12 + 1 * j + 1))) :: asX1 κ b (n + (12 + 1 * j + 1))) i) 5 fs) (12 + 1 * i) (sn + 7 * i)) 5 (fun i hi ih => ?_) (by
    refine nw_iload 0 dX5_init_62 rfl rfl ?_
    refine nw_iconst (v := 5) dX5_init_63 (by decide) ?_
    refine nw_ge (tgt := 86) dX5_init_64 (by decide) (fun _ => ?_) (fun h => absurd ((nI_le' (a := 5) (b := 5) (by omega) (by omega)).mpr (by omega)) h)
    exact nw_cs (by omega) (by omega) kk)
  · have e0 : As = As.set 0 (rfA κ 4 5 (adF (b + (n + 12)) 1 0)) ++ fmL (fun j => .inr (1, fsX1 b (n + (12 + 1 * j + 1))) :: asX1 κ b (n + (12 + 1 * j + 1))) 0 := by
      rw [← adF_0, ls_self hs0]
      exact (List.append_nil As).symm
    exact ow_A e0 (nw_cs (by omega) (by omega) h)
  · refine nw_iload 0 dX5_init_62 rfl rfl ?_
    refine nw_iconst (v := 5) dX5_init_63 (by decide) ?_
    refine nw_ge (tgt := 86) dX5_init_64 (by decide) (fun h => absurd ((nI_le' (a := 5) (by omega) (by omega)).mp h) (by omega)) (fun _ => ?_)
    refine nw_aload 1 dX5_init_67 rfl rfl ?_
    refine ow_get (v := .ref (b + (n + 0))) hL hk dX5_init_68 fl_5_11 hf ?_
    refine nw_iload 0 dX5_init_71 rfl rfl ?_
    refine ow_new (cj := 1) (m := 12 + 1 * i) hL hk (hl2 i) dX5_init_72 ck_5_9 (by omega) (by show _ + 7 ≤ _; omega) ?_
    refine nw_dup dX5_init_75 rfl ?_
    refine ow_nest (i := 12 + 1 * i) (Ar := []) (cj := 1) hL hk (by rw [List.length_append, hl2 i]; exact Nat.lt_succ_self _) dX5_init_76 mn_5_43 rfl rfl (c_X1 (n := n + (12 + 1 * i + 1)) ((wS_len hL).trans (by rw [List.length_append, hl2 i]; rfl)) (wS_at hL hk (sl_4 (hl2 i)))) rfl (by decide) (by omega) (by show _ + 7 + 0 ≤ _; omega) (Nat.le_of_ble_eq_true rfl) ?_
    refine ow_A (sl_2 (hl2 i)) ?_
    refine ow_aast (i := 0) (j := 12 + 1 * i) (N' := 5) (cj := 1) (t := 4) (f := adF (b + (n + 12)) 1 i) hL hk dX5_init_79 (by decide) (by rw [List.append_assoc]; exact sl_0 hA (by omega)) rfl (sl_4 (hl2 i)) (nI_in' (by omega) (by omega)) ?_
    refine ow_A (As1 := As.set 0 (rfA κ 4 5 (adF (b + (n + 12)) 1 (i + 1))) ++ fmL (fun j => .inr (1, fsX1 b (n + (12 + 1 * j + 1))) :: asX1 κ b (n + (12 + 1 * j + 1))) (i + 1)) ?_ ?_
    · rw [List.append_assoc, sl_1 hA (by omega), nI_t (by omega), show b + (n + (12 + 1 * i)) = b + (n + 12) + 1 * i by omega, adF_s, fmL_s]
      rfl
    refine nw_iinc (v := nI (i + 1)) (ls1 := [(1, .int (nI (i + 1))), (0, .ref (b + k))]) 0 dX5_init_80 rfl (by rw [show Int32.ofInt 1 = (1 : Int32) by decide, nI_1]) (by decide) rfl ?_
    refine nw_goto (tgt := 62) dX5_init_83 (by decide) ?_
    exact nw_cs (by omega) (by show sn + 7 * i + 7 + 0 = _; omega) ih
theorem lp5b {κ : eg_K} {b : Nat} {L : List va_E} {k n : Nat} (hL : L.length = n) (hk : k < n) {As : List va_E} {fs : List Value} (hA : As.length = 17) (hf : fs[3]? = some (.ref (b + (n + 1)))) (hs0 : As[1]? = some (rfA κ 5 15 (fun _ => none))) {Qc : Array Value → State → Outcome → State → Prop} {mc ms sn : Nat} (hc : 47 ≤ mc) (hs : sn + 135 ≤ ms) (kk : eg_N κ b mtX5_init 2 mc ms Qc 113 [(1, .int 15), (0, .ref (b + k))] [] (wS L k (As.set 1 (rfA κ 5 15 (adF (b + (n + 17)) 2 15)) ++ fmL (fun j => .inr (0, fsX0 b (n + (17 + 2 * j + 1))) :: asX0 κ b (n + (17 + 2 * j + 1))) 15) 5 fs) 47 (sn + 135)) : eg_N κ b mtX5_init 2 mc ms Qc 88 [(1, .int 0), (0, .ref (b + k))] [] (wS L k As 5 fs) 17 sn := by
  have hg : ∀ j, ((fun j => .inr (0, fsX0 b (n + (17 + 2 * j + 1))) :: asX0 κ b (n + (17 + 2 * j + 1))) j).length = 2 := fun j => rfl
  have hl2 : ∀ i, (As.set 1 (rfA κ 5 15 (adF (b + (n + 17)) 2 i)) ++ fmL (fun j => .inr (0, fsX0 b (n + (17 + 2 * j + 1))) :: asX0 κ b (n + (17 + 2 * j + 1))) i).length = 17 + 2 * i := fun i => sl_3 hA (fmL_len _ 2 hg i)
  have h := eg_down (P := fun i => eg_N κ b mtX5_init 2 mc ms Qc 88 [(1, .int (nI i)), (0, .ref (b + k))] [] (wS L k (As.set 1 (rfA κ 5 15 (adF (b + (n + 17)) 2 i)) ++ fmL (fun j => .inr (0, fsX0 b (n + (17 + 2 * j + 1))) :: asX0 κ b (n + (17 + 2 * j + 1))) i) 5 fs) (17 + 2 * i) (sn + 9 * i)) 15 (fun i hi ih => ?_) (by
    refine nw_iload 0 dX5_init_88 rfl rfl ?_
    refine nw_bipush (v := 15) dX5_init_89 (by decide) ?_
    refine nw_ge (tgt := 113) dX5_init_91 (by decide) (fun _ => ?_) (fun h => absurd ((nI_le' (a := 15) (b := 15) (by omega) (by omega)).mpr (by omega)) h)
    exact nw_cs (by omega) (by omega) kk)
  · have e0 : As = As.set 1 (rfA κ 5 15 (adF (b + (n + 17)) 2 0)) ++ fmL (fun j => .inr (0, fsX0 b (n + (17 + 2 * j + 1))) :: asX0 κ b (n + (17 + 2 * j + 1))) 0 := by
      rw [← adF_0, ls_self hs0]
      exact (List.append_nil As).symm
    exact ow_A e0 (nw_cs (by omega) (by omega) h)
  · refine nw_iload 0 dX5_init_88 rfl rfl ?_
    refine nw_bipush (v := 15) dX5_init_89 (by decide) ?_
    refine nw_ge (tgt := 113) dX5_init_91 (by decide) (fun h => absurd ((nI_le' (a := 15) (by omega) (by omega)).mp h) (by omega)) (fun _ => ?_)
    refine nw_aload 1 dX5_init_94 rfl rfl ?_
    refine ow_get (v := .ref (b + (n + 1))) hL hk dX5_init_95 fl_5_19 hf ?_
    refine nw_iload 0 dX5_init_98 rfl rfl ?_
    refine ow_new (cj := 0) (m := 17 + 2 * i) hL hk (hl2 i) dX5_init_99 ck_5_17 (by omega) (by show _ + 4 ≤ _; omega) ?_
    refine nw_dup dX5_init_102 rfl ?_
    refine ow_nest (i := 17 + 2 * i) (Ar := []) (cj := 0) hL hk (by rw [List.length_append, hl2 i]; exact Nat.lt_succ_self _) dX5_init_103 mn_5_44 rfl rfl (c_X0 (n := n + (17 + 2 * i + 1)) ((wS_len hL).trans (by rw [List.length_append, hl2 i]; rfl)) (wS_at hL hk (sl_4 (hl2 i)))) rfl (by decide) (by omega) (by show _ + 4 + 5 ≤ _; omega) (Nat.le_of_ble_eq_true rfl) ?_
    refine ow_A (sl_2 (hl2 i)) ?_
    refine ow_aast (i := 1) (j := 17 + 2 * i) (N' := 15) (cj := 0) (t := 5) (f := adF (b + (n + 17)) 2 i) hL hk dX5_init_106 (by decide) (by rw [List.append_assoc]; exact sl_0 hA (by omega)) rfl (sl_4 (hl2 i)) (nI_in' (by omega) (by omega)) ?_
    refine ow_A (As1 := As.set 1 (rfA κ 5 15 (adF (b + (n + 17)) 2 (i + 1))) ++ fmL (fun j => .inr (0, fsX0 b (n + (17 + 2 * j + 1))) :: asX0 κ b (n + (17 + 2 * j + 1))) (i + 1)) ?_ ?_
    · rw [List.append_assoc, sl_1 hA (by omega), nI_t (by omega), show b + (n + (17 + 2 * i)) = b + (n + 17) + 2 * i by omega, adF_s, fmL_s]
      rfl
    refine nw_iinc (v := nI (i + 1)) (ls1 := [(1, .int (nI (i + 1))), (0, .ref (b + k))]) 0 dX5_init_107 rfl (by rw [show Int32.ofInt 1 = (1 : Int32) by decide, nI_1]) (by decide) rfl ?_
    refine nw_goto (tgt := 88) dX5_init_110 (by decide) ?_
    exact nw_cs (by omega) (by show sn + 9 * i + 4 + 5 = _; omega) ih
def a0X5 (κ : eg_K) (b n : Nat) : List va_E := [rfA κ 4 5 (fun _ => none), rfA κ 5 15 (fun _ => none), inA κ 4 (fun _ => 0), inA κ 4 (fun _ => 0), inA κ 4 (fun _ => 0), inA κ 3 (fun _ => 0), .inr (3, fsX3 b (n + 7))] ++ asX3 κ b (n + 7)
def fsX5 (b n : Nat) : List Value := [.int 0, .ref (b + (n + 0)), .int 0, .ref (b + (n + 1)), .int 0, .int 0, .int 0, .int 0, .ref (b + (n + 2)), .ref (b + (n + 3)), .ref (b + (n + 4)), .ref (b + (n + 5)), .ref (b + (n + 6))]
def asX5 (κ : eg_K) (b n : Nat) : List va_E := ((a0X5 κ b n).set 0 (rfA κ 4 5 (adF (b + (n + 12)) 1 5)) ++ fmL (fun j => .inr (1, fsX1 b (n + (12 + 1 * j + 1))) :: asX1 κ b (n + (12 + 1 * j + 1))) 5).set 1 (rfA κ 5 15 (adF (b + (n + 17)) 2 15)) ++ fmL (fun j => .inr (0, fsX0 b (n + (17 + 2 * j + 1))) :: asX0 κ b (n + (17 + 2 * j + 1))) 15
set_option maxRecDepth 20000 in
theorem c_X5 {κ : eg_K} {b : Nat} {L : List va_E} {k n : Nat} (hL : L.length = n) (he : L[k]? = some (.inr (5, eg_d0 5))) : eg_X κ b mtX5_init 2 47 362 [.ref (b + k)] L (wS L k (asX5 κ b n) 5 (fsX5 b n)) := by
  refine ow_of hL he rfl (Nat.le_of_ble_eq_true rfl) (fun hk => ?_)
  refine nw_aload 0 dX5_init_0 rfl rfl ?_
  refine nw_obj dX5_init_1 oi_5_3 (by decide) ?_
  refine nw_aload 0 dX5_init_4 rfl rfl ?_
  refine nw_iconst (v := 5) dX5_init_5 (by decide) ?_
  refine ow_anew (t := 4) (Cn := RX1) (N' := 5) (m := 0) hL hk rfl dX5_init_6 cl_5_9 (by decide) rfl (by decide) (by decide) (by decide) (Nat.le_of_ble_eq_true rfl) (Nat.le_of_ble_eq_true rfl) ?_
  refine ow_putF hL hk dX5_init_9 fl_5_11 rfl rfl rfl rfl rfl (Nat.le_of_ble_eq_true rfl) ?_
  refine nw_aload 0 dX5_init_12 rfl rfl ?_
  refine nw_bipush (v := 15) dX5_init_13 (by decide) ?_
  refine ow_anew (t := 5) (Cn := RX0) (N' := 15) (m := 1) hL hk rfl dX5_init_15 cl_5_17 (by decide) rfl (by decide) (by decide) (by decide) (Nat.le_of_ble_eq_true rfl) (Nat.le_of_ble_eq_true rfl) ?_
  refine ow_putF hL hk dX5_init_18 fl_5_19 rfl rfl rfl rfl rfl (Nat.le_of_ble_eq_true rfl) ?_
  refine nw_aload 0 dX5_init_21 rfl rfl ?_
  refine nw_iconst (v := 4) dX5_init_22 (by decide) ?_
  refine ow_arr (t := 0) (ty := .int) (a0 := (4, .inl (fun _ => 0))) (N' := 4) (m := 2) hL hk rfl dX5_init_23 rfl ac_int rfl (fun _ h => by cases h) (fun _ => rfl) (by decide) (by decide) (by decide) (Nat.le_of_ble_eq_true rfl) (Nat.le_of_ble_eq_true rfl) ?_
  refine ow_putF hL hk dX5_init_25 fl_5_23 rfl rfl rfl rfl rfl (Nat.le_of_ble_eq_true rfl) ?_
  refine nw_aload 0 dX5_init_28 rfl rfl ?_
  refine nw_iconst (v := 4) dX5_init_29 (by decide) ?_
  refine ow_arr (t := 0) (ty := .int) (a0 := (4, .inl (fun _ => 0))) (N' := 4) (m := 3) hL hk rfl dX5_init_30 rfl ac_int rfl (fun _ h => by cases h) (fun _ => rfl) (by decide) (by decide) (by decide) (Nat.le_of_ble_eq_true rfl) (Nat.le_of_ble_eq_true rfl) ?_
  refine ow_putF hL hk dX5_init_32 fl_5_27 rfl rfl rfl rfl rfl (Nat.le_of_ble_eq_true rfl) ?_
  refine nw_aload 0 dX5_init_35 rfl rfl ?_
  refine nw_iconst (v := 4) dX5_init_36 (by decide) ?_
  refine ow_arr (t := 0) (ty := .int) (a0 := (4, .inl (fun _ => 0))) (N' := 4) (m := 4) hL hk rfl dX5_init_37 rfl ac_int rfl (fun _ h => by cases h) (fun _ => rfl) (by decide) (by decide) (by decide) (Nat.le_of_ble_eq_true rfl) (Nat.le_of_ble_eq_true rfl) ?_
  refine ow_putF hL hk dX5_init_39 fl_5_30 rfl rfl rfl rfl rfl (Nat.le_of_ble_eq_true rfl) ?_
  refine nw_aload 0 dX5_init_42 rfl rfl ?_
  refine nw_iconst (v := 3) dX5_init_43 (by decide) ?_
  refine ow_arr (t := 0) (ty := .int) (a0 := (3, .inl (fun _ => 0))) (N' := 3) (m := 5) hL hk rfl dX5_init_44 rfl ac_int rfl (fun _ h => by cases h) (fun _ => rfl) (by decide) (by decide) (by decide) (Nat.le_of_ble_eq_true rfl) (Nat.le_of_ble_eq_true rfl) ?_
  refine ow_putF hL hk dX5_init_46 fl_5_33 rfl rfl rfl rfl rfl (Nat.le_of_ble_eq_true rfl) ?_
  refine nw_aload 0 dX5_init_49 rfl rfl ?_
  refine ow_new (cj := 3) (m := 6) hL hk rfl dX5_init_50 ck_5_36 (Nat.le_of_ble_eq_true rfl) (Nat.le_of_ble_eq_true rfl) ?_
  refine nw_dup dX5_init_53 rfl ?_
  refine ow_nest (i := 6) (Ar := []) (cj := 3) hL hk (Nat.le_of_ble_eq_true rfl) dX5_init_54 mn_5_38 rfl rfl (c_X3 (n := n + 7) (wS_len hL) (wS_at hL hk rfl)) rfl (by decide) (Nat.le_of_ble_eq_true rfl) (Nat.le_of_ble_eq_true rfl) (Nat.le_of_ble_eq_true rfl) ?_
  refine ow_putF hL hk dX5_init_57 fl_5_39 rfl rfl rfl rfl rfl (Nat.le_of_ble_eq_true rfl) ?_
  refine nw_iconst (v := 0) dX5_init_60 (by decide) ?_
  refine nw_istore (ls1 := [(1, .int 0), (0, .ref (b + k))]) dX5_init_61 rfl (by decide) rfl ?_
  refine ow_A (As1 := a0X5 κ b n) rfl ?_
  refine lp5a (sn := 192) hL hk rfl rfl rfl (Nat.le_of_ble_eq_true rfl) (Nat.le_of_ble_eq_true rfl) ?_
  refine nw_iconst (v := 0) dX5_init_86 (by decide) ?_
  refine nw_istore (ls1 := [(1, .int 0), (0, .ref (b + k))]) dX5_init_87 rfl (by decide) rfl ?_
  refine lp5b (sn := 227) hL hk rfl rfl rfl (Nat.le_of_ble_eq_true rfl) (Nat.le_of_ble_eq_true rfl) ?_
  exact ow_ret hL hk dX5_init_113 rfl (Nat.le_of_ble_eq_true rfl) (Nat.le_of_ble_eq_true rfl) rfl rfl
