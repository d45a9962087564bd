theorem dX0_clear_0 : decode cX0_clear 0 = .ok (.iconst 0, 1) := by decide +kernel
theorem dX0_clear_1 : decode cX0_clear 1 = .ok (.istore_n 1, 1) := by decide +kernel
theorem dX0_clear_2 : decode cX0_clear 2 = .ok (.iload_n 1, 1) := by decide +kernel
theorem dX0_clear_3 : decode cX0_clear 3 = .ok (.iconst 5, 1) := by decide +kernel
theorem dX0_clear_4 : decode cX0_clear 4 = .ok (.if_icmp .ge 16, 3) := by decide +kernel
theorem dX0_clear_7 : decode cX0_clear 7 = .ok (.aload_n 0, 1) := by decide +kernel
theorem dX0_clear_8 : decode cX0_clear 8 = .ok (.getfield 9, 3) := by decide +kernel
theorem dX0_clear_11 : decode cX0_clear 11 = .ok (.iload_n 1, 1) := by decide +kernel
theorem dX0_clear_12 : decode cX0_clear 12 = .ok (.iconst 0, 1) := by decide +kernel
theorem dX0_clear_13 : decode cX0_clear 13 = .ok (.iastore, 1) := by decide +kernel
theorem dX0_clear_14 : decode cX0_clear 14 = .ok (.iinc 1 1, 3) := by decide +kernel
theorem dX0_clear_17 : decode cX0_clear 17 = .ok (.goto (-15), 3) := by decide +kernel
theorem dX0_clear_20 : decode cX0_clear 20 = .ok (.return_, 1) := by decide +kernel
set_option maxRecDepth 10000 in
theorem vX0_clear_0 {κ : eg_K} {d : Nat} {post : eg_H → Prop} (M : eg_H) {l0 : Nat} (hl0 : l0 < 30) (h : eg_W κ gC mtX0_clear d (eQV κ gC post) 2 [(0, vR (0, l0)), (1, vI (0 : Int32))] [] M) : eg_W κ gC mtX0_clear d (eQV κ gC post) 0 [(0, vR (0, l0))] [] M := by
  refine eg_iconst dX0_clear_0 ic_0 ?_
  refine eg_istore_n dX0_clear_1 rfl (by decide) (ls1 := [(1, vI (0 : Int32)), (0, vR (0, l0))]) rfl ?_
  refine eg_sub [1, 0] rfl ?_
  exact h
set_option maxRecDepth 10000 in
theorem vX0_clear_2 {κ : eg_K} {d : Nat} {post : eg_H → Prop} (M : eg_H) {l0 : Nat} (hl0 : l0 < 30) (l1 : Int32) (h : ((5 : Int32) ≤ l1 → post M) ∧ ((¬ (5 : Int32) ≤ l1) → (vp_in l1 5 ∧ (∀ M3 : eg_H, M3 = (sI M (20, l0) l1.toNatClampNeg (0 : Int32)) → (∀ x4 : Int32, x4 = (l1 + (1 : Int32)) → eg_W κ gC mtX0_clear d (eQV κ gC post) 2 [(0, vR (0, l0)), (1, vI x4)] [] M3))))) : eg_W κ gC mtX0_clear d (eQV κ gC post) 2 [(0, vR (0, l0)), (1, vI l1)] [] M := by
  refine eg_iload_n 1 dX0_clear_2 rfl rfl ?_
  refine eg_iconst dX0_clear_3 ic_5 ?_
  refine eg_icmp_ge (tgt := 20) dX0_clear_4 rfl (fun c1 => ?_) (fun c1 => ?_)
  · have h := h.1 c1
    exact eg_vreturn dX0_clear_20 rfl h
  · have h := h.2 c1
    refine eg_aload_n 0 dX0_clear_7 rfl rfl ?_
    refine eg_getR dX0_clear_8 fl_0_9 rfl rfl (obC_0 hl0) ?_
    show eg_W κ gC mtX0_clear d (eQV κ gC post) 11 [(0, vR (0, l0)), (1, vI l1)] [vR (20, l0)] M
    refine eg_iload_n 1 dX0_clear_11 rfl rfl ?_
    refine eg_iconst dX0_clear_12 ic_0 ?_
    obtain ⟨g2, h⟩ := h
    refine en_iastore dX0_clear_13 (arC_20 hl0 g2) (fun M3 eM3 => ?_)
    have h := h M3 eM3
    refine en_iinc (f := fun x4 => [(1, vI x4), (0, vR (0, l0))]) 1 dX0_clear_14 rfl rfl (by decide) rfl (fun x4 ex4 => ?_)
    have h := h x4 ex4
    refine eg_goto (tgt := 2) dX0_clear_17 rfl ?_
    refine eg_sub [1, 0] rfl ?_
    exact h
theorem dX2_wantsLeft_0 : decode cX2_wantsLeft 0 = .ok (.iconst 0, 1) := by decide +kernel
theorem dX2_wantsLeft_1 : decode cX2_wantsLeft 1 = .ok (.istore_n 1, 1) := by decide +kernel
theorem dX2_wantsLeft_2 : decode cX2_wantsLeft 2 = .ok (.iconst 0, 1) := by decide +kernel
theorem dX2_wantsLeft_3 : decode cX2_wantsLeft 3 = .ok (.istore_n 2, 1) := by decide +kernel
theorem dX2_wantsLeft_4 : decode cX2_wantsLeft 4 = .ok (.iload_n 2, 1) := by decide +kernel
theorem dX2_wantsLeft_5 : decode cX2_wantsLeft 5 = .ok (.iconst 5, 1) := by decide +kernel
theorem dX2_wantsLeft_6 : decode cX2_wantsLeft 6 = .ok (.if_icmp .ge 18, 3) := by decide +kernel
theorem dX2_wantsLeft_9 : decode cX2_wantsLeft 9 = .ok (.iload_n 1, 1) := by decide +kernel
theorem dX2_wantsLeft_10 : decode cX2_wantsLeft 10 = .ok (.aload_n 0, 1) := by decide +kernel
theorem dX2_wantsLeft_11 : decode cX2_wantsLeft 11 = .ok (.getfield 9, 3) := by decide +kernel
theorem dX2_wantsLeft_14 : decode cX2_wantsLeft 14 = .ok (.iload_n 2, 1) := by decide +kernel
theorem dX2_wantsLeft_15 : decode cX2_wantsLeft 15 = .ok (.iaload, 1) := by decide +kernel
theorem dX2_wantsLeft_16 : decode cX2_wantsLeft 16 = .ok (.iadd, 1) := by decide +kernel
theorem dX2_wantsLeft_17 : decode cX2_wantsLeft 17 = .ok (.istore_n 1, 1) := by decide +kernel
theorem dX2_wantsLeft_18 : decode cX2_wantsLeft 18 = .ok (.iinc 2 1, 3) := by decide +kernel
theorem dX2_wantsLeft_21 : decode cX2_wantsLeft 21 = .ok (.goto (-17), 3) := by decide +kernel
theorem dX2_wantsLeft_24 : decode cX2_wantsLeft 24 = .ok (.iload_n 1, 1) := by decide +kernel
theorem dX2_wantsLeft_25 : decode cX2_wantsLeft 25 = .ok (.ireturn, 1) := by decide +kernel
set_option maxRecDepth 10000 in
theorem vX2_wantsLeft_0 {κ : eg_K} {d : Nat} {post : Int32 → eg_H → Prop} (M : eg_H) {l0 : Nat} (hl0 : l0 < 60) (h : eg_W κ gC mtX2_wantsLeft d (eQI κ gC post) 4 [(0, vR (2, l0)), (1, vI (0 : Int32)), (2, vI (0 : Int32))] [] M) : eg_W κ gC mtX2_wantsLeft d (eQI κ gC post) 0 [(0, vR (2, l0))] [] M := by
  refine eg_iconst dX2_wantsLeft_0 ic_0 ?_
  refine eg_istore_n dX2_wantsLeft_1 rfl (by decide) (ls1 := [(1, vI (0 : Int32)), (0, vR (2, l0))]) rfl ?_
  refine eg_iconst dX2_wantsLeft_2 ic_0 ?_
  refine eg_istore_n dX2_wantsLeft_3 rfl (by decide) (ls1 := [(2, vI (0 : Int32)), (1, vI (0 : Int32)), (0, vR (2, l0))]) rfl ?_
  refine eg_sub [2, 1, 0] rfl ?_
  exact h
set_option maxRecDepth 10000 in
theorem vX2_wantsLeft_4 {κ : eg_K} {d : Nat} {post : Int32 → eg_H → Prop} (M : eg_H) {l0 : Nat} (hl0 : l0 < 60) (l1 : Int32) (l2 : Int32) (h : ((5 : Int32) ≤ l2 → post l1 M) ∧ ((¬ (5 : Int32) ≤ l2) → (vp_in l2 5 ∧ (∀ x3 : Int32, x3 = (l1 + (M.1 (22, l0) l2.toNatClampNeg)) → (∀ x4 : Int32, x4 = (l2 + (1 : Int32)) → eg_W κ gC mtX2_wantsLeft d (eQI κ gC post) 4 [(0, vR (2, l0)), (1, vI x3), (2, vI x4)] [] M))))) : eg_W κ gC mtX2_wantsLeft d (eQI κ gC post) 4 [(0, vR (2, l0)), (1, vI l1), (2, vI l2)] [] M := by
  refine eg_iload_n 2 dX2_wantsLeft_4 rfl rfl ?_
  refine eg_iconst dX2_wantsLeft_5 ic_5 ?_
  refine eg_icmp_ge (tgt := 24) dX2_wantsLeft_6 rfl (fun c1 => ?_) (fun c1 => ?_)
  · have h := h.1 c1
    refine eg_iload_n 1 dX2_wantsLeft_24 rfl rfl ?_
    exact eg_ireturn dX2_wantsLeft_25 rfl h
  · have h := h.2 c1
    refine eg_iload_n 1 dX2_wantsLeft_9 rfl rfl ?_
    refine eg_aload_n 0 dX2_wantsLeft_10 rfl rfl ?_
    refine eg_getR dX2_wantsLeft_11 fl_2_9 rfl rfl (obC_2 hl0) ?_
    show eg_W κ gC mtX2_wantsLeft d (eQI κ gC post) 14 [(0, vR (2, l0)), (1, vI l1), (2, vI l2)] [vR (22, l0), vI l1] M
    refine eg_iload_n 2 dX2_wantsLeft_14 rfl rfl ?_
    obtain ⟨g2, h⟩ := h
    refine eg_iaload dX2_wantsLeft_15 (arC_22 hl0 g2) ?_
    refine eg_iadd dX2_wantsLeft_16 ?_
    refine en_istore_n (f := fun x3 => [(1, vI x3), (0, vR (2, l0)), (2, vI l2)]) dX2_wantsLeft_17 rfl (by decide) rfl (fun x3 ex3 => ?_)
    have h := h x3 ex3
    refine en_iinc (f := fun x4 => [(2, vI x4), (1, vI x3), (0, vR (2, l0))]) 2 dX2_wantsLeft_18 rfl rfl (by decide) rfl (fun x4 ex4 => ?_)
    have h := h x4 ex4
    refine eg_goto (tgt := 4) dX2_wantsLeft_21 rfl ?_
    refine eg_sub [2, 1, 0] rfl ?_
    exact h
theorem dX5_stationOf_0 : decode cX5_stationOf 0 = .ok (.iconst 0, 1) := by decide +kernel
theorem dX5_stationOf_1 : decode cX5_stationOf 1 = .ok (.istore_n 2, 1) := by decide +kernel
theorem dX5_stationOf_2 : decode cX5_stationOf 2 = .ok (.iload_n 2, 1) := by decide +kernel
theorem dX5_stationOf_3 : decode cX5_stationOf 3 = .ok (.aload_n 0, 1) := by decide +kernel
theorem dX5_stationOf_4 : decode cX5_stationOf 4 = .ok (.getfield 45, 3) := by decide +kernel
theorem dX5_stationOf_7 : decode cX5_stationOf 7 = .ok (.if_icmp .ge 29, 3) := by decide +kernel
theorem dX5_stationOf_10 : decode cX5_stationOf 10 = .ok (.iload_n 2, 1) := by decide +kernel
theorem dX5_stationOf_11 : decode cX5_stationOf 11 = .ok (.iconst 5, 1) := by decide +kernel
theorem dX5_stationOf_12 : decode cX5_stationOf 12 = .ok (.if_icmp .ge 24, 3) := by decide +kernel
theorem dX5_stationOf_15 : decode cX5_stationOf 15 = .ok (.aload_n 0, 1) := by decide +kernel
theorem dX5_stationOf_16 : decode cX5_stationOf 16 = .ok (.getfield 11, 3) := by decide +kernel
theorem dX5_stationOf_19 : decode cX5_stationOf 19 = .ok (.iload_n 2, 1) := by decide +kernel
theorem dX5_stationOf_20 : decode cX5_stationOf 20 = .ok (.aaload, 1) := by decide +kernel
theorem dX5_stationOf_21 : decode cX5_stationOf 21 = .ok (.getfield 84, 3) := by decide +kernel
theorem dX5_stationOf_24 : decode cX5_stationOf 24 = .ok (.iload_n 1, 1) := by decide +kernel
theorem dX5_stationOf_25 : decode cX5_stationOf 25 = .ok (.if_icmp .ne 5, 3) := by decide +kernel
theorem dX5_stationOf_28 : decode cX5_stationOf 28 = .ok (.iload_n 2, 1) := by decide +kernel
theorem dX5_stationOf_29 : decode cX5_stationOf 29 = .ok (.ireturn, 1) := by decide +kernel
theorem dX5_stationOf_30 : decode cX5_stationOf 30 = .ok (.iinc 2 1, 3) := by decide +kernel
theorem dX5_stationOf_33 : decode cX5_stationOf 33 = .ok (.goto (-31), 3) := by decide +kernel
theorem dX5_stationOf_36 : decode cX5_stationOf 36 = .ok (.iconst (-1), 1) := by decide +kernel
theorem dX5_stationOf_37 : decode cX5_stationOf 37 = .ok (.ireturn, 1) := by decide +kernel
set_option maxRecDepth 10000 in
theorem vX5_stationOf_0 {κ : eg_K} {d : Nat} {post : Int32 → eg_H → Prop} (M : eg_H) {l0 : Nat} (hl0 : l0 < 2) (l1 : Int32) (h : eg_W κ gC mtX5_stationOf d (eQI κ gC post) 2 [(0, vR (5, l0)), (1, vI l1), (2, vI (0 : Int32))] [] M) : eg_W κ gC mtX5_stationOf d (eQI κ gC post) 0 [(0, vR (5, l0)), (1, vI l1)] [] M := by
  refine eg_iconst dX5_stationOf_0 ic_0 ?_
  refine eg_istore_n dX5_stationOf_1 rfl (by decide) (ls1 := [(2, vI (0 : Int32)), (0, vR (5, l0)), (1, vI l1)]) rfl ?_
  refine eg_sub [1, 2, 0] rfl ?_
  exact h
set_option maxRecDepth 10000 in
theorem vX5_stationOf_2 {κ : eg_K} {d : Nat} {post : Int32 → eg_H → Prop} (M : eg_H) {l0 : Nat} (hl0 : l0 < 2) (l1 : Int32) (l2 : Int32) (h : ((M.1 (5, l0) 0) ≤ l2 → post (-1 : Int32) M) ∧ ((¬ (M.1 (5, l0) 0) ≤ l2) → ((5 : Int32) ≤ l2 → post (-1 : Int32) M) ∧ ((¬ (5 : Int32) ≤ l2) → (vp_in l2 5 ∧ ((¬ (M.1 (1, 5 * l0 + l2.toNatClampNeg) 0) = l1) → (∀ x5 : Int32, x5 = (l2 + (1 : Int32)) → eg_W κ gC mtX5_stationOf d (eQI κ gC post) 2 [(0, vR (5, l0)), (1, vI l1), (2, vI x5)] [] M)) ∧ ((M.1 (1, 5 * l0 + l2.toNatClampNeg) 0) = l1 → post l2 M))))) : eg_W κ gC mtX5_stationOf d (eQI κ gC post) 2 [(0, vR (5, l0)), (1, vI l1), (2, vI l2)] [] M := by
  refine eg_iload_n 2 dX5_stationOf_2 rfl rfl ?_
  refine eg_aload_n 0 dX5_stationOf_3 rfl rfl ?_
  refine eg_getI dX5_stationOf_4 fl_5_45 rfl trivial (obC_5 hl0) ?_
  refine eg_icmp_ge (tgt := 36) dX5_stationOf_7 rfl (fun c1 => ?_) (fun c1 => ?_)
  · have h := h.1 c1
    refine eg_iconst dX5_stationOf_36 ic_m1 ?_
    exact eg_ireturn dX5_stationOf_37 rfl h
  · have h := h.2 c1
    refine eg_iload_n 2 dX5_stationOf_10 rfl rfl ?_
    refine eg_iconst dX5_stationOf_11 ic_5 ?_
    refine eg_icmp_ge (tgt := 36) dX5_stationOf_12 rfl (fun c2 => ?_) (fun c2 => ?_)
    · have h := h.1 c2
      refine eg_iconst dX5_stationOf_36 ic_m1 ?_
      exact eg_ireturn dX5_stationOf_37 rfl h
    · have h := h.2 c2
      refine eg_aload_n 0 dX5_stationOf_15 rfl rfl ?_
      refine eg_getR dX5_stationOf_16 fl_5_11 rfl rfl (obC_5 hl0) ?_
      show eg_W κ gC mtX5_stationOf d (eQI κ gC post) 19 [(0, vR (5, l0)), (1, vI l1), (2, vI l2)] [vR (30, l0)] M
      refine eg_iload_n 2 dX5_stationOf_19 rfl rfl ?_
      obtain ⟨g3, h⟩ := h
      refine eg_aaload4 dX5_stationOf_20 (arC_30 hl0 g3) ?_
      show eg_W κ gC mtX5_stationOf d (eQI κ gC post) 21 [(0, vR (5, l0)), (1, vI l1), (2, vI l2)] [vR (1, 5 * l0 + l2.toNatClampNeg)] M
      refine eg_getI dX5_stationOf_21 fl_5_84 rfl trivial (obC_1 (ixP5 hl0 g3)) ?_
      refine eg_iload_n 1 dX5_stationOf_24 rfl rfl ?_
      refine eg_icmp_ne (tgt := 30) dX5_stationOf_25 rfl (fun c4 => ?_) (fun c4 => ?_)
      · have h := h.1 c4
        refine en_iinc (f := fun x5 => [(2, vI x5), (0, vR (5, l0)), (1, vI l1)]) 2 dX5_stationOf_30 rfl rfl (by decide) rfl (fun x5 ex5 => ?_)
        have h := h x5 ex5
        refine eg_goto (tgt := 2) dX5_stationOf_33 rfl ?_
        refine eg_sub [1, 2, 0] rfl ?_
        exact h
      · have h := h.2 c4
        refine eg_iload_n 2 dX5_stationOf_28 rfl rfl ?_
        exact eg_ireturn dX5_stationOf_29 rfl h
theorem dX5_guestOf_0 : decode cX5_guestOf 0 = .ok (.iconst 0, 1) := by decide +kernel
theorem dX5_guestOf_1 : decode cX5_guestOf 1 = .ok (.istore_n 2, 1) := by decide +kernel
theorem dX5_guestOf_2 : decode cX5_guestOf 2 = .ok (.iload_n 2, 1) := by decide +kernel
theorem dX5_guestOf_3 : decode cX5_guestOf 3 = .ok (.aload_n 0, 1) := by decide +kernel
theorem dX5_guestOf_4 : decode cX5_guestOf 4 = .ok (.getfield 49, 3) := by decide +kernel
theorem dX5_guestOf_7 : decode cX5_guestOf 7 = .ok (.if_icmp .ge 30, 3) := by decide +kernel
theorem dX5_guestOf_10 : decode cX5_guestOf 10 = .ok (.iload_n 2, 1) := by decide +kernel
theorem dX5_guestOf_11 : decode cX5_guestOf 11 = .ok (.bipush 9, 2) := by decide +kernel
theorem dX5_guestOf_13 : decode cX5_guestOf 13 = .ok (.if_icmp .ge 24, 3) := by decide +kernel
theorem dX5_guestOf_16 : decode cX5_guestOf 16 = .ok (.aload_n 0, 1) := by decide +kernel
theorem dX5_guestOf_17 : decode cX5_guestOf 17 = .ok (.getfield 19, 3) := by decide +kernel
theorem dX5_guestOf_20 : decode cX5_guestOf 20 = .ok (.iload_n 2, 1) := by decide +kernel
theorem dX5_guestOf_21 : decode cX5_guestOf 21 = .ok (.aaload, 1) := by decide +kernel
theorem dX5_guestOf_22 : decode cX5_guestOf 22 = .ok (.getfield 87, 3) := by decide +kernel
theorem dX5_guestOf_25 : decode cX5_guestOf 25 = .ok (.iload_n 1, 1) := by decide +kernel
theorem dX5_guestOf_26 : decode cX5_guestOf 26 = .ok (.if_icmp .ne 5, 3) := by decide +kernel
theorem dX5_guestOf_29 : decode cX5_guestOf 29 = .ok (.iload_n 2, 1) := by decide +kernel
theorem dX5_guestOf_30 : decode cX5_guestOf 30 = .ok (.ireturn, 1) := by decide +kernel
theorem dX5_guestOf_31 : decode cX5_guestOf 31 = .ok (.iinc 2 1, 3) := by decide +kernel
theorem dX5_guestOf_34 : decode cX5_guestOf 34 = .ok (.goto (-32), 3) := by decide +kernel
theorem dX5_guestOf_37 : decode cX5_guestOf 37 = .ok (.iconst (-1), 1) := by decide +kernel
theorem dX5_guestOf_38 : decode cX5_guestOf 38 = .ok (.ireturn, 1) := by decide +kernel
set_option maxRecDepth 10000 in
theorem vX5_guestOf_0 {κ : eg_K} {d : Nat} {post : Int32 → eg_H → Prop} (M : eg_H) {l0 : Nat} (hl0 : l0 < 2) (l1 : Int32) (h : eg_W κ gC mtX5_guestOf d (eQI κ gC post) 2 [(0, vR (5, l0)), (1, vI l1), (2, vI (0 : Int32))] [] M) : eg_W κ gC mtX5_guestOf d (eQI κ gC post) 0 [(0, vR (5, l0)), (1, vI l1)] [] M := by
  refine eg_iconst dX5_guestOf_0 ic_0 ?_
  refine eg_istore_n dX5_guestOf_1 rfl (by decide) (ls1 := [(2, vI (0 : Int32)), (0, vR (5, l0)), (1, vI l1)]) rfl ?_
  refine eg_sub [1, 2, 0] rfl ?_
  exact h
set_option maxRecDepth 10000 in
theorem vX5_guestOf_2 {κ : eg_K} {d : Nat} {post : Int32 → eg_H → Prop} (M : eg_H) {l0 : Nat} (hl0 : l0 < 2) (l1 : Int32) (l2 : Int32) (h : ((M.1 (5, l0) 2) ≤ l2 → post (-1 : Int32) M) ∧ ((¬ (M.1 (5, l0) 2) ≤ l2) → ((9 : Int32) ≤ l2 → post (-1 : Int32) M) ∧ ((¬ (9 : Int32) ≤ l2) → (vp_in l2 15 ∧ ((¬ (M.1 (0, 15 * l0 + l2.toNatClampNeg) 0) = l1) → (∀ x5 : Int32, x5 = (l2 + (1 : Int32)) → eg_W κ gC mtX5_guestOf d (eQI κ gC post) 2 [(0, vR (5, l0)), (1, vI l1), (2, vI x5)] [] M)) ∧ ((M.1 (0, 15 * l0 + l2.toNatClampNeg) 0) = l1 → post l2 M))))) : eg_W κ gC mtX5_guestOf d (eQI κ gC post) 2 [(0, vR (5, l0)), (1, vI l1), (2, vI l2)] [] M := by
  refine eg_iload_n 2 dX5_guestOf_2 rfl rfl ?_
  refine eg_aload_n 0 dX5_guestOf_3 rfl rfl ?_
  refine eg_getI dX5_guestOf_4 fl_5_49 rfl trivial (obC_5 hl0) ?_
  refine eg_icmp_ge (tgt := 37) dX5_guestOf_7 rfl (fun c1 => ?_) (fun c1 => ?_)
  · have h := h.1 c1
    refine eg_iconst dX5_guestOf_37 ic_m1 ?_
    exact eg_ireturn dX5_guestOf_38 rfl h
  · have h := h.2 c1
    refine eg_iload_n 2 dX5_guestOf_10 rfl rfl ?_
    refine eg_bipush dX5_guestOf_11 bp_9 ?_
    refine eg_icmp_ge (tgt := 37) dX5_guestOf_13 rfl (fun c2 => ?_) (fun c2 => ?_)
    · have h := h.1 c2
      refine eg_iconst dX5_guestOf_37 ic_m1 ?_
      exact eg_ireturn dX5_guestOf_38 rfl h
    · have h := h.2 c2
      refine eg_aload_n 0 dX5_guestOf_16 rfl rfl ?_
      refine eg_getR dX5_guestOf_17 fl_5_19 rfl rfl (obC_5 hl0) ?_
      show eg_W κ gC mtX5_guestOf d (eQI κ gC post) 20 [(0, vR (5, l0)), (1, vI l1), (2, vI l2)] [vR (31, l0)] M
      refine eg_iload_n 2 dX5_guestOf_20 rfl rfl ?_
      obtain ⟨g3, h⟩ := h
      refine eg_aaload5 dX5_guestOf_21 (arC_31 hl0 g3) ?_
      show eg_W κ gC mtX5_guestOf d (eQI κ gC post) 22 [(0, vR (5, l0)), (1, vI l1), (2, vI l2)] [vR (0, 15 * l0 + l2.toNatClampNeg)] M
      refine eg_getI dX5_guestOf_22 fl_5_87 rfl trivial (obC_0 (ixP15 hl0 g3)) ?_
      refine eg_iload_n 1 dX5_guestOf_25 rfl rfl ?_
      refine eg_icmp_ne (tgt := 31) dX5_guestOf_26 rfl (fun c4 => ?_) (fun c4 => ?_)
      · have h := h.1 c4
        refine en_iinc (f := fun x5 => [(2, vI x5), (0, vR (5, l0)), (1, vI l1)]) 2 dX5_guestOf_31 rfl rfl (by decide) rfl (fun x5 ex5 => ?_)
        have h := h x5 ex5
        refine eg_goto (tgt := 2) dX5_guestOf_34 rfl ?_
        refine eg_sub [1, 2, 0] rfl ?_
        exact h
      · have h := h.2 c4
        refine eg_iload_n 2 dX5_guestOf_29 rfl rfl ?_
        exact eg_ireturn dX5_guestOf_30 rfl h
theorem dX5_mayOf_0 : decode cX5_mayOf 0 = .ok (.iconst 0, 1) := by decide +kernel
theorem dX5_mayOf_1 : decode cX5_mayOf 1 = .ok (.istore_n 2, 1) := by decide +kernel
theorem dX5_mayOf_2 : decode cX5_mayOf 2 = .ok (.iload_n 2, 1) := by decide +kernel
theorem dX5_mayOf_3 : decode cX5_mayOf 3 = .ok (.aload_n 0, 1) := by decide +kernel
theorem dX5_mayOf_4 : decode cX5_mayOf 4 = .ok (.getfield 62, 3) := by decide +kernel
theorem dX5_mayOf_7 : decode cX5_mayOf 7 = .ok (.if_icmp .ge 26, 3) := by decide +kernel
theorem dX5_mayOf_10 : decode cX5_mayOf 10 = .ok (.iload_n 2, 1) := by decide +kernel
theorem dX5_mayOf_11 : decode cX5_mayOf 11 = .ok (.iconst 4, 1) := by decide +kernel
theorem dX5_mayOf_12 : decode cX5_mayOf 12 = .ok (.if_icmp .ge 21, 3) := by decide +kernel
theorem dX5_mayOf_15 : decode cX5_mayOf 15 = .ok (.aload_n 0, 1) := by decide +kernel
theorem dX5_mayOf_16 : decode cX5_mayOf 16 = .ok (.getfield 23, 3) := by decide +kernel
theorem dX5_mayOf_19 : decode cX5_mayOf 19 = .ok (.iload_n 2, 1) := by decide +kernel
theorem dX5_mayOf_20 : decode cX5_mayOf 20 = .ok (.iaload, 1) := by decide +kernel
theorem dX5_mayOf_21 : decode cX5_mayOf 21 = .ok (.iload_n 1, 1) := by decide +kernel
theorem dX5_mayOf_22 : decode cX5_mayOf 22 = .ok (.if_icmp .ne 5, 3) := by decide +kernel
theorem dX5_mayOf_25 : decode cX5_mayOf 25 = .ok (.iload_n 2, 1) := by decide +kernel
theorem dX5_mayOf_26 : decode cX5_mayOf 26 = .ok (.ireturn, 1) := by decide +kernel
theorem dX5_mayOf_27 : decode cX5_mayOf 27 = .ok (.iinc 2 1, 3) := by decide +kernel
theorem dX5_mayOf_30 : decode cX5_mayOf 30 = .ok (.goto (-28), 3) := by decide +kernel
theorem dX5_mayOf_33 : decode cX5_mayOf 33 = .ok (.iconst (-1), 1) := by decide +kernel
theorem dX5_mayOf_34 : decode cX5_mayOf 34 = .ok (.ireturn, 1) := by decide +kernel
set_option maxRecDepth 10000 in
theorem vX5_mayOf_0 {κ : eg_K} {d : Nat} {post : Int32 → eg_H → Prop} (M : eg_H) {l0 : Nat} (hl0 : l0 < 2) (l1 : Int32) (h : eg_W κ gC mtX5_mayOf d (eQI κ gC post) 2 [(0, vR (5, l0)), (1, vI l1), (2, vI (0 : Int32))] [] M) : eg_W κ gC mtX5_mayOf d (eQI κ gC post) 0 [(0, vR (5, l0)), (1, vI l1)] [] M := by
  refine eg_iconst dX5_mayOf_0 ic_0 ?_
  refine eg_istore_n dX5_mayOf_1 rfl (by decide) (ls1 := [(2, vI (0 : Int32)), (0, vR (5, l0)), (1, vI l1)]) rfl ?_
  refine eg_sub [1, 2, 0] rfl ?_
  exact h
set_option maxRecDepth 10000 in
theorem vX5_mayOf_2 {κ : eg_K} {d : Nat} {post : Int32 → eg_H → Prop} (M : eg_H) {l0 : Nat} (hl0 : l0 < 2) (l1 : Int32) (l2 : Int32) (h : ((M.1 (5, l0) 7) ≤ l2 → post (-1 : Int32) M) ∧ ((¬ (M.1 (5, l0) 7) ≤ l2) → ((4 : Int32) ≤ l2 → post (-1 : Int32) M) ∧ ((¬ (4 : Int32) ≤ l2) → (vp_in l2 4 ∧ ((¬ (M.1 (32, l0) l2.toNatClampNeg) = l1) → (∀ x5 : Int32, x5 = (l2 + (1 : Int32)) → eg_W κ gC mtX5_mayOf d (eQI κ gC post) 2 [(0, vR (5, l0)), (1, vI l1), (2, vI x5)] [] M)) ∧ ((M.1 (32, l0) l2.toNatClampNeg) = l1 → post l2 M))))) : eg_W κ gC mtX5_mayOf d (eQI κ gC post) 2 [(0, vR (5, l0)), (1, vI l1), (2, vI l2)] [] M := by
  refine eg_iload_n 2 dX5_mayOf_2 rfl rfl ?_
  refine eg_aload_n 0 dX5_mayOf_3 rfl rfl ?_
  refine eg_getI dX5_mayOf_4 fl_5_62 rfl trivial (obC_5 hl0) ?_
  refine eg_icmp_ge (tgt := 33) dX5_mayOf_7 rfl (fun c1 => ?_) (fun c1 => ?_)
  · have h := h.1 c1
    refine eg_iconst dX5_mayOf_33 ic_m1 ?_
    exact eg_ireturn dX5_mayOf_34 rfl h
  · have h := h.2 c1
    refine eg_iload_n 2 dX5_mayOf_10 rfl rfl ?_
    refine eg_iconst dX5_mayOf_11 ic_4 ?_
    refine eg_icmp_ge (tgt := 33) dX5_mayOf_12 rfl (fun c2 => ?_) (fun c2 => ?_)
    · have h := h.1 c2
      refine eg_iconst dX5_mayOf_33 ic_m1 ?_
      exact eg_ireturn dX5_mayOf_34 rfl h
    · have h := h.2 c2
      refine eg_aload_n 0 dX5_mayOf_15 rfl rfl ?_
      refine eg_getR dX5_mayOf_16 fl_5_23 rfl rfl (obC_5 hl0) ?_
      show eg_W κ gC mtX5_mayOf d (eQI κ gC post) 19 [(0, vR (5, l0)), (1, vI l1), (2, vI l2)] [vR (32, l0)] M
      refine eg_iload_n 2 dX5_mayOf_19 rfl rfl ?_
      obtain ⟨g3, h⟩ := h
      refine eg_iaload dX5_mayOf_20 (arC_32 hl0 g3) ?_
      refine eg_iload_n 1 dX5_mayOf_21 rfl rfl ?_
      refine eg_icmp_ne (tgt := 27) dX5_mayOf_22 rfl (fun c4 => ?_) (fun c4 => ?_)
      · have h := h.1 c4
        refine en_iinc (f := fun x5 => [(2, vI x5), (0, vR (5, l0)), (1, vI l1)]) 2 dX5_mayOf_27 rfl rfl (by decide) rfl (fun x5 ex5 => ?_)
        have h := h x5 ex5
        refine eg_goto (tgt := 2) dX5_mayOf_30 rfl ?_
        refine eg_sub [1, 2, 0] rfl ?_
        exact h
      · have h := h.2 c4
        refine eg_iload_n 2 dX5_mayOf_25 rfl rfl ?_
        exact eg_ireturn dX5_mayOf_26 rfl h
theorem dX7_takersAt_0 : decode cX7_takersAt 0 = .ok (.iconst 0, 1) := by decide +kernel
theorem dX7_takersAt_1 : decode cX7_takersAt 1 = .ok (.istore_n 2, 1) := by decide +kernel
theorem dX7_takersAt_2 : decode cX7_takersAt 2 = .ok (.iconst 0, 1) := by decide +kernel
theorem dX7_takersAt_3 : decode cX7_takersAt 3 = .ok (.istore_n 3, 1) := by decide +kernel
theorem dX7_takersAt_4 : decode cX7_takersAt 4 = .ok (.iload_n 3, 1) := by decide +kernel
theorem dX7_takersAt_5 : decode cX7_takersAt 5 = .ok (.aload_n 0, 1) := by decide +kernel
theorem dX7_takersAt_6 : decode cX7_takersAt 6 = .ok (.getfield 40, 3) := by decide +kernel
theorem dX7_takersAt_9 : decode cX7_takersAt 9 = .ok (.if_icmp .ge 42, 3) := by decide +kernel
theorem dX7_takersAt_12 : decode cX7_takersAt 12 = .ok (.aload_n 0, 1) := by decide +kernel
theorem dX7_takersAt_13 : decode cX7_takersAt 13 = .ok (.getfield 23, 3) := by decide +kernel
theorem dX7_takersAt_16 : decode cX7_takersAt 16 = .ok (.aload_n 0, 1) := by decide +kernel
theorem dX7_takersAt_17 : decode cX7_takersAt 17 = .ok (.getfield 27, 3) := by decide +kernel
theorem dX7_takersAt_20 : decode cX7_takersAt 20 = .ok (.iload_n 3, 1) := by decide +kernel
theorem dX7_takersAt_21 : decode cX7_takersAt 21 = .ok (.iaload, 1) := by decide +kernel
theorem dX7_takersAt_22 : decode cX7_takersAt 22 = .ok (.aaload, 1) := by decide +kernel
theorem dX7_takersAt_23 : decode cX7_takersAt 23 = .ok (.astore 4, 2) := by decide +kernel
theorem dX7_takersAt_25 : decode cX7_takersAt 25 = .ok (.aload 4, 2) := by decide +kernel
theorem dX7_takersAt_27 : decode cX7_takersAt 27 = .ok (.getfield 125, 3) := by decide +kernel
theorem dX7_takersAt_30 : decode cX7_takersAt 30 = .ok (.ifCond .le 15, 3) := by decide +kernel
theorem dX7_takersAt_33 : decode cX7_takersAt 33 = .ok (.aload 4, 2) := by decide +kernel
theorem dX7_takersAt_35 : decode cX7_takersAt 35 = .ok (.getfield 163, 3) := by decide +kernel
theorem dX7_takersAt_38 : decode cX7_takersAt 38 = .ok (.iload_n 1, 1) := by decide +kernel
theorem dX7_takersAt_39 : decode cX7_takersAt 39 = .ok (.if_icmp .ne 6, 3) := by decide +kernel
theorem dX7_takersAt_42 : decode cX7_takersAt 42 = .ok (.iinc 2 1, 3) := by decide +kernel
theorem dX7_takersAt_45 : decode cX7_takersAt 45 = .ok (.iinc 3 1, 3) := by decide +kernel
theorem dX7_takersAt_48 : decode cX7_takersAt 48 = .ok (.goto (-44), 3) := by decide +kernel
theorem dX7_takersAt_51 : decode cX7_takersAt 51 = .ok (.iload_n 2, 1) := by decide +kernel
theorem dX7_takersAt_52 : decode cX7_takersAt 52 = .ok (.ireturn, 1) := by decide +kernel
set_option maxRecDepth 10000 in
theorem vX7_takersAt_0 {κ : eg_K} {d : Nat} {post : Int32 → eg_H → Prop} (M : eg_H) {l0 : Nat} (hl0 : l0 < 4) (l1 : Int32) (h : eg_W κ gC mtX7_takersAt d (eQI κ gC post) 4 [(0, vR (7, l0)), (1, vI l1), (2, vI (0 : Int32)), (3, vI (0 : Int32))] [] M) : eg_W κ gC mtX7_takersAt d (eQI κ gC post) 0 [(0, vR (7, l0)), (1, vI l1)] [] M := by
  refine eg_iconst dX7_takersAt_0 ic_0 ?_
  refine eg_istore_n dX7_takersAt_1 rfl (by decide) (ls1 := [(2, vI (0 : Int32)), (0, vR (7, l0)), (1, vI l1)]) rfl ?_
  refine eg_iconst dX7_takersAt_2 ic_0 ?_
  refine eg_istore_n dX7_takersAt_3 rfl (by decide) (ls1 := [(3, vI (0 : Int32)), (2, vI (0 : Int32)), (0, vR (7, l0)), (1, vI l1)]) rfl ?_
  refine eg_sub [2, 3, 1, 0] rfl ?_
  exact h
set_option maxRecDepth 10000 in
theorem vX7_takersAt_4 {κ : eg_K} {d : Nat} {post : Int32 → eg_H → Prop} (M : eg_H) {l0 : Nat} (hl0 : l0 < 4) (l1 : Int32) (l2 : Int32) (l3 : Int32) (h : ((M.1 (7, l0) 6) ≤ l3 → post l2 M) ∧ ((¬ (M.1 (7, l0) 6) ≤ l3) → (vp_in l3 15 ∧ (vp_in (M.1 (43, l0) l3.toNatClampNeg) 15 ∧ ((M.1 (2, 15 * l0 + (M.1 (43, l0) l3.toNatClampNeg).toNatClampNeg) 4) ≤ 0 → (∀ x5 : Int32, x5 = (l3 + (1 : Int32)) → eg_W κ gC mtX7_takersAt d (eQI κ gC post) 4 [(0, vR (7, l0)), (1, vI l1), (2, vI l2), (3, vI x5)] [] M)) ∧ ((¬ (M.1 (2, 15 * l0 + (M.1 (43, l0) l3.toNatClampNeg).toNatClampNeg) 4) ≤ 0) → ((¬ (M.1 (2, 15 * l0 + (M.1 (43, l0) l3.toNatClampNeg).toNatClampNeg) 1) = l1) → (∀ x7 : Int32, x7 = (l3 + (1 : Int32)) → eg_W κ gC mtX7_takersAt d (eQI κ gC post) 4 [(0, vR (7, l0)), (1, vI l1), (2, vI l2), (3, vI x7)] [] M)) ∧ ((M.1 (2, 15 * l0 + (M.1 (43, l0) l3.toNatClampNeg).toNatClampNeg) 1) = l1 → (∀ x8 : Int32, x8 = (l2 + (1 : Int32)) → (∀ x9 : Int32, x9 = (l3 + (1 : Int32)) → eg_W κ gC mtX7_takersAt d (eQI κ gC post) 4 [(0, vR (7, l0)), (1, vI l1), (2, vI x8), (3, vI x9)] [] M)))))))) : eg_W κ gC mtX7_takersAt d (eQI κ gC post) 4 [(0, vR (7, l0)), (1, vI l1), (2, vI l2), (3, vI l3)] [] M := by
  refine eg_iload_n 3 dX7_takersAt_4 rfl rfl ?_
  refine eg_aload_n 0 dX7_takersAt_5 rfl rfl ?_
  refine eg_getI dX7_takersAt_6 fl_7_40 rfl trivial (obC_7 hl0) ?_
  refine eg_icmp_ge (tgt := 51) dX7_takersAt_9 rfl (fun c1 => ?_) (fun c1 => ?_)
  · have h := h.1 c1
    refine eg_iload_n 2 dX7_takersAt_51 rfl rfl ?_
    exact eg_ireturn dX7_takersAt_52 rfl h
  · have h := h.2 c1
    refine eg_aload_n 0 dX7_takersAt_12 rfl rfl ?_
    refine eg_getR dX7_takersAt_13 fl_7_23 rfl rfl (obC_7 hl0) ?_
    show eg_W κ gC mtX7_takersAt d (eQI κ gC post) 16 [(0, vR (7, l0)), (1, vI l1), (2, vI l2), (3, vI l3)] [vR (42, l0)] M
    refine eg_aload_n 0 dX7_takersAt_16 rfl rfl ?_
    refine eg_getR dX7_takersAt_17 fl_7_27 rfl rfl (obC_7 hl0) ?_
    show eg_W κ gC mtX7_takersAt d (eQI κ gC post) 20 [(0, vR (7, l0)), (1, vI l1), (2, vI l2), (3, vI l3)] [vR (43, l0), vR (42, l0)] M
    refine eg_iload_n 3 dX7_takersAt_20 rfl rfl ?_
    obtain ⟨g2, h⟩ := h
    refine eg_iaload dX7_takersAt_21 (arC_43 hl0 g2) ?_
    obtain ⟨g3, h⟩ := h
    refine eg_aaload7 dX7_takersAt_22 (arC_42 hl0 g3) ?_
    show eg_W κ gC mtX7_takersAt d (eQI κ gC post) 23 [(0, vR (7, l0)), (1, vI l1), (2, vI l2), (3, vI l3)] [vR (2, 15 * l0 + (M.1 (43, l0) l3.toNatClampNeg).toNatClampNeg)] M
    refine eg_astore dX7_takersAt_23 (by decide) (ls1 := [(4, vR (2, 15 * l0 + (M.1 (43, l0) l3.toNatClampNeg).toNatClampNeg)), (0, vR (7, l0)), (1, vI l1), (2, vI l2), (3, vI l3)]) rfl ?_
    refine eg_aload 0 dX7_takersAt_25 rfl ?_
    refine eg_getI dX7_takersAt_27 fl_7_125 rfl trivial (obC_2 (ixT15 hl0 g3)) ?_
    refine eg_if_le (tgt := 45) dX7_takersAt_30 rfl (fun c4 => ?_) (fun c4 => ?_)
    · have h := h.1 c4
      refine en_iinc (f := fun x5 => [(3, vI x5), (4, vR (2, 15 * l0 + (M.1 (43, l0) l3.toNatClampNeg).toNatClampNeg)), (0, vR (7, l0)), (1, vI l1), (2, vI l2)]) 4 dX7_takersAt_45 rfl rfl (by decide) rfl (fun x5 ex5 => ?_)
      have h := h x5 ex5
      refine eg_goto (tgt := 4) dX7_takersAt_48 rfl ?_
      refine eg_sub [2, 3, 4, 0] rfl ?_
      exact h
    · have h := h.2 c4
      refine eg_aload 0 dX7_takersAt_33 rfl ?_
      refine eg_getI dX7_takersAt_35 fl_7_163 rfl trivial (obC_2 (ixT15 hl0 g3)) ?_
      refine eg_iload_n 2 dX7_takersAt_38 rfl rfl ?_
      refine eg_icmp_ne (tgt := 45) dX7_takersAt_39 rfl (fun c6 => ?_) (fun c6 => ?_)
      · have h := h.1 c6
        refine en_iinc (f := fun x7 => [(3, vI x7), (4, vR (2, 15 * l0 + (M.1 (43, l0) l3.toNatClampNeg).toNatClampNeg)), (0, vR (7, l0)), (1, vI l1), (2, vI l2)]) 4 dX7_takersAt_45 rfl rfl (by decide) rfl (fun x7 ex7 => ?_)
        have h := h x7 ex7
        refine eg_goto (tgt := 4) dX7_takersAt_48 rfl ?_
        refine eg_sub [2, 3, 4, 0] rfl ?_
        exact h
      · have h := h.2 c6
        refine en_iinc (f := fun x8 => [(2, vI x8), (4, vR (2, 15 * l0 + (M.1 (43, l0) l3.toNatClampNeg).toNatClampNeg)), (0, vR (7, l0)), (1, vI l1), (3, vI l3)]) 3 dX7_takersAt_42 rfl rfl (by decide) rfl (fun x8 ex8 => ?_)
        have h := h x8 ex8
        refine en_iinc (f := fun x9 => [(3, vI x9), (2, vI x8), (4, vR (2, 15 * l0 + (M.1 (43, l0) l3.toNatClampNeg).toNatClampNeg)), (0, vR (7, l0)), (1, vI l1)]) 4 dX7_takersAt_45 rfl rfl (by decide) rfl (fun x9 ex9 => ?_)
        have h := h x9 ex9
        refine eg_goto (tgt := 4) dX7_takersAt_48 rfl ?_
        refine eg_sub [3, 4, 1, 0] rfl ?_
        exact h
theorem dX7_nextPlace_0 : decode cX7_nextPlace 0 = .ok (.aload_n 1, 1) := by decide +kernel
theorem dX7_nextPlace_1 : decode cX7_nextPlace 1 = .ok (.getfield 195, 3) := by decide +kernel
theorem dX7_nextPlace_4 : decode cX7_nextPlace 4 = .ok (.ifCond .gt 11, 3) := by decide +kernel
theorem dX7_nextPlace_7 : decode cX7_nextPlace 7 = .ok (.aload_n 0, 1) := by decide +kernel
theorem dX7_nextPlace_8 : decode cX7_nextPlace 8 = .ok (.getfield 30, 3) := by decide +kernel
theorem dX7_nextPlace_11 : decode cX7_nextPlace 11 = .ok (.getfield 49, 3) := by decide +kernel
theorem dX7_nextPlace_14 : decode cX7_nextPlace 14 = .ok (.ireturn, 1) := by decide +kernel
theorem dX7_nextPlace_15 : decode cX7_nextPlace 15 = .ok (.aload_n 1, 1) := by decide +kernel
theorem dX7_nextPlace_16 : decode cX7_nextPlace 16 = .ok (.getfield 169, 3) := by decide +kernel
theorem dX7_nextPlace_19 : decode cX7_nextPlace 19 = .ok (.ifCond .eq 10, 3) := by decide +kernel
theorem dX7_nextPlace_22 : decode cX7_nextPlace 22 = .ok (.aload_n 1, 1) := by decide +kernel
theorem dX7_nextPlace_23 : decode cX7_nextPlace 23 = .ok (.getfield 163, 3) := by decide +kernel
theorem dX7_nextPlace_26 : decode cX7_nextPlace 26 = .ok (.goto 9, 3) := by decide +kernel
theorem dX7_nextPlace_29 : decode cX7_nextPlace 29 = .ok (.aload_n 1, 1) := by decide +kernel
theorem dX7_nextPlace_30 : decode cX7_nextPlace 30 = .ok (.getfield 163, 3) := by decide +kernel
theorem dX7_nextPlace_33 : decode cX7_nextPlace 33 = .ok (.iconst 1, 1) := by decide +kernel
theorem dX7_nextPlace_34 : decode cX7_nextPlace 34 = .ok (.iadd, 1) := by decide +kernel
theorem dX7_nextPlace_35 : decode cX7_nextPlace 35 = .ok (.istore_n 2, 1) := by decide +kernel
theorem dX7_nextPlace_36 : decode cX7_nextPlace 36 = .ok (.iload_n 2, 1) := by decide +kernel
theorem dX7_nextPlace_37 : decode cX7_nextPlace 37 = .ok (.aload_n 0, 1) := by decide +kernel
theorem dX7_nextPlace_38 : decode cX7_nextPlace 38 = .ok (.getfield 30, 3) := by decide +kernel
theorem dX7_nextPlace_41 : decode cX7_nextPlace 41 = .ok (.getfield 49, 3) := by decide +kernel
theorem dX7_nextPlace_44 : decode cX7_nextPlace 44 = .ok (.if_icmp .ge 23, 3) := by decide +kernel
theorem dX7_nextPlace_47 : decode cX7_nextPlace 47 = .ok (.aload_n 1, 1) := by decide +kernel
theorem dX7_nextPlace_48 : decode cX7_nextPlace 48 = .ok (.getfield 198, 3) := by decide +kernel
theorem dX7_nextPlace_51 : decode cX7_nextPlace 51 = .ok (.aload_n 0, 1) := by decide +kernel
theorem dX7_nextPlace_52 : decode cX7_nextPlace 52 = .ok (.getfield 9, 3) := by decide +kernel
theorem dX7_nextPlace_55 : decode cX7_nextPlace 55 = .ok (.iload_n 2, 1) := by decide +kernel
theorem dX7_nextPlace_56 : decode cX7_nextPlace 56 = .ok (.iaload, 1) := by decide +kernel
theorem dX7_nextPlace_57 : decode cX7_nextPlace 57 = .ok (.iaload, 1) := by decide +kernel
theorem dX7_nextPlace_58 : decode cX7_nextPlace 58 = .ok (.ifCond .ne 9, 3) := by decide +kernel
theorem dX7_nextPlace_61 : decode cX7_nextPlace 61 = .ok (.iinc 2 1, 3) := by decide +kernel
theorem dX7_nextPlace_64 : decode cX7_nextPlace 64 = .ok (.goto (-28), 3) := by decide +kernel
theorem dX7_nextPlace_67 : decode cX7_nextPlace 67 = .ok (.iload_n 2, 1) := by decide +kernel
theorem dX7_nextPlace_68 : decode cX7_nextPlace 68 = .ok (.ireturn, 1) := by decide +kernel
set_option maxRecDepth 10000 in
theorem vX7_nextPlace_0 {κ : eg_K} {d : Nat} {post : Int32 → eg_H → Prop} (M : eg_H) {l0 : Nat} (hl0 : l0 < 4) {l1 : Nat} (hl1 : l1 < 60) (h : (0 < (M.1 (2, l1) 2) → (∀ x2 : Int32, x2 = ((if (M.1 (2, l1) 5) = 0 then ((M.1 (2, l1) 1) + (1 : Int32)) else (M.1 (2, l1) 1))) → eg_W κ gC mtX7_nextPlace d (eQI κ gC post) 36 [(0, vR (7, l0)), (1, vR (2, l1)), (2, vI x2)] [] M)) ∧ ((¬ 0 < (M.1 (2, l1) 2)) → (∃ p4 : Nat, p4 < 2 ∧ M.2.2 (7, l0) 0 = (5, p4) ∧ post (M.1 (5, p4) 0) M))) : eg_W κ gC mtX7_nextPlace d (eQI κ gC post) 0 [(0, vR (7, l0)), (1, vR (2, l1))] [] M := by
  refine eg_aload_n 1 dX7_nextPlace_0 rfl rfl ?_
  refine eg_getI dX7_nextPlace_1 fl_7_195 rfl trivial (obC_2 hl1) ?_
  refine eg_if_gt (tgt := 15) dX7_nextPlace_4 rfl (fun c1 => ?_) (fun c1 => ?_)
  · have h := h.1 c1
    refine eg_aload_n 1 dX7_nextPlace_15 rfl rfl ?_
    refine eg_getI dX7_nextPlace_16 fl_7_169 rfl trivial (obC_2 hl1) ?_
    have J : ∀ x2 : Int32, x2 = (if (M.1 (2, l1) 5) = 0 then ((M.1 (2, l1) 1) + (1 : Int32)) else (M.1 (2, l1) 1)) → eg_W κ gC mtX7_nextPlace d (eQI κ gC post) 35 [(0, vR (7, l0)), (1, vR (2, l1))] [vI x2] M := by
      intro x2 ex2
      have h := h x2 ex2
      refine eg_istore_n dX7_nextPlace_35 rfl (by decide) (ls1 := [(2, vI x2), (0, vR (7, l0)), (1, vR (2, l1))]) rfl ?_
      refine eg_sub [1, 2, 0] rfl ?_
      exact h
    clear h
    refine eg_if_eq (tgt := 29) dX7_nextPlace_19 rfl (fun c3 => ?_) (fun c3 => ?_)
    · refine eg_aload_n 1 dX7_nextPlace_29 rfl rfl ?_
      refine eg_getI dX7_nextPlace_30 fl_7_163 rfl trivial (obC_2 hl1) ?_
      refine eg_iconst dX7_nextPlace_33 ic_1 ?_
      refine eg_iadd dX7_nextPlace_34 ?_
      exact J _ (by rw [if_pos c3])
    · refine eg_aload_n 1 dX7_nextPlace_22 rfl rfl ?_
      refine eg_getI dX7_nextPlace_23 fl_7_163 rfl trivial (obC_2 hl1) ?_
      refine eg_goto (tgt := 35) dX7_nextPlace_26 rfl ?_
      exact J _ (by rw [if_neg c3])
  · have h := h.2 c1
    refine eg_aload_n 0 dX7_nextPlace_7 rfl rfl ?_
    refine eg_getD dX7_nextPlace_8 fl_7_30 rfl rfl (obC_7 hl0) ?_
    obtain ⟨p4, hp4, ep4, h⟩ := h
    rw [ep4]
    refine eg_getI dX7_nextPlace_11 fl_7_49 rfl trivial (obC_5 hp4) ?_
    exact eg_ireturn dX7_nextPlace_14 rfl h
set_option maxRecDepth 10000 in
theorem vX7_nextPlace_36 {κ : eg_K} {d : Nat} {post : Int32 → eg_H → Prop} (M : eg_H) {l0 : Nat} (hl0 : l0 < 4) {l1 : Nat} (hl1 : l1 < 60) (l2 : Int32) (h : (∃ p1 : Nat, p1 < 2 ∧ M.2.2 (7, l0) 0 = (5, p1) ∧ ((M.1 (5, p1) 0) ≤ l2 → post l2 M) ∧ ((¬ (M.1 (5, p1) 0) ≤ l2) → (vp_in l2 5 ∧ (vp_in (M.1 (40, l0) l2.toNatClampNeg) 5 ∧ ((¬ (M.1 (22, l1) (M.1 (40, l0) l2.toNatClampNeg).toNatClampNeg) = 0) → post l2 M) ∧ ((M.1 (22, l1) (M.1 (40, l0) l2.toNatClampNeg).toNatClampNeg) = 0 → (∀ x6 : Int32, x6 = (l2 + (1 : Int32)) → eg_W κ gC mtX7_nextPlace d (eQI κ gC post) 36 [(0, vR (7, l0)), (1, vR (2, l1)), (2, vI x6)] [] M))))))) : eg_W κ gC mtX7_nextPlace d (eQI κ gC post) 36 [(0, vR (7, l0)), (1, vR (2, l1)), (2, vI l2)] [] M := by
  refine eg_iload_n 2 dX7_nextPlace_36 rfl rfl ?_
  refine eg_aload_n 0 dX7_nextPlace_37 rfl rfl ?_
  refine eg_getD dX7_nextPlace_38 fl_7_30 rfl rfl (obC_7 hl0) ?_
  obtain ⟨p1, hp1, ep1, h⟩ := h
  rw [ep1]
  refine eg_getI dX7_nextPlace_41 fl_7_49 rfl trivial (obC_5 hp1) ?_
  refine eg_icmp_ge (tgt := 67) dX7_nextPlace_44 rfl (fun c2 => ?_) (fun c2 => ?_)
  · have h := h.1 c2
    refine eg_iload_n 2 dX7_nextPlace_67 rfl rfl ?_
    exact eg_ireturn dX7_nextPlace_68 rfl h
  · have h := h.2 c2
    refine eg_aload_n 1 dX7_nextPlace_47 rfl rfl ?_
    refine eg_getR dX7_nextPlace_48 fl_7_198 rfl rfl (obC_2 hl1) ?_
    show eg_W κ gC mtX7_nextPlace d (eQI κ gC post) 51 [(0, vR (7, l0)), (1, vR (2, l1)), (2, vI l2)] [vR (22, l1)] M
    refine eg_aload_n 0 dX7_nextPlace_51 rfl rfl ?_
    refine eg_getR dX7_nextPlace_52 fl_7_9 rfl rfl (obC_7 hl0) ?_
    show eg_W κ gC mtX7_nextPlace d (eQI κ gC post) 55 [(0, vR (7, l0)), (1, vR (2, l1)), (2, vI l2)] [vR (40, l0), vR (22, l1)] M
    refine eg_iload_n 2 dX7_nextPlace_55 rfl rfl ?_
    obtain ⟨g3, h⟩ := h
    refine eg_iaload dX7_nextPlace_56 (arC_40 hl0 g3) ?_
    obtain ⟨g4, h⟩ := h
    refine eg_iaload dX7_nextPlace_57 (arC_22 hl1 g4) ?_
    refine eg_if_ne (tgt := 67) dX7_nextPlace_58 rfl (fun c5 => ?_) (fun c5 => ?_)
    · have h := h.1 c5
      refine eg_iload_n 2 dX7_nextPlace_67 rfl rfl ?_
      exact eg_ireturn dX7_nextPlace_68 rfl h
    · have h := h.2 c5
      refine en_iinc (f := fun x6 => [(2, vI x6), (0, vR (7, l0)), (1, vR (2, l1))]) 2 dX7_nextPlace_61 rfl rfl (by decide) rfl (fun x6 ex6 => ?_)
      have h := h x6 ex6
      refine eg_goto (tgt := 36) dX7_nextPlace_64 rfl ?_
      refine eg_sub [1, 2, 0] rfl ?_
      exact h
theorem dX7_placeOf_0 : decode cX7_placeOf 0 = .ok (.iconst 0, 1) := by decide +kernel
theorem dX7_placeOf_1 : decode cX7_placeOf 1 = .ok (.istore_n 2, 1) := by decide +kernel
theorem dX7_placeOf_2 : decode cX7_placeOf 2 = .ok (.iload_n 2, 1) := by decide +kernel
theorem dX7_placeOf_3 : decode cX7_placeOf 3 = .ok (.aload_n 0, 1) := by decide +kernel
theorem dX7_placeOf_4 : decode cX7_placeOf 4 = .ok (.getfield 30, 3) := by decide +kernel
theorem dX7_placeOf_7 : decode cX7_placeOf 7 = .ok (.getfield 49, 3) := by decide +kernel
theorem dX7_placeOf_10 : decode cX7_placeOf 10 = .ok (.if_icmp .ge 21, 3) := by decide +kernel
theorem dX7_placeOf_13 : decode cX7_placeOf 13 = .ok (.aload_n 0, 1) := by decide +kernel
theorem dX7_placeOf_14 : decode cX7_placeOf 14 = .ok (.getfield 9, 3) := by decide +kernel
theorem dX7_placeOf_17 : decode cX7_placeOf 17 = .ok (.iload_n 2, 1) := by decide +kernel
theorem dX7_placeOf_18 : decode cX7_placeOf 18 = .ok (.iaload, 1) := by decide +kernel
theorem dX7_placeOf_19 : decode cX7_placeOf 19 = .ok (.iload_n 1, 1) := by decide +kernel
theorem dX7_placeOf_20 : decode cX7_placeOf 20 = .ok (.if_icmp .ne 5, 3) := by decide +kernel
theorem dX7_placeOf_23 : decode cX7_placeOf 23 = .ok (.iload_n 2, 1) := by decide +kernel
theorem dX7_placeOf_24 : decode cX7_placeOf 24 = .ok (.ireturn, 1) := by decide +kernel
theorem dX7_placeOf_25 : decode cX7_placeOf 25 = .ok (.iinc 2 1, 3) := by decide +kernel
theorem dX7_placeOf_28 : decode cX7_placeOf 28 = .ok (.goto (-26), 3) := by decide +kernel
theorem dX7_placeOf_31 : decode cX7_placeOf 31 = .ok (.iconst (-1), 1) := by decide +kernel
theorem dX7_placeOf_32 : decode cX7_placeOf 32 = .ok (.ireturn, 1) := by decide +kernel
set_option maxRecDepth 10000 in
theorem vX7_placeOf_0 {κ : eg_K} {d : Nat} {post : Int32 → eg_H → Prop} (M : eg_H) {l0 : Nat} (hl0 : l0 < 4) (l1 : Int32) (h : eg_W κ gC mtX7_placeOf d (eQI κ gC post) 2 [(0, vR (7, l0)), (1, vI l1), (2, vI (0 : Int32))] [] M) : eg_W κ gC mtX7_placeOf d (eQI κ gC post) 0 [(0, vR (7, l0)), (1, vI l1)] [] M := by
  refine eg_iconst dX7_placeOf_0 ic_0 ?_
  refine eg_istore_n dX7_placeOf_1 rfl (by decide) (ls1 := [(2, vI (0 : Int32)), (0, vR (7, l0)), (1, vI l1)]) rfl ?_
  refine eg_sub [1, 2, 0] rfl ?_
  exact h
set_option maxRecDepth 10000 in
theorem vX7_placeOf_2 {κ : eg_K} {d : Nat} {post : Int32 → eg_H → Prop} (M : eg_H) {l0 : Nat} (hl0 : l0 < 4) (l1 : Int32) (l2 : Int32) (h : (∃ p1 : Nat, p1 < 2 ∧ M.2.2 (7, l0) 0 = (5, p1) ∧ ((M.1 (5, p1) 0) ≤ l2 → post (-1 : Int32) M) ∧ ((¬ (M.1 (5, p1) 0) ≤ l2) → (vp_in l2 5 ∧ ((¬ (M.1 (40, l0) l2.toNatClampNeg) = l1) → (∀ x5 : Int32, x5 = (l2 + (1 : Int32)) → eg_W κ gC mtX7_placeOf d (eQI κ gC post) 2 [(0, vR (7, l0)), (1, vI l1), (2, vI x5)] [] M)) ∧ ((M.1 (40, l0) l2.toNatClampNeg) = l1 → post l2 M))))) : eg_W κ gC mtX7_placeOf d (eQI κ gC post) 2 [(0, vR (7, l0)), (1, vI l1), (2, vI l2)] [] M := by
  refine eg_iload_n 2 dX7_placeOf_2 rfl rfl ?_
  refine eg_aload_n 0 dX7_placeOf_3 rfl rfl ?_
  refine eg_getD dX7_placeOf_4 fl_7_30 rfl rfl (obC_7 hl0) ?_
  obtain ⟨p1, hp1, ep1, h⟩ := h
  rw [ep1]
  refine eg_getI dX7_placeOf_7 fl_7_49 rfl trivial (obC_5 hp1) ?_
  refine eg_icmp_ge (tgt := 31) dX7_placeOf_10 rfl (fun c2 => ?_) (fun c2 => ?_)
  · have h := h.1 c2
    refine eg_iconst dX7_placeOf_31 ic_m1 ?_
    exact eg_ireturn dX7_placeOf_32 rfl h
  · have h := h.2 c2
    refine eg_aload_n 0 dX7_placeOf_13 rfl rfl ?_
    refine eg_getR dX7_placeOf_14 fl_7_9 rfl rfl (obC_7 hl0) ?_
    show eg_W κ gC mtX7_placeOf d (eQI κ gC post) 17 [(0, vR (7, l0)), (1, vI l1), (2, vI l2)] [vR (40, l0)] M
    refine eg_iload_n 2 dX7_placeOf_17 rfl rfl ?_
    obtain ⟨g3, h⟩ := h
    refine eg_iaload dX7_placeOf_18 (arC_40 hl0 g3) ?_
    refine eg_iload_n 1 dX7_placeOf_19 rfl rfl ?_
    refine eg_icmp_ne (tgt := 25) dX7_placeOf_20 rfl (fun c4 => ?_) (fun c4 => ?_)
    · have h := h.1 c4
      refine en_iinc (f := fun x5 => [(2, vI x5), (0, vR (7, l0)), (1, vI l1)]) 2 dX7_placeOf_25 rfl rfl (by decide) rfl (fun x5 ex5 => ?_)
      have h := h x5 ex5
      refine eg_goto (tgt := 2) dX7_placeOf_28 rfl ?_
      refine eg_sub [1, 2, 0] rfl ?_
      exact h
    · have h := h.2 c4
      refine eg_iload_n 2 dX7_placeOf_23 rfl rfl ?_
      exact eg_ireturn dX7_placeOf_24 rfl h
theorem dX7_waitedByAll_0 : decode cX7_waitedByAll 0 = .ok (.iconst 0, 1) := by decide +kernel
theorem dX7_waitedByAll_1 : decode cX7_waitedByAll 1 = .ok (.istore_n 1, 1) := by decide +kernel
theorem dX7_waitedByAll_2 : decode cX7_waitedByAll 2 = .ok (.iconst 0, 1) := by decide +kernel
theorem dX7_waitedByAll_3 : decode cX7_waitedByAll 3 = .ok (.istore_n 2, 1) := by decide +kernel
theorem dX7_waitedByAll_4 : decode cX7_waitedByAll 4 = .ok (.iload_n 2, 1) := by decide +kernel
theorem dX7_waitedByAll_5 : decode cX7_waitedByAll 5 = .ok (.aload_n 0, 1) := by decide +kernel
theorem dX7_waitedByAll_6 : decode cX7_waitedByAll 6 = .ok (.getfield 30, 3) := by decide +kernel
theorem dX7_waitedByAll_9 : decode cX7_waitedByAll 9 = .ok (.getfield 62, 3) := by decide +kernel
theorem dX7_waitedByAll_12 : decode cX7_waitedByAll 12 = .ok (.if_icmp .ge 21, 3) := by decide +kernel
theorem dX7_waitedByAll_15 : decode cX7_waitedByAll 15 = .ok (.iload_n 1, 1) := by decide +kernel
theorem dX7_waitedByAll_16 : decode cX7_waitedByAll 16 = .ok (.aload_n 0, 1) := by decide +kernel
theorem dX7_waitedByAll_17 : decode cX7_waitedByAll 17 = .ok (.getfield 23, 3) := by decide +kernel
theorem dX7_waitedByAll_20 : decode cX7_waitedByAll 20 = .ok (.iload_n 2, 1) := by decide +kernel
theorem dX7_waitedByAll_21 : decode cX7_waitedByAll 21 = .ok (.aaload, 1) := by decide +kernel
theorem dX7_waitedByAll_22 : decode cX7_waitedByAll 22 = .ok (.getfield 128, 3) := by decide +kernel
theorem dX7_waitedByAll_25 : decode cX7_waitedByAll 25 = .ok (.iadd, 1) := by decide +kernel
theorem dX7_waitedByAll_26 : decode cX7_waitedByAll 26 = .ok (.istore_n 1, 1) := by decide +kernel
theorem dX7_waitedByAll_27 : decode cX7_waitedByAll 27 = .ok (.iinc 2 1, 3) := by decide +kernel
theorem dX7_waitedByAll_30 : decode cX7_waitedByAll 30 = .ok (.goto (-26), 3) := by decide +kernel
theorem dX7_waitedByAll_33 : decode cX7_waitedByAll 33 = .ok (.iload_n 1, 1) := by decide +kernel
theorem dX7_waitedByAll_34 : decode cX7_waitedByAll 34 = .ok (.ireturn, 1) := by decide +kernel
set_option maxRecDepth 10000 in
theorem vX7_waitedByAll_0 {κ : eg_K} {d : Nat} {post : Int32 → eg_H → Prop} (M : eg_H) {l0 : Nat} (hl0 : l0 < 4) (h : eg_W κ gC mtX7_waitedByAll d (eQI κ gC post) 4 [(0, vR (7, l0)), (1, vI (0 : Int32)), (2, vI (0 : Int32))] [] M) : eg_W κ gC mtX7_waitedByAll d (eQI κ gC post) 0 [(0, vR (7, l0))] [] M := by
  refine eg_iconst dX7_waitedByAll_0 ic_0 ?_
  refine eg_istore_n dX7_waitedByAll_1 rfl (by decide) (ls1 := [(1, vI (0 : Int32)), (0, vR (7, l0))]) rfl ?_
  refine eg_iconst dX7_waitedByAll_2 ic_0 ?_
  refine eg_istore_n dX7_waitedByAll_3 rfl (by decide) (ls1 := [(2, vI (0 : Int32)), (1, vI (0 : Int32)), (0, vR (7, l0))]) rfl ?_
  refine eg_sub [2, 1, 0] rfl ?_
  exact h
set_option maxRecDepth 10000 in
theorem vX7_waitedByAll_4 {κ : eg_K} {d : Nat} {post : Int32 → eg_H → Prop} (M : eg_H) {l0 : Nat} (hl0 : l0 < 4) (l1 : Int32) (l2 : Int32) (h : (∃ p1 : Nat, p1 < 2 ∧ M.2.2 (7, l0) 0 = (5, p1) ∧ ((M.1 (5, p1) 2) ≤ l2 → post l1 M) ∧ ((¬ (M.1 (5, p1) 2) ≤ l2) → (vp_in l2 15 ∧ (∀ x4 : Int32, x4 = (l1 + (M.1 (2, 15 * l0 + l2.toNatClampNeg) 7)) → (∀ x5 : Int32, x5 = (l2 + (1 : Int32)) → eg_W κ gC mtX7_waitedByAll d (eQI κ gC post) 4 [(0, vR (7, l0)), (1, vI x4), (2, vI x5)] [] M)))))) : eg_W κ gC mtX7_waitedByAll d (eQI κ gC post) 4 [(0, vR (7, l0)), (1, vI l1), (2, vI l2)] [] M := by
  refine eg_iload_n 2 dX7_waitedByAll_4 rfl rfl ?_
  refine eg_aload_n 0 dX7_waitedByAll_5 rfl rfl ?_
  refine eg_getD dX7_waitedByAll_6 fl_7_30 rfl rfl (obC_7 hl0) ?_
  obtain ⟨p1, hp1, ep1, h⟩ := h
  rw [ep1]
  refine eg_getI dX7_waitedByAll_9 fl_7_62 rfl trivial (obC_5 hp1) ?_
  refine eg_icmp_ge (tgt := 33) dX7_waitedByAll_12 rfl (fun c2 => ?_) (fun c2 => ?_)
  · have h := h.1 c2
    refine eg_iload_n 1 dX7_waitedByAll_33 rfl rfl ?_
    exact eg_ireturn dX7_waitedByAll_34 rfl h
  · have h := h.2 c2
    refine eg_iload_n 1 dX7_waitedByAll_15 rfl rfl ?_
    refine eg_aload_n 0 dX7_waitedByAll_16 rfl rfl ?_
    refine eg_getR dX7_waitedByAll_17 fl_7_23 rfl rfl (obC_7 hl0) ?_
    show eg_W κ gC mtX7_waitedByAll d (eQI κ gC post) 20 [(0, vR (7, l0)), (1, vI l1), (2, vI l2)] [vR (42, l0), vI l1] M
    refine eg_iload_n 2 dX7_waitedByAll_20 rfl rfl ?_
    obtain ⟨g3, h⟩ := h
    refine eg_aaload7 dX7_waitedByAll_21 (arC_42 hl0 g3) ?_
    show eg_W κ gC mtX7_waitedByAll d (eQI κ gC post) 22 [(0, vR (7, l0)), (1, vI l1), (2, vI l2)] [vR (2, 15 * l0 + l2.toNatClampNeg), vI l1] M
    refine eg_getI dX7_waitedByAll_22 fl_7_128 rfl trivial (obC_2 (ixT15 hl0 g3)) ?_
    refine eg_iadd dX7_waitedByAll_25 ?_
    refine en_istore_n (f := fun x4 => [(1, vI x4), (0, vR (7, l0)), (2, vI l2)]) dX7_waitedByAll_26 rfl (by decide) rfl (fun x4 ex4 => ?_)
    have h := h x4 ex4
    refine en_iinc (f := fun x5 => [(2, vI x5), (1, vI x4), (0, vR (7, l0))]) 2 dX7_waitedByAll_27 rfl rfl (by decide) rfl (fun x5 ex5 => ?_)
    have h := h x5 ex5
    refine eg_goto (tgt := 4) dX7_waitedByAll_30 rfl ?_
    refine eg_sub [2, 1, 0] rfl ?_
    exact h
theorem dX7_takenInAll_0 : decode cX7_takenInAll 0 = .ok (.iconst 0, 1) := by decide +kernel
theorem dX7_takenInAll_1 : decode cX7_takenInAll 1 = .ok (.istore_n 1, 1) := by decide +kernel
theorem dX7_takenInAll_2 : decode cX7_takenInAll 2 = .ok (.iconst 0, 1) := by decide +kernel
theorem dX7_takenInAll_3 : decode cX7_takenInAll 3 = .ok (.istore_n 2, 1) := by decide +kernel
theorem dX7_takenInAll_4 : decode cX7_takenInAll 4 = .ok (.iload_n 2, 1) := by decide +kernel
theorem dX7_takenInAll_5 : decode cX7_takenInAll 5 = .ok (.aload_n 0, 1) := by decide +kernel
theorem dX7_takenInAll_6 : decode cX7_takenInAll 6 = .ok (.getfield 30, 3) := by decide +kernel
theorem dX7_takenInAll_9 : decode cX7_takenInAll 9 = .ok (.getfield 49, 3) := by decide +kernel
theorem dX7_takenInAll_12 : decode cX7_takenInAll 12 = .ok (.if_icmp .ge 21, 3) := by decide +kernel
theorem dX7_takenInAll_15 : decode cX7_takenInAll 15 = .ok (.iload_n 1, 1) := by decide +kernel
theorem dX7_takenInAll_16 : decode cX7_takenInAll 16 = .ok (.aload_n 0, 1) := by decide +kernel
theorem dX7_takenInAll_17 : decode cX7_takenInAll 17 = .ok (.getfield 17, 3) := by decide +kernel
theorem dX7_takenInAll_20 : decode cX7_takenInAll 20 = .ok (.iload_n 2, 1) := by decide +kernel
theorem dX7_takenInAll_21 : decode cX7_takenInAll 21 = .ok (.aaload, 1) := by decide +kernel
theorem dX7_takenInAll_22 : decode cX7_takenInAll 22 = .ok (.getfield 216, 3) := by decide +kernel
theorem dX7_takenInAll_25 : decode cX7_takenInAll 25 = .ok (.iadd, 1) := by decide +kernel
theorem dX7_takenInAll_26 : decode cX7_takenInAll 26 = .ok (.istore_n 1, 1) := by decide +kernel
theorem dX7_takenInAll_27 : decode cX7_takenInAll 27 = .ok (.iinc 2 1, 3) := by decide +kernel
theorem dX7_takenInAll_30 : decode cX7_takenInAll 30 = .ok (.goto (-26), 3) := by decide +kernel
theorem dX7_takenInAll_33 : decode cX7_takenInAll 33 = .ok (.iload_n 1, 1) := by decide +kernel
theorem dX7_takenInAll_34 : decode cX7_takenInAll 34 = .ok (.ireturn, 1) := by decide +kernel
set_option maxRecDepth 10000 in
theorem vX7_takenInAll_0 {κ : eg_K} {d : Nat} {post : Int32 → eg_H → Prop} (M : eg_H) {l0 : Nat} (hl0 : l0 < 4) (h : eg_W κ gC mtX7_takenInAll d (eQI κ gC post) 4 [(0, vR (7, l0)), (1, vI (0 : Int32)), (2, vI (0 : Int32))] [] M) : eg_W κ gC mtX7_takenInAll d (eQI κ gC post) 0 [(0, vR (7, l0))] [] M := by
  refine eg_iconst dX7_takenInAll_0 ic_0 ?_
  refine eg_istore_n dX7_takenInAll_1 rfl (by decide) (ls1 := [(1, vI (0 : Int32)), (0, vR (7, l0))]) rfl ?_
  refine eg_iconst dX7_takenInAll_2 ic_0 ?_
  refine eg_istore_n dX7_takenInAll_3 rfl (by decide) (ls1 := [(2, vI (0 : Int32)), (1, vI (0 : Int32)), (0, vR (7, l0))]) rfl ?_
  refine eg_sub [2, 1, 0] rfl ?_
  exact h
set_option maxRecDepth 10000 in
theorem vX7_takenInAll_4 {κ : eg_K} {d : Nat} {post : Int32 → eg_H → Prop} (M : eg_H) {l0 : Nat} (hl0 : l0 < 4) (l1 : Int32) (l2 : Int32) (h : (∃ p1 : Nat, p1 < 2 ∧ M.2.2 (7, l0) 0 = (5, p1) ∧ ((M.1 (5, p1) 0) ≤ l2 → post l1 M) ∧ ((¬ (M.1 (5, p1) 0) ≤ l2) → (vp_in l2 5 ∧ (∀ x4 : Int32, x4 = (l1 + (M.1 (4, 5 * l0 + l2.toNatClampNeg) 3)) → (∀ x5 : Int32, x5 = (l2 + (1 : Int32)) → eg_W κ gC mtX7_takenInAll d (eQI κ gC post) 4 [(0, vR (7, l0)), (1, vI x4), (2, vI x5)] [] M)))))) : eg_W κ gC mtX7_takenInAll d (eQI κ gC post) 4 [(0, vR (7, l0)), (1, vI l1), (2, vI l2)] [] M := by
  refine eg_iload_n 2 dX7_takenInAll_4 rfl rfl ?_
  refine eg_aload_n 0 dX7_takenInAll_5 rfl rfl ?_
  refine eg_getD dX7_takenInAll_6 fl_7_30 rfl rfl (obC_7 hl0) ?_
  obtain ⟨p1, hp1, ep1, h⟩ := h
  rw [ep1]
  refine eg_getI dX7_takenInAll_9 fl_7_49 rfl trivial (obC_5 hp1) ?_
  refine eg_icmp_ge (tgt := 33) dX7_takenInAll_12 rfl (fun c2 => ?_) (fun c2 => ?_)
  · have h := h.1 c2
    refine eg_iload_n 1 dX7_takenInAll_33 rfl rfl ?_
    exact eg_ireturn dX7_takenInAll_34 rfl h
  · have h := h.2 c2
    refine eg_iload_n 1 dX7_takenInAll_15 rfl rfl ?_
    refine eg_aload_n 0 dX7_takenInAll_16 rfl rfl ?_
    refine eg_getR dX7_takenInAll_17 fl_7_17 rfl rfl (obC_7 hl0) ?_
    show eg_W κ gC mtX7_takenInAll d (eQI κ gC post) 20 [(0, vR (7, l0)), (1, vI l1), (2, vI l2)] [vR (41, l0), vI l1] M
    refine eg_iload_n 2 dX7_takenInAll_20 rfl rfl ?_
    obtain ⟨g3, h⟩ := h
    refine eg_aaload6 dX7_takenInAll_21 (arC_41 hl0 g3) ?_
    show eg_W κ gC mtX7_takenInAll d (eQI κ gC post) 22 [(0, vR (7, l0)), (1, vI l1), (2, vI l2)] [vR (4, 5 * l0 + l2.toNatClampNeg), vI l1] M
    refine eg_getI dX7_takenInAll_22 fl_7_216 rfl trivial (obC_4 (ixT5 hl0 g3)) ?_
    refine eg_iadd dX7_takenInAll_25 ?_
    refine en_istore_n (f := fun x4 => [(1, vI x4), (0, vR (7, l0)), (2, vI l2)]) dX7_takenInAll_26 rfl (by decide) rfl (fun x4 ex4 => ?_)
    have h := h x4 ex4
    refine en_iinc (f := fun x5 => [(2, vI x5), (1, vI x4), (0, vR (7, l0))]) 2 dX7_takenInAll_27 rfl rfl (by decide) rfl (fun x5 ex5 => ?_)
    have h := h x5 ex5
    refine eg_goto (tgt := 4) dX7_takenInAll_30 rfl ?_
    refine eg_sub [2, 1, 0] rfl ?_
    exact h
theorem dX7_leftInAll_0 : decode cX7_leftInAll 0 = .ok (.iconst 0, 1) := by decide +kernel
theorem dX7_leftInAll_1 : decode cX7_leftInAll 1 = .ok (.istore_n 1, 1) := by decide +kernel
theorem dX7_leftInAll_2 : decode cX7_leftInAll 2 = .ok (.iconst 0, 1) := by decide +kernel
theorem dX7_leftInAll_3 : decode cX7_leftInAll 3 = .ok (.istore_n 2, 1) := by decide +kernel
theorem dX7_leftInAll_4 : decode cX7_leftInAll 4 = .ok (.iload_n 2, 1) := by decide +kernel
theorem dX7_leftInAll_5 : decode cX7_leftInAll 5 = .ok (.aload_n 0, 1) := by decide +kernel
theorem dX7_leftInAll_6 : decode cX7_leftInAll 6 = .ok (.getfield 30, 3) := by decide +kernel
theorem dX7_leftInAll_9 : decode cX7_leftInAll 9 = .ok (.getfield 62, 3) := by decide +kernel
theorem dX7_leftInAll_12 : decode cX7_leftInAll 12 = .ok (.if_icmp .ge 21, 3) := by decide +kernel
theorem dX7_leftInAll_15 : decode cX7_leftInAll 15 = .ok (.iload_n 1, 1) := by decide +kernel
theorem dX7_leftInAll_16 : decode cX7_leftInAll 16 = .ok (.aload_n 0, 1) := by decide +kernel
theorem dX7_leftInAll_17 : decode cX7_leftInAll 17 = .ok (.getfield 23, 3) := by decide +kernel
theorem dX7_leftInAll_20 : decode cX7_leftInAll 20 = .ok (.iload_n 2, 1) := by decide +kernel
theorem dX7_leftInAll_21 : decode cX7_leftInAll 21 = .ok (.aaload, 1) := by decide +kernel
theorem dX7_leftInAll_22 : decode cX7_leftInAll 22 = .ok (.getfield 233, 3) := by decide +kernel
theorem dX7_leftInAll_25 : decode cX7_leftInAll 25 = .ok (.iadd, 1) := by decide +kernel
theorem dX7_leftInAll_26 : decode cX7_leftInAll 26 = .ok (.istore_n 1, 1) := by decide +kernel
theorem dX7_leftInAll_27 : decode cX7_leftInAll 27 = .ok (.iinc 2 1, 3) := by decide +kernel
theorem dX7_leftInAll_30 : decode cX7_leftInAll 30 = .ok (.goto (-26), 3) := by decide +kernel
theorem dX7_leftInAll_33 : decode cX7_leftInAll 33 = .ok (.iload_n 1, 1) := by decide +kernel
theorem dX7_leftInAll_34 : decode cX7_leftInAll 34 = .ok (.ireturn, 1) := by decide +kernel
set_option maxRecDepth 10000 in
theorem vX7_leftInAll_0 {κ : eg_K} {d : Nat} {post : Int32 → eg_H → Prop} (M : eg_H) {l0 : Nat} (hl0 : l0 < 4) (h : eg_W κ gC mtX7_leftInAll d (eQI κ gC post) 4 [(0, vR (7, l0)), (1, vI (0 : Int32)), (2, vI (0 : Int32))] [] M) : eg_W κ gC mtX7_leftInAll d (eQI κ gC post) 0 [(0, vR (7, l0))] [] M := by
  refine eg_iconst dX7_leftInAll_0 ic_0 ?_
  refine eg_istore_n dX7_leftInAll_1 rfl (by decide) (ls1 := [(1, vI (0 : Int32)), (0, vR (7, l0))]) rfl ?_
  refine eg_iconst dX7_leftInAll_2 ic_0 ?_
  refine eg_istore_n dX7_leftInAll_3 rfl (by decide) (ls1 := [(2, vI (0 : Int32)), (1, vI (0 : Int32)), (0, vR (7, l0))]) rfl ?_
  refine eg_sub [2, 1, 0] rfl ?_
  exact h
set_option maxRecDepth 10000 in
theorem vX7_leftInAll_4 {κ : eg_K} {d : Nat} {post : Int32 → eg_H → Prop} (M : eg_H) {l0 : Nat} (hl0 : l0 < 4) (l1 : Int32) (l2 : Int32) (h : (∃ p1 : Nat, p1 < 2 ∧ M.2.2 (7, l0) 0 = (5, p1) ∧ ((M.1 (5, p1) 2) ≤ l2 → post l1 M) ∧ ((¬ (M.1 (5, p1) 2) ≤ l2) → (vp_in l2 15 ∧ (∀ x4 : Int32, x4 = (l1 + (M.1 (2, 15 * l0 + l2.toNatClampNeg) 10)) → (∀ x5 : Int32, x5 = (l2 + (1 : Int32)) → eg_W κ gC mtX7_leftInAll d (eQI κ gC post) 4 [(0, vR (7, l0)), (1, vI x4), (2, vI x5)] [] M)))))) : eg_W κ gC mtX7_leftInAll d (eQI κ gC post) 4 [(0, vR (7, l0)), (1, vI l1), (2, vI l2)] [] M := by
  refine eg_iload_n 2 dX7_leftInAll_4 rfl rfl ?_
  refine eg_aload_n 0 dX7_leftInAll_5 rfl rfl ?_
  refine eg_getD dX7_leftInAll_6 fl_7_30 rfl rfl (obC_7 hl0) ?_
  obtain ⟨p1, hp1, ep1, h⟩ := h
  rw [ep1]
  refine eg_getI dX7_leftInAll_9 fl_7_62 rfl trivial (obC_5 hp1) ?_
  refine eg_icmp_ge (tgt := 33) dX7_leftInAll_12 rfl (fun c2 => ?_) (fun c2 => ?_)
  · have h := h.1 c2
    refine eg_iload_n 1 dX7_leftInAll_33 rfl rfl ?_
    exact eg_ireturn dX7_leftInAll_34 rfl h
  · have h := h.2 c2
    refine eg_iload_n 1 dX7_leftInAll_15 rfl rfl ?_
    refine eg_aload_n 0 dX7_leftInAll_16 rfl rfl ?_
    refine eg_getR dX7_leftInAll_17 fl_7_23 rfl rfl (obC_7 hl0) ?_
    show eg_W κ gC mtX7_leftInAll d (eQI κ gC post) 20 [(0, vR (7, l0)), (1, vI l1), (2, vI l2)] [vR (42, l0), vI l1] M
    refine eg_iload_n 2 dX7_leftInAll_20 rfl rfl ?_
    obtain ⟨g3, h⟩ := h
    refine eg_aaload7 dX7_leftInAll_21 (arC_42 hl0 g3) ?_
    show eg_W κ gC mtX7_leftInAll d (eQI κ gC post) 22 [(0, vR (7, l0)), (1, vI l1), (2, vI l2)] [vR (2, 15 * l0 + l2.toNatClampNeg), vI l1] M
    refine eg_getI dX7_leftInAll_22 fl_7_233 rfl trivial (obC_2 (ixT15 hl0 g3)) ?_
    refine eg_iadd dX7_leftInAll_25 ?_
    refine en_istore_n (f := fun x4 => [(1, vI x4), (0, vR (7, l0)), (2, vI l2)]) dX7_leftInAll_26 rfl (by decide) rfl (fun x4 ex4 => ?_)
    have h := h x4 ex4
    refine en_iinc (f := fun x5 => [(2, vI x5), (1, vI x4), (0, vR (7, l0))]) 2 dX7_leftInAll_27 rfl rfl (by decide) rfl (fun x5 ex5 => ?_)
    have h := h x5 ex5
    refine eg_goto (tgt := 4) dX7_leftInAll_30 rfl ?_
    refine eg_sub [2, 1, 0] rfl ?_
    exact h
theorem dX7_cameAgain_0 : decode cX7_cameAgain 0 = .ok (.iconst 0, 1) := by decide +kernel
theorem dX7_cameAgain_1 : decode cX7_cameAgain 1 = .ok (.istore_n 1, 1) := by decide +kernel
theorem dX7_cameAgain_2 : decode cX7_cameAgain 2 = .ok (.iconst 0, 1) := by decide +kernel
theorem dX7_cameAgain_3 : decode cX7_cameAgain 3 = .ok (.istore_n 2, 1) := by decide +kernel
theorem dX7_cameAgain_4 : decode cX7_cameAgain 4 = .ok (.iload_n 2, 1) := by decide +kernel
theorem dX7_cameAgain_5 : decode cX7_cameAgain 5 = .ok (.aload_n 0, 1) := by decide +kernel
theorem dX7_cameAgain_6 : decode cX7_cameAgain 6 = .ok (.getfield 30, 3) := by decide +kernel
theorem dX7_cameAgain_9 : decode cX7_cameAgain 9 = .ok (.getfield 62, 3) := by decide +kernel
theorem dX7_cameAgain_12 : decode cX7_cameAgain 12 = .ok (.if_icmp .ge 40, 3) := by decide +kernel
theorem dX7_cameAgain_15 : decode cX7_cameAgain 15 = .ok (.iload_n 1, 1) := by decide +kernel
theorem dX7_cameAgain_16 : decode cX7_cameAgain 16 = .ok (.aload_n 0, 1) := by decide +kernel
theorem dX7_cameAgain_17 : decode cX7_cameAgain 17 = .ok (.getfield 23, 3) := by decide +kernel
theorem dX7_cameAgain_20 : decode cX7_cameAgain 20 = .ok (.iload_n 2, 1) := by decide +kernel
theorem dX7_cameAgain_21 : decode cX7_cameAgain 21 = .ok (.aaload, 1) := by decide +kernel
theorem dX7_cameAgain_22 : decode cX7_cameAgain 22 = .ok (.getfield 146, 3) := by decide +kernel
theorem dX7_cameAgain_25 : decode cX7_cameAgain 25 = .ok (.iconst 1, 1) := by decide +kernel
theorem dX7_cameAgain_26 : decode cX7_cameAgain 26 = .ok (.if_icmp .le 17, 3) := by decide +kernel
theorem dX7_cameAgain_29 : decode cX7_cameAgain 29 = .ok (.aload_n 0, 1) := by decide +kernel
theorem dX7_cameAgain_30 : decode cX7_cameAgain 30 = .ok (.getfield 23, 3) := by decide +kernel
theorem dX7_cameAgain_33 : decode cX7_cameAgain 33 = .ok (.iload_n 2, 1) := by decide +kernel
theorem dX7_cameAgain_34 : decode cX7_cameAgain 34 = .ok (.aaload, 1) := by decide +kernel
theorem dX7_cameAgain_35 : decode cX7_cameAgain 35 = .ok (.getfield 146, 3) := by decide +kernel
theorem dX7_cameAgain_38 : decode cX7_cameAgain 38 = .ok (.iconst 1, 1) := by decide +kernel
theorem dX7_cameAgain_39 : decode cX7_cameAgain 39 = .ok (.isub, 1) := by decide +kernel
theorem dX7_cameAgain_40 : decode cX7_cameAgain 40 = .ok (.goto 4, 3) := by decide +kernel
theorem dX7_cameAgain_43 : decode cX7_cameAgain 43 = .ok (.iconst 0, 1) := by decide +kernel
theorem dX7_cameAgain_44 : decode cX7_cameAgain 44 = .ok (.iadd, 1) := by decide +kernel
theorem dX7_cameAgain_45 : decode cX7_cameAgain 45 = .ok (.istore_n 1, 1) := by decide +kernel
theorem dX7_cameAgain_46 : decode cX7_cameAgain 46 = .ok (.iinc 2 1, 3) := by decide +kernel
theorem dX7_cameAgain_49 : decode cX7_cameAgain 49 = .ok (.goto (-45), 3) := by decide +kernel
theorem dX7_cameAgain_52 : decode cX7_cameAgain 52 = .ok (.iload_n 1, 1) := by decide +kernel
theorem dX7_cameAgain_53 : decode cX7_cameAgain 53 = .ok (.ireturn, 1) := by decide +kernel
set_option maxRecDepth 10000 in
theorem vX7_cameAgain_0 {κ : eg_K} {d : Nat} {post : Int32 → eg_H → Prop} (M : eg_H) {l0 : Nat} (hl0 : l0 < 4) (h : eg_W κ gC mtX7_cameAgain d (eQI κ gC post) 4 [(0, vR (7, l0)), (1, vI (0 : Int32)), (2, vI (0 : Int32))] [] M) : eg_W κ gC mtX7_cameAgain d (eQI κ gC post) 0 [(0, vR (7, l0))] [] M := by
  refine eg_iconst dX7_cameAgain_0 ic_0 ?_
  refine eg_istore_n dX7_cameAgain_1 rfl (by decide) (ls1 := [(1, vI (0 : Int32)), (0, vR (7, l0))]) rfl ?_
  refine eg_iconst dX7_cameAgain_2 ic_0 ?_
  refine eg_istore_n dX7_cameAgain_3 rfl (by decide) (ls1 := [(2, vI (0 : Int32)), (1, vI (0 : Int32)), (0, vR (7, l0))]) rfl ?_
  refine eg_sub [2, 1, 0] rfl ?_
  exact h
set_option maxRecDepth 10000 in
theorem vX7_cameAgain_4 {κ : eg_K} {d : Nat} {post : Int32 → eg_H → Prop} (M : eg_H) {l0 : Nat} (hl0 : l0 < 4) (l1 : Int32) (l2 : Int32) (h : (∃ p1 : Nat, p1 < 2 ∧ M.2.2 (7, l0) 0 = (5, p1) ∧ ((M.1 (5, p1) 2) ≤ l2 → post l1 M) ∧ ((¬ (M.1 (5, p1) 2) ≤ l2) → (vp_in l2 15 ∧ (∀ x4 : Int32, x4 = ((if (M.1 (2, 15 * l0 + l2.toNatClampNeg) 12) ≤ (1 : Int32) then (0 : Int32) else ((M.1 (2, 15 * l0 + l2.toNatClampNeg) 12) - (1 : Int32)))) → (∀ x5 : Int32, x5 = (l1 + x4) → (∀ x6 : Int32, x6 = (l2 + (1 : Int32)) → eg_W κ gC mtX7_cameAgain d (eQI κ gC post) 4 [(0, vR (7, l0)), (1, vI x5), (2, vI x6)] [] M))))))) : eg_W κ gC mtX7_cameAgain d (eQI κ gC post) 4 [(0, vR (7, l0)), (1, vI l1), (2, vI l2)] [] M := by
  refine eg_iload_n 2 dX7_cameAgain_4 rfl rfl ?_
  refine eg_aload_n 0 dX7_cameAgain_5 rfl rfl ?_
  refine eg_getD dX7_cameAgain_6 fl_7_30 rfl rfl (obC_7 hl0) ?_
  obtain ⟨p1, hp1, ep1, h⟩ := h
  rw [ep1]
  refine eg_getI dX7_cameAgain_9 fl_7_62 rfl trivial (obC_5 hp1) ?_
  refine eg_icmp_ge (tgt := 52) dX7_cameAgain_12 rfl (fun c2 => ?_) (fun c2 => ?_)
  · have h := h.1 c2
    refine eg_iload_n 1 dX7_cameAgain_52 rfl rfl ?_
    exact eg_ireturn dX7_cameAgain_53 rfl h
  · have h := h.2 c2
    refine eg_iload_n 1 dX7_cameAgain_15 rfl rfl ?_
    refine eg_aload_n 0 dX7_cameAgain_16 rfl rfl ?_
    refine eg_getR dX7_cameAgain_17 fl_7_23 rfl rfl (obC_7 hl0) ?_
    show eg_W κ gC mtX7_cameAgain d (eQI κ gC post) 20 [(0, vR (7, l0)), (1, vI l1), (2, vI l2)] [vR (42, l0), vI l1] M
    refine eg_iload_n 2 dX7_cameAgain_20 rfl rfl ?_
    obtain ⟨g3, h⟩ := h
    refine eg_aaload7 dX7_cameAgain_21 (arC_42 hl0 g3) ?_
    show eg_W κ gC mtX7_cameAgain d (eQI κ gC post) 22 [(0, vR (7, l0)), (1, vI l1), (2, vI l2)] [vR (2, 15 * l0 + l2.toNatClampNeg), vI l1] M
    refine eg_getI dX7_cameAgain_22 fl_7_146 rfl trivial (obC_2 (ixT15 hl0 g3)) ?_
    refine eg_iconst dX7_cameAgain_25 ic_1 ?_
    have J : ∀ x4 : Int32, x4 = (if (M.1 (2, 15 * l0 + l2.toNatClampNeg) 12) ≤ (1 : Int32) then (0 : Int32) else ((M.1 (2, 15 * l0 + l2.toNatClampNeg) 12) - (1 : Int32))) → eg_W κ gC mtX7_cameAgain d (eQI κ gC post) 44 [(0, vR (7, l0)), (1, vI l1), (2, vI l2)] [vI x4, vI l1] M := by
      intro x4 ex4
      have h := h x4 ex4
      refine eg_iadd dX7_cameAgain_44 ?_
      refine en_istore_n (f := fun x5 => [(1, vI x5), (0, vR (7, l0)), (2, vI l2)]) dX7_cameAgain_45 rfl (by decide) rfl (fun x5 ex5 => ?_)
      have h := h x5 ex5
      refine en_iinc (f := fun x6 => [(2, vI x6), (1, vI x5), (0, vR (7, l0))]) 2 dX7_cameAgain_46 rfl rfl (by decide) rfl (fun x6 ex6 => ?_)
      have h := h x6 ex6
      refine eg_goto (tgt := 4) dX7_cameAgain_49 rfl ?_
      refine eg_sub [2, 1, 0] rfl ?_
      exact h
    clear h
    refine eg_icmp_le (tgt := 43) dX7_cameAgain_26 rfl (fun c7 => ?_) (fun c7 => ?_)
    · refine eg_iconst dX7_cameAgain_43 ic_0 ?_
      exact J _ (by rw [if_pos c7])
    · refine eg_aload_n 0 dX7_cameAgain_29 rfl rfl ?_
      refine eg_getR dX7_cameAgain_30 fl_7_23 rfl rfl (obC_7 hl0) ?_
      show eg_W κ gC mtX7_cameAgain d (eQI κ gC post) 33 [(0, vR (7, l0)), (1, vI l1), (2, vI l2)] [vR (42, l0), vI l1] M
      refine eg_iload_n 2 dX7_cameAgain_33 rfl rfl ?_
      refine eg_aaload7 dX7_cameAgain_34 (arC_42 hl0 g3) ?_
      show eg_W κ gC mtX7_cameAgain d (eQI κ gC post) 35 [(0, vR (7, l0)), (1, vI l1), (2, vI l2)] [vR (2, 15 * l0 + l2.toNatClampNeg), vI l1] M
      refine eg_getI dX7_cameAgain_35 fl_7_146 rfl trivial (obC_2 (ixT15 hl0 g3)) ?_
      refine eg_iconst dX7_cameAgain_38 ic_1 ?_
      refine eg_isub dX7_cameAgain_39 ?_
      refine eg_goto (tgt := 44) dX7_cameAgain_40 rfl ?_
      exact J _ (by rw [if_neg c7])
theorem dX7_portionsInAll_0 : decode cX7_portionsInAll 0 = .ok (.iconst 0, 1) := by decide +kernel
theorem dX7_portionsInAll_1 : decode cX7_portionsInAll 1 = .ok (.istore_n 1, 1) := by decide +kernel
theorem dX7_portionsInAll_2 : decode cX7_portionsInAll 2 = .ok (.iconst 0, 1) := by decide +kernel
theorem dX7_portionsInAll_3 : decode cX7_portionsInAll 3 = .ok (.istore_n 2, 1) := by decide +kernel
theorem dX7_portionsInAll_4 : decode cX7_portionsInAll 4 = .ok (.iload_n 2, 1) := by decide +kernel
theorem dX7_portionsInAll_5 : decode cX7_portionsInAll 5 = .ok (.aload_n 0, 1) := by decide +kernel
theorem dX7_portionsInAll_6 : decode cX7_portionsInAll 6 = .ok (.getfield 30, 3) := by decide +kernel
theorem dX7_portionsInAll_9 : decode cX7_portionsInAll 9 = .ok (.getfield 49, 3) := by decide +kernel
theorem dX7_portionsInAll_12 : decode cX7_portionsInAll 12 = .ok (.if_icmp .ge 21, 3) := by decide +kernel
theorem dX7_portionsInAll_15 : decode cX7_portionsInAll 15 = .ok (.iload_n 1, 1) := by decide +kernel
theorem dX7_portionsInAll_16 : decode cX7_portionsInAll 16 = .ok (.aload_n 0, 1) := by decide +kernel
theorem dX7_portionsInAll_17 : decode cX7_portionsInAll 17 = .ok (.getfield 17, 3) := by decide +kernel
theorem dX7_portionsInAll_20 : decode cX7_portionsInAll 20 = .ok (.iload_n 2, 1) := by decide +kernel
theorem dX7_portionsInAll_21 : decode cX7_portionsInAll 21 = .ok (.aaload, 1) := by decide +kernel
theorem dX7_portionsInAll_22 : decode cX7_portionsInAll 22 = .ok (.getfield 142, 3) := by decide +kernel
theorem dX7_portionsInAll_25 : decode cX7_portionsInAll 25 = .ok (.iadd, 1) := by decide +kernel
theorem dX7_portionsInAll_26 : decode cX7_portionsInAll 26 = .ok (.istore_n 1, 1) := by decide +kernel
theorem dX7_portionsInAll_27 : decode cX7_portionsInAll 27 = .ok (.iinc 2 1, 3) := by decide +kernel
theorem dX7_portionsInAll_30 : decode cX7_portionsInAll 30 = .ok (.goto (-26), 3) := by decide +kernel
theorem dX7_portionsInAll_33 : decode cX7_portionsInAll 33 = .ok (.iload_n 1, 1) := by decide +kernel
theorem dX7_portionsInAll_34 : decode cX7_portionsInAll 34 = .ok (.ireturn, 1) := by decide +kernel
set_option maxRecDepth 10000 in
theorem vX7_portionsInAll_0 {κ : eg_K} {d : Nat} {post : Int32 → eg_H → Prop} (M : eg_H) {l0 : Nat} (hl0 : l0 < 4) (h : eg_W κ gC mtX7_portionsInAll d (eQI κ gC post) 4 [(0, vR (7, l0)), (1, vI (0 : Int32)), (2, vI (0 : Int32))] [] M) : eg_W κ gC mtX7_portionsInAll d (eQI κ gC post) 0 [(0, vR (7, l0))] [] M := by
  refine eg_iconst dX7_portionsInAll_0 ic_0 ?_
  refine eg_istore_n dX7_portionsInAll_1 rfl (by decide) (ls1 := [(1, vI (0 : Int32)), (0, vR (7, l0))]) rfl ?_
  refine eg_iconst dX7_portionsInAll_2 ic_0 ?_
  refine eg_istore_n dX7_portionsInAll_3 rfl (by decide) (ls1 := [(2, vI (0 : Int32)), (1, vI (0 : Int32)), (0, vR (7, l0))]) rfl ?_
  refine eg_sub [2, 1, 0] rfl ?_
  exact h
set_option maxRecDepth 10000 in
theorem vX7_portionsInAll_4 {κ : eg_K} {d : Nat} {post : Int32 → eg_H → Prop} (M : eg_H) {l0 : Nat} (hl0 : l0 < 4) (l1 : Int32) (l2 : Int32) (h : (∃ p1 : Nat, p1 < 2 ∧ M.2.2 (7, l0) 0 = (5, p1) ∧ ((M.1 (5, p1) 0) ≤ l2 → post l1 M) ∧ ((¬ (M.1 (5, p1) 0) ≤ l2) → (vp_in l2 5 ∧ (∀ x4 : Int32, x4 = (l1 + (M.1 (4, 5 * l0 + l2.toNatClampNeg) 0)) → (∀ x5 : Int32, x5 = (l2 + (1 : Int32)) → eg_W κ gC mtX7_portionsInAll d (eQI κ gC post) 4 [(0, vR (7, l0)), (1, vI x4), (2, vI x5)] [] M)))))) : eg_W κ gC mtX7_portionsInAll d (eQI κ gC post) 4 [(0, vR (7, l0)), (1, vI l1), (2, vI l2)] [] M := by
  refine eg_iload_n 2 dX7_portionsInAll_4 rfl rfl ?_
  refine eg_aload_n 0 dX7_portionsInAll_5 rfl rfl ?_
  refine eg_getD dX7_portionsInAll_6 fl_7_30 rfl rfl (obC_7 hl0) ?_
  obtain ⟨p1, hp1, ep1, h⟩ := h
  rw [ep1]
  refine eg_getI dX7_portionsInAll_9 fl_7_49 rfl trivial (obC_5 hp1) ?_
  refine eg_icmp_ge (tgt := 33) dX7_portionsInAll_12 rfl (fun c2 => ?_) (fun c2 => ?_)
  · have h := h.1 c2
    refine eg_iload_n 1 dX7_portionsInAll_33 rfl rfl ?_
    exact eg_ireturn dX7_portionsInAll_34 rfl h
  · have h := h.2 c2
    refine eg_iload_n 1 dX7_portionsInAll_15 rfl rfl ?_
    refine eg_aload_n 0 dX7_portionsInAll_16 rfl rfl ?_
    refine eg_getR dX7_portionsInAll_17 fl_7_17 rfl rfl (obC_7 hl0) ?_
    show eg_W κ gC mtX7_portionsInAll d (eQI κ gC post) 20 [(0, vR (7, l0)), (1, vI l1), (2, vI l2)] [vR (41, l0), vI l1] M
    refine eg_iload_n 2 dX7_portionsInAll_20 rfl rfl ?_
    obtain ⟨g3, h⟩ := h
    refine eg_aaload6 dX7_portionsInAll_21 (arC_41 hl0 g3) ?_
    show eg_W κ gC mtX7_portionsInAll d (eQI κ gC post) 22 [(0, vR (7, l0)), (1, vI l1), (2, vI l2)] [vR (4, 5 * l0 + l2.toNatClampNeg), vI l1] M
    refine eg_getI dX7_portionsInAll_22 fl_7_142 rfl trivial (obC_4 (ixT5 hl0 g3)) ?_
    refine eg_iadd dX7_portionsInAll_25 ?_
    refine en_istore_n (f := fun x4 => [(1, vI x4), (0, vR (7, l0)), (2, vI l2)]) dX7_portionsInAll_26 rfl (by decide) rfl (fun x4 ex4 => ?_)
    have h := h x4 ex4
    refine en_iinc (f := fun x5 => [(2, vI x5), (1, vI x4), (0, vR (7, l0))]) 2 dX7_portionsInAll_27 rfl rfl (by decide) rfl (fun x5 ex5 => ?_)
    have h := h x5 ex5
    refine eg_goto (tgt := 4) dX7_portionsInAll_30 rfl ?_
    refine eg_sub [2, 1, 0] rfl ?_
    exact h
theorem dX8_nextSecond_0 : decode cX8_nextSecond 0 = .ok (.iconst (-1), 1) := by decide +kernel
theorem dX8_nextSecond_1 : decode cX8_nextSecond 1 = .ok (.istore_n 2, 1) := by decide +kernel
theorem dX8_nextSecond_2 : decode cX8_nextSecond 2 = .ok (.iconst 0, 1) := by decide +kernel
theorem dX8_nextSecond_3 : decode cX8_nextSecond 3 = .ok (.istore_n 3, 1) := by decide +kernel
theorem dX8_nextSecond_4 : decode cX8_nextSecond 4 = .ok (.iload_n 3, 1) := by decide +kernel
theorem dX8_nextSecond_5 : decode cX8_nextSecond 5 = .ok (.aload_n 0, 1) := by decide +kernel
theorem dX8_nextSecond_6 : decode cX8_nextSecond 6 = .ok (.getfield 28, 3) := by decide +kernel
theorem dX8_nextSecond_9 : decode cX8_nextSecond 9 = .ok (.if_icmp .ge 72, 3) := by decide +kernel
theorem dX8_nextSecond_12 : decode cX8_nextSecond 12 = .ok (.aload_n 0, 1) := by decide +kernel
theorem dX8_nextSecond_13 : decode cX8_nextSecond 13 = .ok (.getfield 24, 3) := by decide +kernel
theorem dX8_nextSecond_16 : decode cX8_nextSecond 16 = .ok (.iload_n 3, 1) := by decide +kernel
theorem dX8_nextSecond_17 : decode cX8_nextSecond 17 = .ok (.baload, 1) := by decide +kernel
theorem dX8_nextSecond_18 : decode cX8_nextSecond 18 = .ok (.ifCond .eq 27, 3) := by decide +kernel
theorem dX8_nextSecond_21 : decode cX8_nextSecond 21 = .ok (.aload_n 0, 1) := by decide +kernel
theorem dX8_nextSecond_22 : decode cX8_nextSecond 22 = .ok (.getfield 9, 3) := by decide +kernel
theorem dX8_nextSecond_25 : decode cX8_nextSecond 25 = .ok (.iload_n 3, 1) := by decide +kernel
theorem dX8_nextSecond_26 : decode cX8_nextSecond 26 = .ok (.iaload, 1) := by decide +kernel
theorem dX8_nextSecond_27 : decode cX8_nextSecond 27 = .ok (.iconst (-1), 1) := by decide +kernel
theorem dX8_nextSecond_28 : decode cX8_nextSecond 28 = .ok (.if_icmp .eq 17, 3) := by decide +kernel
theorem dX8_nextSecond_31 : decode cX8_nextSecond 31 = .ok (.aload_n 0, 1) := by decide +kernel
theorem dX8_nextSecond_32 : decode cX8_nextSecond 32 = .ok (.getfield 15, 3) := by decide +kernel
theorem dX8_nextSecond_35 : decode cX8_nextSecond 35 = .ok (.iload_n 3, 1) := by decide +kernel
theorem dX8_nextSecond_36 : decode cX8_nextSecond 36 = .ok (.iaload, 1) := by decide +kernel
theorem dX8_nextSecond_37 : decode cX8_nextSecond 37 = .ok (.iload_n 1, 1) := by decide +kernel
theorem dX8_nextSecond_38 : decode cX8_nextSecond 38 = .ok (.if_icmp .lt 7, 3) := by decide +kernel
theorem dX8_nextSecond_41 : decode cX8_nextSecond 41 = .ok (.iconst 1, 1) := by decide +kernel
theorem dX8_nextSecond_42 : decode cX8_nextSecond 42 = .ok (.goto 4, 3) := by decide +kernel
theorem dX8_nextSecond_45 : decode cX8_nextSecond 45 = .ok (.iconst 0, 1) := by decide +kernel
theorem dX8_nextSecond_46 : decode cX8_nextSecond 46 = .ok (.istore 4, 2) := by decide +kernel
theorem dX8_nextSecond_48 : decode cX8_nextSecond 48 = .ok (.iload 4, 2) := by decide +kernel
theorem dX8_nextSecond_50 : decode cX8_nextSecond 50 = .ok (.ifCond .eq 25, 3) := by decide +kernel
theorem dX8_nextSecond_53 : decode cX8_nextSecond 53 = .ok (.iload_n 2, 1) := by decide +kernel
theorem dX8_nextSecond_54 : decode cX8_nextSecond 54 = .ok (.iconst (-1), 1) := by decide +kernel
theorem dX8_nextSecond_55 : decode cX8_nextSecond 55 = .ok (.if_icmp .eq 13, 3) := by decide +kernel
theorem dX8_nextSecond_58 : decode cX8_nextSecond 58 = .ok (.aload_n 0, 1) := by decide +kernel
theorem dX8_nextSecond_59 : decode cX8_nextSecond 59 = .ok (.getfield 15, 3) := by decide +kernel
theorem dX8_nextSecond_62 : decode cX8_nextSecond 62 = .ok (.iload_n 3, 1) := by decide +kernel
theorem dX8_nextSecond_63 : decode cX8_nextSecond 63 = .ok (.iaload, 1) := by decide +kernel
theorem dX8_nextSecond_64 : decode cX8_nextSecond 64 = .ok (.iload_n 2, 1) := by decide +kernel
theorem dX8_nextSecond_65 : decode cX8_nextSecond 65 = .ok (.if_icmp .ge 10, 3) := by decide +kernel
theorem dX8_nextSecond_68 : decode cX8_nextSecond 68 = .ok (.aload_n 0, 1) := by decide +kernel
theorem dX8_nextSecond_69 : decode cX8_nextSecond 69 = .ok (.getfield 15, 3) := by decide +kernel
theorem dX8_nextSecond_72 : decode cX8_nextSecond 72 = .ok (.iload_n 3, 1) := by decide +kernel
theorem dX8_nextSecond_73 : decode cX8_nextSecond 73 = .ok (.iaload, 1) := by decide +kernel
theorem dX8_nextSecond_74 : decode cX8_nextSecond 74 = .ok (.istore_n 2, 1) := by decide +kernel
theorem dX8_nextSecond_75 : decode cX8_nextSecond 75 = .ok (.iinc 3 1, 3) := by decide +kernel
theorem dX8_nextSecond_78 : decode cX8_nextSecond 78 = .ok (.goto (-74), 3) := by decide +kernel
theorem dX8_nextSecond_81 : decode cX8_nextSecond 81 = .ok (.iload_n 2, 1) := by decide +kernel
theorem dX8_nextSecond_82 : decode cX8_nextSecond 82 = .ok (.ireturn, 1) := by decide +kernel
set_option maxRecDepth 10000 in
theorem vX8_nextSecond_0 {κ : eg_K} {d : Nat} {post : Int32 → eg_H → Prop} (M : eg_H) (l1 : Int32) (h : eg_W κ gC mtX8_nextSecond d (eQI κ gC post) 4 [(0, vR (8, 0)), (1, vI l1), (2, vI (-1 : Int32)), (3, vI (0 : Int32))] [] M) : eg_W κ gC mtX8_nextSecond d (eQI κ gC post) 0 [(0, vR (8, 0)), (1, vI l1)] [] M := by
  refine eg_iconst dX8_nextSecond_0 ic_m1 ?_
  refine eg_istore_n dX8_nextSecond_1 rfl (by decide) (ls1 := [(2, vI (-1 : Int32)), (0, vR (8, 0)), (1, vI l1)]) rfl ?_
  refine eg_iconst dX8_nextSecond_2 ic_0 ?_
  refine eg_istore_n dX8_nextSecond_3 rfl (by decide) (ls1 := [(3, vI (0 : Int32)), (2, vI (-1 : Int32)), (0, vR (8, 0)), (1, vI l1)]) rfl ?_
  refine eg_sub [2, 3, 1, 0] rfl ?_
  exact h
set_option maxRecDepth 10000 in
theorem vX8_nextSecond_4 {κ : eg_K} {d : Nat} {post : Int32 → eg_H → Prop} (M : eg_H) (l1 : Int32) (l2 : Int32) (l3 : Int32) (h : ((M.1 (8, 0) 0) ≤ l3 → post l2 M) ∧ ((¬ (M.1 (8, 0) 0) ≤ l3) → (vp_in l3 40 ∧ (∀ x3 : Int32, x3 = ((if (M.1 (48, 0) l3.toNatClampNeg) = 0 then (0 : Int32) else (if (M.1 (44, 0) l3.toNatClampNeg) = (-1 : Int32) then (0 : Int32) else (if (M.1 (45, 0) l3.toNatClampNeg) < l1 then (0 : Int32) else (1 : Int32))))) → (x3 = 0 → (∀ x5 : Int32, x5 = (l3 + (1 : Int32)) → eg_W κ gC mtX8_nextSecond d (eQI κ gC post) 4 [(0, vR (8, 0)), (1, vI l1), (2, vI l2), (3, vI x5)] [] M)) ∧ ((¬ x3 = 0) → (l2 = (-1 : Int32) → (∀ x7 : Int32, x7 = (M.1 (45, 0) l3.toNatClampNeg) → (∀ x8 : Int32, x8 = (l3 + (1 : Int32)) → eg_W κ gC mtX8_nextSecond d (eQI κ gC post) 4 [(0, vR (8, 0)), (1, vI l1), (2, vI x7), (3, vI x8)] [] M))) ∧ ((¬ l2 = (-1 : Int32)) → (l2 ≤ (M.1 (45, 0) l3.toNatClampNeg) → (∀ x10 : Int32, x10 = (l3 + (1 : Int32)) → eg_W κ gC mtX8_nextSecond d (eQI κ gC post) 4 [(0, vR (8, 0)), (1, vI l1), (2, vI l2), (3, vI x10)] [] M)) ∧ ((¬ l2 ≤ (M.1 (45, 0) l3.toNatClampNeg)) → (∀ x11 : Int32, x11 = (M.1 (45, 0) l3.toNatClampNeg) → (∀ x12 : Int32, x12 = (l3 + (1 : Int32)) → eg_W κ gC mtX8_nextSecond d (eQI κ gC post) 4 [(0, vR (8, 0)), (1, vI l1), (2, vI x11), (3, vI x12)] [] M))))))))) : eg_W κ gC mtX8_nextSecond d (eQI κ gC post) 4 [(0, vR (8, 0)), (1, vI l1), (2, vI l2), (3, vI l3)] [] M := by
  refine eg_iload_n 3 dX8_nextSecond_4 rfl rfl ?_
  refine eg_aload_n 0 dX8_nextSecond_5 rfl rfl ?_
  refine eg_getI dX8_nextSecond_6 fl_8_28 rfl trivial (obC_8 z1) ?_
  refine eg_icmp_ge (tgt := 81) dX8_nextSecond_9 rfl (fun c1 => ?_) (fun c1 => ?_)
  · have h := h.1 c1
    refine eg_iload_n 2 dX8_nextSecond_81 rfl rfl ?_
    exact eg_ireturn dX8_nextSecond_82 rfl h
  · have h := h.2 c1
    refine eg_aload_n 0 dX8_nextSecond_12 rfl rfl ?_
    refine eg_getR dX8_nextSecond_13 fl_8_24 rfl rfl (obC_8 z1) ?_
    show eg_W κ gC mtX8_nextSecond d (eQI κ gC post) 16 [(0, vR (8, 0)), (1, vI l1), (2, vI l2), (3, vI l3)] [vR (48, 0)] M
    refine eg_iload_n 3 dX8_nextSecond_16 rfl rfl ?_
    obtain ⟨g2, h⟩ := h
    refine eg_zaload dX8_nextSecond_17 (arC_48 z1 g2) ?_
    have J : ∀ x3 : Int32, x3 = (if (M.1 (48, 0) l3.toNatClampNeg) = 0 then (0 : Int32) else (if (M.1 (44, 0) l3.toNatClampNeg) = (-1 : Int32) then (0 : Int32) else (if (M.1 (45, 0) l3.toNatClampNeg) < l1 then (0 : Int32) else (1 : Int32)))) → eg_W κ gC mtX8_nextSecond d (eQI κ gC post) 46 [(0, vR (8, 0)), (1, vI l1), (2, vI l2), (3, vI l3)] [vI x3] M := by
      intro x3 ex3
      have h := h x3 ex3
      refine eg_istore dX8_nextSecond_46 (by decide) (ls1 := [(4, vI x3), (0, vR (8, 0)), (1, vI l1), (2, vI l2), (3, vI l3)]) rfl ?_
      refine eg_iload 0 dX8_nextSecond_48 rfl ?_
      refine eg_if_eq (tgt := 75) dX8_nextSecond_50 rfl (fun c4 => ?_) (fun c4 => ?_)
      · have h := h.1 c4
        refine en_iinc (f := fun x5 => [(3, vI x5), (4, vI x3), (0, vR (8, 0)), (1, vI l1), (2, vI l2)]) 4 dX8_nextSecond_75 rfl rfl (by decide) rfl (fun x5 ex5 => ?_)
        have h := h x5 ex5
        refine eg_goto (tgt := 4) dX8_nextSecond_78 rfl ?_
        refine eg_sub [2, 3, 4, 0] rfl ?_
        exact h
      · have h := h.2 c4
        refine eg_iload_n 3 dX8_nextSecond_53 rfl rfl ?_
        refine eg_iconst dX8_nextSecond_54 ic_m1 ?_
        refine eg_icmp_eq (tgt := 68) dX8_nextSecond_55 rfl (fun c6 => ?_) (fun c6 => ?_)
        · have h := h.1 c6
          refine eg_aload_n 1 dX8_nextSecond_68 rfl rfl ?_
          refine eg_getR dX8_nextSecond_69 fl_8_15 rfl rfl (obC_8 z1) ?_
          show eg_W κ gC mtX8_nextSecond d (eQI κ gC post) 72 [(4, vI x3), (0, vR (8, 0)), (1, vI l1), (2, vI l2), (3, vI l3)] [vR (45, 0)] M
          refine eg_iload_n 4 dX8_nextSecond_72 rfl rfl ?_
          refine eg_iaload dX8_nextSecond_73 (arC_45 z1 g2) ?_
          refine en_istore_n (f := fun x7 => [(2, vI x7), (4, vI x3), (0, vR (8, 0)), (1, vI l1), (3, vI l3)]) dX8_nextSecond_74 rfl (by decide) rfl (fun x7 ex7 => ?_)
          have h := h x7 ex7
          refine en_iinc (f := fun x8 => [(3, vI x8), (2, vI x7), (4, vI x3), (0, vR (8, 0)), (1, vI l1)]) 4 dX8_nextSecond_75 rfl rfl (by decide) rfl (fun x8 ex8 => ?_)
          have h := h x8 ex8
          refine eg_goto (tgt := 4) dX8_nextSecond_78 rfl ?_
          refine eg_sub [3, 4, 1, 0] rfl ?_
          exact h
        · have h := h.2 c6
          refine eg_aload_n 1 dX8_nextSecond_58 rfl rfl ?_
          refine eg_getR dX8_nextSecond_59 fl_8_15 rfl rfl (obC_8 z1) ?_
          show eg_W κ gC mtX8_nextSecond d (eQI κ gC post) 62 [(4, vI x3), (0, vR (8, 0)), (1, vI l1), (2, vI l2), (3, vI l3)] [vR (45, 0)] M
          refine eg_iload_n 4 dX8_nextSecond_62 rfl rfl ?_
          refine eg_iaload dX8_nextSecond_63 (arC_45 z1 g2) ?_
          refine eg_iload_n 3 dX8_nextSecond_64 rfl rfl ?_
          refine eg_icmp_ge (tgt := 75) dX8_nextSecond_65 rfl (fun c9 => ?_) (fun c9 => ?_)
          · have h := h.1 c9
            refine en_iinc (f := fun x10 => [(3, vI x10), (4, vI x3), (0, vR (8, 0)), (1, vI l1), (2, vI l2)]) 4 dX8_nextSecond_75 rfl rfl (by decide) rfl (fun x10 ex10 => ?_)
            have h := h x10 ex10
            refine eg_goto (tgt := 4) dX8_nextSecond_78 rfl ?_
            refine eg_sub [2, 3, 4, 0] rfl ?_
            exact h
          · have h := h.2 c9
            refine eg_aload_n 1 dX8_nextSecond_68 rfl rfl ?_
            refine eg_getR dX8_nextSecond_69 fl_8_15 rfl rfl (obC_8 z1) ?_
            show eg_W κ gC mtX8_nextSecond d (eQI κ gC post) 72 [(4, vI x3), (0, vR (8, 0)), (1, vI l1), (2, vI l2), (3, vI l3)] [vR (45, 0)] M
            refine eg_iload_n 4 dX8_nextSecond_72 rfl rfl ?_
            refine eg_iaload dX8_nextSecond_73 (arC_45 z1 g2) ?_
            refine en_istore_n (f := fun x11 => [(2, vI x11), (4, vI x3), (0, vR (8, 0)), (1, vI l1), (3, vI l3)]) dX8_nextSecond_74 rfl (by decide) rfl (fun x11 ex11 => ?_)
            have h := h x11 ex11
            refine en_iinc (f := fun x12 => [(3, vI x12), (2, vI x11), (4, vI x3), (0, vR (8, 0)), (1, vI l1)]) 4 dX8_nextSecond_75 rfl rfl (by decide) rfl (fun x12 ex12 => ?_)
            have h := h x12 ex12
            refine eg_goto (tgt := 4) dX8_nextSecond_78 rfl ?_
            refine eg_sub [3, 4, 1, 0] rfl ?_
            exact h
    clear h
    refine eg_if_eq (tgt := 45) dX8_nextSecond_18 rfl (fun c13 => ?_) (fun c13 => ?_)
    · refine eg_iconst dX8_nextSecond_45 ic_0 ?_
      exact J _ (by rw [if_pos c13])
    · refine eg_aload_n 0 dX8_nextSecond_21 rfl rfl ?_
      refine eg_getR dX8_nextSecond_22 fl_8_9 rfl rfl (obC_8 z1) ?_
      show eg_W κ gC mtX8_nextSecond d (eQI κ gC post) 25 [(0, vR (8, 0)), (1, vI l1), (2, vI l2), (3, vI l3)] [vR (44, 0)] M
      refine eg_iload_n 3 dX8_nextSecond_25 rfl rfl ?_
      refine eg_iaload dX8_nextSecond_26 (arC_44 z1 g2) ?_
      refine eg_iconst dX8_nextSecond_27 ic_m1 ?_
      refine eg_icmp_eq (tgt := 45) dX8_nextSecond_28 rfl (fun c14 => ?_) (fun c14 => ?_)
      · refine eg_iconst dX8_nextSecond_45 ic_0 ?_
        exact J _ (by rw [if_neg c13, if_pos c14])
      · refine eg_aload_n 0 dX8_nextSecond_31 rfl rfl ?_
        refine eg_getR dX8_nextSecond_32 fl_8_15 rfl rfl (obC_8 z1) ?_
        show eg_W κ gC mtX8_nextSecond d (eQI κ gC post) 35 [(0, vR (8, 0)), (1, vI l1), (2, vI l2), (3, vI l3)] [vR (45, 0)] M
        refine eg_iload_n 3 dX8_nextSecond_35 rfl rfl ?_
        refine eg_iaload dX8_nextSecond_36 (arC_45 z1 g2) ?_
        refine eg_iload_n 1 dX8_nextSecond_37 rfl rfl ?_
        refine eg_icmp_lt (tgt := 45) dX8_nextSecond_38 rfl (fun c15 => ?_) (fun c15 => ?_)
        · refine eg_iconst dX8_nextSecond_45 ic_0 ?_
          exact J _ (by rw [if_neg c13, if_neg c14, if_pos c15])
        · refine eg_iconst dX8_nextSecond_41 ic_1 ?_
          refine eg_goto (tgt := 46) dX8_nextSecond_42 rfl ?_
          exact J _ (by rw [if_neg c13, if_neg c14, if_neg c15])
theorem dX8_agrees_0 : decode cX8_agrees 0 = .ok (.iconst 0, 1) := by decide +kernel
theorem dX8_agrees_1 : decode cX8_agrees 1 = .ok (.istore_n 3, 1) := by decide +kernel
theorem dX8_agrees_2 : decode cX8_agrees 2 = .ok (.iload_n 3, 1) := by decide +kernel
theorem dX8_agrees_3 : decode cX8_agrees 3 = .ok (.aload_n 0, 1) := by decide +kernel
theorem dX8_agrees_4 : decode cX8_agrees 4 = .ok (.getfield 28, 3) := by decide +kernel
theorem dX8_agrees_7 : decode cX8_agrees 7 = .ok (.if_icmp .ge 78, 3) := by decide +kernel
theorem dX8_agrees_10 : decode cX8_agrees 10 = .ok (.aload_n 0, 1) := by decide +kernel
theorem dX8_agrees_11 : decode cX8_agrees 11 = .ok (.getfield 24, 3) := by decide +kernel
theorem dX8_agrees_14 : decode cX8_agrees 14 = .ok (.iload_n 3, 1) := by decide +kernel
theorem dX8_agrees_15 : decode cX8_agrees 15 = .ok (.baload, 1) := by decide +kernel
theorem dX8_agrees_16 : decode cX8_agrees 16 = .ok (.ifCond .eq 63, 3) := by decide +kernel
theorem dX8_agrees_19 : decode cX8_agrees 19 = .ok (.aload_n 0, 1) := by decide +kernel
theorem dX8_agrees_20 : decode cX8_agrees 20 = .ok (.getfield 9, 3) := by decide +kernel
theorem dX8_agrees_23 : decode cX8_agrees 23 = .ok (.iload_n 3, 1) := by decide +kernel
theorem dX8_agrees_24 : decode cX8_agrees 24 = .ok (.iaload, 1) := by decide +kernel
theorem dX8_agrees_25 : decode cX8_agrees 25 = .ok (.iconst (-1), 1) := by decide +kernel
theorem dX8_agrees_26 : decode cX8_agrees 26 = .ok (.if_icmp .eq 53, 3) := by decide +kernel
theorem dX8_agrees_29 : decode cX8_agrees 29 = .ok (.aload_n 0, 1) := by decide +kernel
theorem dX8_agrees_30 : decode cX8_agrees 30 = .ok (.getfield 15, 3) := by decide +kernel
theorem dX8_agrees_33 : decode cX8_agrees 33 = .ok (.iload_n 3, 1) := by decide +kernel
theorem dX8_agrees_34 : decode cX8_agrees 34 = .ok (.iaload, 1) := by decide +kernel
theorem dX8_agrees_35 : decode cX8_agrees 35 = .ok (.iload_n 1, 1) := by decide +kernel
theorem dX8_agrees_36 : decode cX8_agrees 36 = .ok (.if_icmp .ne 43, 3) := by decide +kernel
theorem dX8_agrees_39 : decode cX8_agrees 39 = .ok (.aload_n 2, 1) := by decide +kernel
theorem dX8_agrees_40 : decode cX8_agrees 40 = .ok (.getfield 39, 3) := by decide +kernel
theorem dX8_agrees_43 : decode cX8_agrees 43 = .ok (.aload_n 0, 1) := by decide +kernel
theorem dX8_agrees_44 : decode cX8_agrees 44 = .ok (.getfield 9, 3) := by decide +kernel
theorem dX8_agrees_47 : decode cX8_agrees 47 = .ok (.iload_n 3, 1) := by decide +kernel
theorem dX8_agrees_48 : decode cX8_agrees 48 = .ok (.iaload, 1) := by decide +kernel
theorem dX8_agrees_49 : decode cX8_agrees 49 = .ok (.aaload, 1) := by decide +kernel
theorem dX8_agrees_50 : decode cX8_agrees 50 = .ok (.getfield 45, 3) := by decide +kernel
theorem dX8_agrees_53 : decode cX8_agrees 53 = .ok (.istore 4, 2) := by decide +kernel
theorem dX8_agrees_55 : decode cX8_agrees 55 = .ok (.iload 4, 2) := by decide +kernel
theorem dX8_agrees_57 : decode cX8_agrees 57 = .ok (.aload_n 0, 1) := by decide +kernel
theorem dX8_agrees_58 : decode cX8_agrees 58 = .ok (.getfield 18, 3) := by decide +kernel
theorem dX8_agrees_61 : decode cX8_agrees 61 = .ok (.iload_n 3, 1) := by decide +kernel
theorem dX8_agrees_62 : decode cX8_agrees 62 = .ok (.iaload, 1) := by decide +kernel
theorem dX8_agrees_63 : decode cX8_agrees 63 = .ok (.if_icmp .lt 14, 3) := by decide +kernel
theorem dX8_agrees_66 : decode cX8_agrees 66 = .ok (.iload 4, 2) := by decide +kernel
theorem dX8_agrees_68 : decode cX8_agrees 68 = .ok (.aload_n 0, 1) := by decide +kernel
theorem dX8_agrees_69 : decode cX8_agrees 69 = .ok (.getfield 21, 3) := by decide +kernel
theorem dX8_agrees_72 : decode cX8_agrees 72 = .ok (.iload_n 3, 1) := by decide +kernel
theorem dX8_agrees_73 : decode cX8_agrees 73 = .ok (.iaload, 1) := by decide +kernel
theorem dX8_agrees_74 : decode cX8_agrees 74 = .ok (.if_icmp .le 5, 3) := by decide +kernel
theorem dX8_agrees_77 : decode cX8_agrees 77 = .ok (.iconst 0, 1) := by decide +kernel
theorem dX8_agrees_78 : decode cX8_agrees 78 = .ok (.ireturn, 1) := by decide +kernel
theorem dX8_agrees_79 : decode cX8_agrees 79 = .ok (.iinc 3 1, 3) := by decide +kernel
theorem dX8_agrees_82 : decode cX8_agrees 82 = .ok (.goto (-80), 3) := by decide +kernel
theorem dX8_agrees_85 : decode cX8_agrees 85 = .ok (.iconst 1, 1) := by decide +kernel
theorem dX8_agrees_86 : decode cX8_agrees 86 = .ok (.ireturn, 1) := by decide +kernel
set_option maxRecDepth 10000 in
theorem vX8_agrees_0 {κ : eg_K} {d : Nat} {post : Int32 → eg_H → Prop} (M : eg_H) (l1 : Int32) {l2 : Nat} (hl2 : l2 < 4) (h : eg_W κ gC mtX8_agrees d (eQI κ gC post) 2 [(0, vR (8, 0)), (1, vI l1), (2, vR (7, l2)), (3, vI (0 : Int32))] [] M) : eg_W κ gC mtX8_agrees d (eQI κ gC post) 0 [(0, vR (8, 0)), (1, vI l1), (2, vR (7, l2))] [] M := by
  refine eg_iconst dX8_agrees_0 ic_0 ?_
  refine eg_istore_n dX8_agrees_1 rfl (by decide) (ls1 := [(3, vI (0 : Int32)), (0, vR (8, 0)), (1, vI l1), (2, vR (7, l2))]) rfl ?_
  refine eg_sub [1, 2, 3, 0] rfl ?_
  exact h
set_option maxRecDepth 10000 in
theorem vX8_agrees_2 {κ : eg_K} {d : Nat} {post : Int32 → eg_H → Prop} (M : eg_H) (l1 : Int32) {l2 : Nat} (hl2 : l2 < 4) (l3 : Int32) (h : ((M.1 (8, 0) 0) ≤ l3 → post (1 : Int32) M) ∧ ((¬ (M.1 (8, 0) 0) ≤ l3) → (vp_in l3 40 ∧ ((M.1 (48, 0) l3.toNatClampNeg) = 0 → (∀ x4 : Int32, x4 = (l3 + (1 : Int32)) → eg_W κ gC mtX8_agrees d (eQI κ gC post) 2 [(0, vR (8, 0)), (1, vI l1), (2, vR (7, l2)), (3, vI x4)] [] M)) ∧ ((¬ (M.1 (48, 0) l3.toNatClampNeg) = 0) → ((M.1 (44, 0) l3.toNatClampNeg) = (-1 : Int32) → (∀ x6 : Int32, x6 = (l3 + (1 : Int32)) → eg_W κ gC mtX8_agrees d (eQI κ gC post) 2 [(0, vR (8, 0)), (1, vI l1), (2, vR (7, l2)), (3, vI x6)] [] M)) ∧ ((¬ (M.1 (44, 0) l3.toNatClampNeg) = (-1 : Int32)) → ((¬ (M.1 (45, 0) l3.toNatClampNeg) = l1) → (∀ x8 : Int32, x8 = (l3 + (1 : Int32)) → eg_W κ gC mtX8_agrees d (eQI κ gC post) 2 [(0, vR (8, 0)), (1, vI l1), (2, vR (7, l2)), (3, vI x8)] [] M)) ∧ ((M.1 (45, 0) l3.toNatClampNeg) = l1 → (vp_in (M.1 (44, 0) l3.toNatClampNeg) 5 ∧ (∀ x10 : Int32, x10 = (M.1 (4, 5 * l2 + (M.1 (44, 0) l3.toNatClampNeg).toNatClampNeg) 0) → (x10 < (M.1 (46, 0) l3.toNatClampNeg) → post (0 : Int32) M) ∧ ((¬ x10 < (M.1 (46, 0) l3.toNatClampNeg)) → (x10 ≤ (M.1 (47, 0) l3.toNatClampNeg) → (∀ x13 : Int32, x13 = (l3 + (1 : Int32)) → eg_W κ gC mtX8_agrees d (eQI κ gC post) 2 [(0, vR (8, 0)), (1, vI l1), (2, vR (7, l2)), (3, vI x13)] [] M)) ∧ ((¬ x10 ≤ (M.1 (47, 0) l3.toNatClampNeg)) → post (0 : Int32) M)))))))))) : eg_W κ gC mtX8_agrees d (eQI κ gC post) 2 [(0, vR (8, 0)), (1, vI l1), (2, vR (7, l2)), (3, vI l3)] [] M := by
  refine eg_iload_n 3 dX8_agrees_2 rfl rfl ?_
  refine eg_aload_n 0 dX8_agrees_3 rfl rfl ?_
  refine eg_getI dX8_agrees_4 fl_8_28 rfl trivial (obC_8 z1) ?_
  refine eg_icmp_ge (tgt := 85) dX8_agrees_7 rfl (fun c1 => ?_) (fun c1 => ?_)
  · have h := h.1 c1
    refine eg_iconst dX8_agrees_85 ic_1 ?_
    exact eg_zreturn dX8_agrees_86 rfl (Or.inr rfl) h
  · have h := h.2 c1
    refine eg_aload_n 0 dX8_agrees_10 rfl rfl ?_
    refine eg_getR dX8_agrees_11 fl_8_24 rfl rfl (obC_8 z1) ?_
    show eg_W κ gC mtX8_agrees d (eQI κ gC post) 14 [(0, vR (8, 0)), (1, vI l1), (2, vR (7, l2)), (3, vI l3)] [vR (48, 0)] M
    refine eg_iload_n 3 dX8_agrees_14 rfl rfl ?_
    obtain ⟨g2, h⟩ := h
    refine eg_zaload dX8_agrees_15 (arC_48 z1 g2) ?_
    refine eg_if_eq (tgt := 79) dX8_agrees_16 rfl (fun c3 => ?_) (fun c3 => ?_)
    · have h := h.1 c3
      refine en_iinc (f := fun x4 => [(3, vI x4), (0, vR (8, 0)), (1, vI l1), (2, vR (7, l2))]) 3 dX8_agrees_79 rfl rfl (by decide) rfl (fun x4 ex4 => ?_)
      have h := h x4 ex4
      refine eg_goto (tgt := 2) dX8_agrees_82 rfl ?_
      refine eg_sub [1, 2, 3, 0] rfl ?_
      exact h
    · have h := h.2 c3
      refine eg_aload_n 0 dX8_agrees_19 rfl rfl ?_
      refine eg_getR dX8_agrees_20 fl_8_9 rfl rfl (obC_8 z1) ?_
      show eg_W κ gC mtX8_agrees d (eQI κ gC post) 23 [(0, vR (8, 0)), (1, vI l1), (2, vR (7, l2)), (3, vI l3)] [vR (44, 0)] M
      refine eg_iload_n 3 dX8_agrees_23 rfl rfl ?_
      refine eg_iaload dX8_agrees_24 (arC_44 z1 g2) ?_
      refine eg_iconst dX8_agrees_25 ic_m1 ?_
      refine eg_icmp_eq (tgt := 79) dX8_agrees_26 rfl (fun c5 => ?_) (fun c5 => ?_)
      · have h := h.1 c5
        refine en_iinc (f := fun x6 => [(3, vI x6), (0, vR (8, 0)), (1, vI l1), (2, vR (7, l2))]) 3 dX8_agrees_79 rfl rfl (by decide) rfl (fun x6 ex6 => ?_)
        have h := h x6 ex6
        refine eg_goto (tgt := 2) dX8_agrees_82 rfl ?_
        refine eg_sub [1, 2, 3, 0] rfl ?_
        exact h
      · have h := h.2 c5
        refine eg_aload_n 0 dX8_agrees_29 rfl rfl ?_
        refine eg_getR dX8_agrees_30 fl_8_15 rfl rfl (obC_8 z1) ?_
        show eg_W κ gC mtX8_agrees d (eQI κ gC post) 33 [(0, vR (8, 0)), (1, vI l1), (2, vR (7, l2)), (3, vI l3)] [vR (45, 0)] M
        refine eg_iload_n 3 dX8_agrees_33 rfl rfl ?_
        refine eg_iaload dX8_agrees_34 (arC_45 z1 g2) ?_
        refine eg_iload_n 1 dX8_agrees_35 rfl rfl ?_
        refine eg_icmp_ne (tgt := 79) dX8_agrees_36 rfl (fun c7 => ?_) (fun c7 => ?_)
        · have h := h.1 c7
          refine en_iinc (f := fun x8 => [(3, vI x8), (0, vR (8, 0)), (1, vI l1), (2, vR (7, l2))]) 3 dX8_agrees_79 rfl rfl (by decide) rfl (fun x8 ex8 => ?_)
          have h := h x8 ex8
          refine eg_goto (tgt := 2) dX8_agrees_82 rfl ?_
          refine eg_sub [1, 2, 3, 0] rfl ?_
          exact h
        · have h := h.2 c7
          refine eg_aload_n 2 dX8_agrees_39 rfl rfl ?_
          refine eg_getR dX8_agrees_40 fl_8_39 rfl rfl (obC_7 hl2) ?_
          show eg_W κ gC mtX8_agrees d (eQI κ gC post) 43 [(0, vR (8, 0)), (1, vI l1), (2, vR (7, l2)), (3, vI l3)] [vR (41, l2)] M
          refine eg_aload_n 0 dX8_agrees_43 rfl rfl ?_
          refine eg_getR dX8_agrees_44 fl_8_9 rfl rfl (obC_8 z1) ?_
          show eg_W κ gC mtX8_agrees d (eQI κ gC post) 47 [(0, vR (8, 0)), (1, vI l1), (2, vR (7, l2)), (3, vI l3)] [vR (44, 0), vR (41, l2)] M
          refine eg_iload_n 3 dX8_agrees_47 rfl rfl ?_
          refine eg_iaload dX8_agrees_48 (arC_44 z1 g2) ?_
          obtain ⟨g9, h⟩ := h
          refine eg_aaload6 dX8_agrees_49 (arC_41 hl2 g9) ?_
          show eg_W κ gC mtX8_agrees d (eQI κ gC post) 50 [(0, vR (8, 0)), (1, vI l1), (2, vR (7, l2)), (3, vI l3)] [vR (4, 5 * l2 + (M.1 (44, 0) l3.toNatClampNeg).toNatClampNeg)] M
          refine eg_getI dX8_agrees_50 fl_8_45 rfl trivial (obC_4 (ixT5 hl2 g9)) ?_
          refine en_istore (f := fun x10 => [(4, vI x10), (0, vR (8, 0)), (1, vI l1), (2, vR (7, l2)), (3, vI l3)]) dX8_agrees_53 (by decide) rfl (fun x10 ex10 => ?_)
          have h := h x10 ex10
          refine eg_iload 0 dX8_agrees_55 rfl ?_
          refine eg_aload_n 1 dX8_agrees_57 rfl rfl ?_
          refine eg_getR dX8_agrees_58 fl_8_18 rfl rfl (obC_8 z1) ?_
          show eg_W κ gC mtX8_agrees d (eQI κ gC post) 61 [(4, vI x10), (0, vR (8, 0)), (1, vI l1), (2, vR (7, l2)), (3, vI l3)] [vR (46, 0), vI x10] M
          refine eg_iload_n 4 dX8_agrees_61 rfl rfl ?_
          refine eg_iaload dX8_agrees_62 (arC_46 z1 g2) ?_
          refine eg_icmp_lt (tgt := 77) dX8_agrees_63 rfl (fun c11 => ?_) (fun c11 => ?_)
          · have h := h.1 c11
            refine eg_iconst dX8_agrees_77 ic_0 ?_
            exact eg_zreturn dX8_agrees_78 rfl (Or.inl rfl) h
          · have h := h.2 c11
            refine eg_iload 0 dX8_agrees_66 rfl ?_
            refine eg_aload_n 1 dX8_agrees_68 rfl rfl ?_
            refine eg_getR dX8_agrees_69 fl_8_21 rfl rfl (obC_8 z1) ?_
            show eg_W κ gC mtX8_agrees d (eQI κ gC post) 72 [(4, vI x10), (0, vR (8, 0)), (1, vI l1), (2, vR (7, l2)), (3, vI l3)] [vR (47, 0), vI x10] M
            refine eg_iload_n 4 dX8_agrees_72 rfl rfl ?_
            refine eg_iaload dX8_agrees_73 (arC_47 z1 g2) ?_
            refine eg_icmp_le (tgt := 79) dX8_agrees_74 rfl (fun c12 => ?_) (fun c12 => ?_)
            · have h := h.1 c12
              refine en_iinc (f := fun x13 => [(3, vI x13), (4, vI x10), (0, vR (8, 0)), (1, vI l1), (2, vR (7, l2))]) 4 dX8_agrees_79 rfl rfl (by decide) rfl (fun x13 ex13 => ?_)
              have h := h x13 ex13
              refine eg_goto (tgt := 2) dX8_agrees_82 rfl ?_
              refine eg_sub [2, 3, 4, 0] rfl ?_
              exact h
            · have h := h.2 c12
              refine eg_iconst dX8_agrees_77 ic_0 ?_
              exact eg_zreturn dX8_agrees_78 rfl (Or.inl rfl) h
theorem dX8_markHolding_0 : decode cX8_markHolding 0 = .ok (.aload_n 0, 1) := by decide +kernel
theorem dX8_markHolding_1 : decode cX8_markHolding 1 = .ok (.invokevirtual 35, 3) := by decide +kernel
theorem dX8_markHolding_4 : decode cX8_markHolding 4 = .ok (.istore_n 1, 1) := by decide +kernel
theorem dX8_markHolding_5 : decode cX8_markHolding 5 = .ok (.iconst 0, 1) := by decide +kernel
theorem dX8_markHolding_6 : decode cX8_markHolding 6 = .ok (.istore_n 2, 1) := by decide +kernel
theorem dX8_markHolding_7 : decode cX8_markHolding 7 = .ok (.iload_n 2, 1) := by decide +kernel
theorem dX8_markHolding_8 : decode cX8_markHolding 8 = .ok (.bipush 40, 2) := by decide +kernel
theorem dX8_markHolding_10 : decode cX8_markHolding 10 = .ok (.if_icmp .ge 25, 3) := by decide +kernel
theorem dX8_markHolding_13 : decode cX8_markHolding 13 = .ok (.aload_n 0, 1) := by decide +kernel
theorem dX8_markHolding_14 : decode cX8_markHolding 14 = .ok (.getfield 24, 3) := by decide +kernel
theorem dX8_markHolding_17 : decode cX8_markHolding 17 = .ok (.iload_n 2, 1) := by decide +kernel
theorem dX8_markHolding_18 : decode cX8_markHolding 18 = .ok (.iload_n 2, 1) := by decide +kernel
theorem dX8_markHolding_19 : decode cX8_markHolding 19 = .ok (.iload_n 1, 1) := by decide +kernel
theorem dX8_markHolding_20 : decode cX8_markHolding 20 = .ok (.if_icmp .ge 7, 3) := by decide +kernel
theorem dX8_markHolding_23 : decode cX8_markHolding 23 = .ok (.iconst 1, 1) := by decide +kernel
theorem dX8_markHolding_24 : decode cX8_markHolding 24 = .ok (.goto 4, 3) := by decide +kernel
theorem dX8_markHolding_27 : decode cX8_markHolding 27 = .ok (.iconst 0, 1) := by decide +kernel
theorem dX8_markHolding_28 : decode cX8_markHolding 28 = .ok (.bastore, 1) := by decide +kernel
theorem dX8_markHolding_29 : decode cX8_markHolding 29 = .ok (.iinc 2 1, 3) := by decide +kernel
theorem dX8_markHolding_32 : decode cX8_markHolding 32 = .ok (.goto (-25), 3) := by decide +kernel
theorem dX8_markHolding_35 : decode cX8_markHolding 35 = .ok (.iload_n 1, 1) := by decide +kernel
theorem dX8_markHolding_36 : decode cX8_markHolding 36 = .ok (.iconst 1, 1) := by decide +kernel
theorem dX8_markHolding_37 : decode cX8_markHolding 37 = .ok (.isub, 1) := by decide +kernel
theorem dX8_markHolding_38 : decode cX8_markHolding 38 = .ok (.istore_n 2, 1) := by decide +kernel
theorem dX8_markHolding_39 : decode cX8_markHolding 39 = .ok (.iload_n 2, 1) := by decide +kernel
theorem dX8_markHolding_40 : decode cX8_markHolding 40 = .ok (.ifCond .lt 51, 3) := by decide +kernel
theorem dX8_markHolding_43 : decode cX8_markHolding 43 = .ok (.aload_n 0, 1) := by decide +kernel
theorem dX8_markHolding_44 : decode cX8_markHolding 44 = .ok (.getfield 15, 3) := by decide +kernel
theorem dX8_markHolding_47 : decode cX8_markHolding 47 = .ok (.iload_n 2, 1) := by decide +kernel
theorem dX8_markHolding_48 : decode cX8_markHolding 48 = .ok (.iaload, 1) := by decide +kernel
theorem dX8_markHolding_49 : decode cX8_markHolding 49 = .ok (.istore_n 3, 1) := by decide +kernel
theorem dX8_markHolding_50 : decode cX8_markHolding 50 = .ok (.aload_n 0, 1) := by decide +kernel
theorem dX8_markHolding_51 : decode cX8_markHolding 51 = .ok (.getfield 24, 3) := by decide +kernel
theorem dX8_markHolding_54 : decode cX8_markHolding 54 = .ok (.iload_n 2, 1) := by decide +kernel
theorem dX8_markHolding_55 : decode cX8_markHolding 55 = .ok (.baload, 1) := by decide +kernel
theorem dX8_markHolding_56 : decode cX8_markHolding 56 = .ok (.ifCond .eq 29, 3) := by decide +kernel
theorem dX8_markHolding_59 : decode cX8_markHolding 59 = .ok (.aload_n 0, 1) := by decide +kernel
theorem dX8_markHolding_60 : decode cX8_markHolding 60 = .ok (.getfield 9, 3) := by decide +kernel
theorem dX8_markHolding_63 : decode cX8_markHolding 63 = .ok (.iload_n 2, 1) := by decide +kernel
theorem dX8_markHolding_64 : decode cX8_markHolding 64 = .ok (.iaload, 1) := by decide +kernel
theorem dX8_markHolding_65 : decode cX8_markHolding 65 = .ok (.iconst (-1), 1) := by decide +kernel
theorem dX8_markHolding_66 : decode cX8_markHolding 66 = .ok (.if_icmp .ne 19, 3) := by decide +kernel
theorem dX8_markHolding_69 : decode cX8_markHolding 69 = .ok (.iload_n 3, 1) := by decide +kernel
theorem dX8_markHolding_70 : decode cX8_markHolding 70 = .ok (.ifCond .lt 15, 3) := by decide +kernel
theorem dX8_markHolding_73 : decode cX8_markHolding 73 = .ok (.iload_n 3, 1) := by decide +kernel
theorem dX8_markHolding_74 : decode cX8_markHolding 74 = .ok (.iload_n 2, 1) := by decide +kernel
theorem dX8_markHolding_75 : decode cX8_markHolding 75 = .ok (.if_icmp .ge 10, 3) := by decide +kernel
theorem dX8_markHolding_78 : decode cX8_markHolding 78 = .ok (.aload_n 0, 1) := by decide +kernel
theorem dX8_markHolding_79 : decode cX8_markHolding 79 = .ok (.getfield 24, 3) := by decide +kernel
theorem dX8_markHolding_82 : decode cX8_markHolding 82 = .ok (.iload_n 3, 1) := by decide +kernel
theorem dX8_markHolding_83 : decode cX8_markHolding 83 = .ok (.iconst 0, 1) := by decide +kernel
theorem dX8_markHolding_84 : decode cX8_markHolding 84 = .ok (.bastore, 1) := by decide +kernel
theorem dX8_markHolding_85 : decode cX8_markHolding 85 = .ok (.iinc 2 (-1), 3) := by decide +kernel
theorem dX8_markHolding_88 : decode cX8_markHolding 88 = .ok (.goto (-49), 3) := by decide +kernel
theorem dX8_markHolding_91 : decode cX8_markHolding 91 = .ok (.return_, 1) := by decide +kernel
set_option maxRecDepth 10000 in
theorem vX8_markHolding_0 {κ : eg_K} {d : Nat} (hd : 1 ≤ d) {post : eg_H → Prop} (M : eg_H)  (h : (∀ x2 : Int32, x2 = (fX8_knownCounts M) → eg_W κ gC mtX8_markHolding d (eQV κ gC post) 7 [(0, vR (8, 0)), (1, vI x2), (2, vI (0 : Int32))] [] M)) : eg_W κ gC mtX8_markHolding d (eQV κ gC post) 0 [(0, vR (8, 0))] [] M := by
  refine eg_aload_n 0 dX8_markHolding_0 rfl rfl ?_
  refine eg_callVI (av := []) (st := []) dX8_markHolding_1 ml_8_35 rfl rfl (obC_8 z1) (by decide) rfl (Nat.le_of_ble_eq_true rfl) (eg_dd (by omega)) (sX8_knownCounts (by omega) M   ) (fun x2 M1 hp => ?_)
  obtain ⟨ex2, eM1⟩ := hp
  rw [eM1]
  have h := h x2 ex2
  refine eg_istore_n dX8_markHolding_4 rfl (by decide) (ls1 := [(1, vI x2), (0, vR (8, 0))]) rfl ?_
  refine eg_iconst dX8_markHolding_5 ic_0 ?_
  refine eg_istore_n dX8_markHolding_6 rfl (by decide) (ls1 := [(2, vI (0 : Int32)), (1, vI x2), (0, vR (8, 0))]) rfl ?_
  refine eg_sub [2, 1, 0] rfl ?_
  exact h
set_option maxRecDepth 10000 in
theorem vX8_markHolding_7 {κ : eg_K} {d : Nat} {post : eg_H → Prop} (M : eg_H) (l1 : Int32) (l2 : Int32) (h : ((40 : Int32) ≤ l2 → (∀ x2 : Int32, x2 = (l1 - (1 : Int32)) → eg_W κ gC mtX8_markHolding d (eQV κ gC post) 39 [(0, vR (8, 0)), (2, vI x2)] [] M)) ∧ ((¬ (40 : Int32) ≤ l2) → (∀ x3 : Int32, x3 = ((if l1 ≤ l2 then (0 : Int32) else (1 : Int32))) → (vp_in l2 40 ∧ (∀ M5 : eg_H, M5 = (sI M (48, 0) l2.toNatClampNeg (vp_nar .boolean x3)) → (∀ x6 : Int32, x6 = (l2 + (1 : Int32)) → eg_W κ gC mtX8_markHolding d (eQV κ gC post) 7 [(0, vR (8, 0)), (1, vI l1), (2, vI x6)] [] M5)))))) : eg_W κ gC mtX8_markHolding d (eQV κ gC post) 7 [(0, vR (8, 0)), (1, vI l1), (2, vI l2)] [] M := by
  refine eg_iload_n 2 dX8_markHolding_7 rfl rfl ?_
  refine eg_bipush dX8_markHolding_8 bp_40 ?_
  refine eg_icmp_ge (tgt := 35) dX8_markHolding_10 rfl (fun c1 => ?_) (fun c1 => ?_)
  · have h := h.1 c1
    refine eg_iload_n 1 dX8_markHolding_35 rfl rfl ?_
    refine eg_iconst dX8_markHolding_36 ic_1 ?_
    refine eg_isub dX8_markHolding_37 ?_
    refine en_istore_n (f := fun x2 => [(2, vI x2), (0, vR (8, 0)), (1, vI l1)]) dX8_markHolding_38 rfl (by decide) rfl (fun x2 ex2 => ?_)
    have h := h x2 ex2
    refine eg_sub [1, 0] rfl ?_
    exact h
  · have h := h.2 c1
    refine eg_aload_n 0 dX8_markHolding_13 rfl rfl ?_
    refine eg_getR dX8_markHolding_14 fl_8_24 rfl rfl (obC_8 z1) ?_
    show eg_W κ gC mtX8_markHolding d (eQV κ gC post) 17 [(0, vR (8, 0)), (1, vI l1), (2, vI l2)] [vR (48, 0)] M
    refine eg_iload_n 2 dX8_markHolding_17 rfl rfl ?_
    refine eg_iload_n 2 dX8_markHolding_18 rfl rfl ?_
    refine eg_iload_n 1 dX8_markHolding_19 rfl rfl ?_
    have J : ∀ x3 : Int32, x3 = (if l1 ≤ l2 then (0 : Int32) else (1 : Int32)) → eg_W κ gC mtX8_markHolding d (eQV κ gC post) 28 [(0, vR (8, 0)), (1, vI l1), (2, vI l2)] [vI x3, vI l2, vR (48, 0)] M := by
      intro x3 ex3
      have h := h x3 ex3
      obtain ⟨g4, h⟩ := h
      refine en_zastore dX8_markHolding_28 (arC_48 z1 g4) (fun M5 eM5 => ?_)
      have h := h M5 eM5
      refine en_iinc (f := fun x6 => [(2, vI x6), (0, vR (8, 0)), (1, vI l1)]) 2 dX8_markHolding_29 rfl rfl (by decide) rfl (fun x6 ex6 => ?_)
      have h := h x6 ex6
      refine eg_goto (tgt := 7) dX8_markHolding_32 rfl ?_
      refine eg_sub [1, 2, 0] rfl ?_
      exact h
    clear h
    refine eg_icmp_ge (tgt := 27) dX8_markHolding_20 rfl (fun c7 => ?_) (fun c7 => ?_)
    · refine eg_iconst dX8_markHolding_27 ic_0 ?_
      exact J _ (by rw [if_pos c7])
    · refine eg_iconst dX8_markHolding_23 ic_1 ?_
      refine eg_goto (tgt := 28) dX8_markHolding_24 rfl ?_
      exact J _ (by rw [if_neg c7])
set_option maxRecDepth 10000 in
theorem vX8_markHolding_39 {κ : eg_K} {d : Nat} {post : eg_H → Prop} (M : eg_H) (l2 : Int32) (h : (l2 < 0 → post M) ∧ ((¬ l2 < 0) → (vp_in l2 40 ∧ (∀ x3 : Int32, x3 = (M.1 (45, 0) l2.toNatClampNeg) → ((M.1 (48, 0) l2.toNatClampNeg) = 0 → (∀ x5 : Int32, x5 = (l2 + (-1 : Int32)) → eg_W κ gC mtX8_markHolding d (eQV κ gC post) 39 [(0, vR (8, 0)), (2, vI x5)] [] M)) ∧ ((¬ (M.1 (48, 0) l2.toNatClampNeg) = 0) → ((¬ (M.1 (44, 0) l2.toNatClampNeg) = (-1 : Int32)) → (∀ x7 : Int32, x7 = (l2 + (-1 : Int32)) → eg_W κ gC mtX8_markHolding d (eQV κ gC post) 39 [(0, vR (8, 0)), (2, vI x7)] [] M)) ∧ ((M.1 (44, 0) l2.toNatClampNeg) = (-1 : Int32) → (x3 < 0 → (∀ x9 : Int32, x9 = (l2 + (-1 : Int32)) → eg_W κ gC mtX8_markHolding d (eQV κ gC post) 39 [(0, vR (8, 0)), (2, vI x9)] [] M)) ∧ ((¬ x3 < 0) → (l2 ≤ x3 → (∀ x11 : Int32, x11 = (l2 + (-1 : Int32)) → eg_W κ gC mtX8_markHolding d (eQV κ gC post) 39 [(0, vR (8, 0)), (2, vI x11)] [] M)) ∧ ((¬ l2 ≤ x3) → (vp_in x3 40 ∧ (∀ M13 : eg_H, M13 = (sI M (48, 0) x3.toNatClampNeg (vp_nar .boolean (0 : Int32))) → (∀ x14 : Int32, x14 = (l2 + (-1 : Int32)) → eg_W κ gC mtX8_markHolding d (eQV κ gC post) 39 [(0, vR (8, 0)), (2, vI x14)] [] M13))))))))))) : eg_W κ gC mtX8_markHolding d (eQV κ gC post) 39 [(0, vR (8, 0)), (2, vI l2)] [] M := by
  refine eg_iload_n 1 dX8_markHolding_39 rfl rfl ?_
  refine eg_if_lt (tgt := 91) dX8_markHolding_40 rfl (fun c1 => ?_) (fun c1 => ?_)
  · have h := h.1 c1
    exact eg_vreturn dX8_markHolding_91 rfl h
  · have h := h.2 c1
    refine eg_aload_n 0 dX8_markHolding_43 rfl rfl ?_
    refine eg_getR dX8_markHolding_44 fl_8_15 rfl rfl (obC_8 z1) ?_
    show eg_W κ gC mtX8_markHolding d (eQV κ gC post) 47 [(0, vR (8, 0)), (2, vI l2)] [vR (45, 0)] M
    refine eg_iload_n 1 dX8_markHolding_47 rfl rfl ?_
    obtain ⟨g2, h⟩ := h
    refine eg_iaload dX8_markHolding_48 (arC_45 z1 g2) ?_
    refine en_istore_n (f := fun x3 => [(3, vI x3), (0, vR (8, 0)), (2, vI l2)]) dX8_markHolding_49 rfl (by decide) rfl (fun x3 ex3 => ?_)
    have h := h x3 ex3
    refine eg_aload_n 1 dX8_markHolding_50 rfl rfl ?_
    refine eg_getR dX8_markHolding_51 fl_8_24 rfl rfl (obC_8 z1) ?_
    show eg_W κ gC mtX8_markHolding d (eQV κ gC post) 54 [(3, vI x3), (0, vR (8, 0)), (2, vI l2)] [vR (48, 0)] M
    refine eg_iload_n 2 dX8_markHolding_54 rfl rfl ?_
    refine eg_zaload dX8_markHolding_55 (arC_48 z1 g2) ?_
    refine eg_if_eq (tgt := 85) dX8_markHolding_56 rfl (fun c4 => ?_) (fun c4 => ?_)
    · have h := h.1 c4
      refine en_iinc (f := fun x5 => [(2, vI x5), (3, vI x3), (0, vR (8, 0))]) 2 dX8_markHolding_85 rfl rfl (by decide) rfl (fun x5 ex5 => ?_)
      have h := h x5 ex5
      refine eg_goto (tgt := 39) dX8_markHolding_88 rfl ?_
      refine eg_sub [2, 0] rfl ?_
      exact h
    · have h := h.2 c4
      refine eg_aload_n 1 dX8_markHolding_59 rfl rfl ?_
      refine eg_getR dX8_markHolding_60 fl_8_9 rfl rfl (obC_8 z1) ?_
      show eg_W κ gC mtX8_markHolding d (eQV κ gC post) 63 [(3, vI x3), (0, vR (8, 0)), (2, vI l2)] [vR (44, 0)] M
      refine eg_iload_n 2 dX8_markHolding_63 rfl rfl ?_
      refine eg_iaload dX8_markHolding_64 (arC_44 z1 g2) ?_
      refine eg_iconst dX8_markHolding_65 ic_m1 ?_
      refine eg_icmp_ne (tgt := 85) dX8_markHolding_66 rfl (fun c6 => ?_) (fun c6 => ?_)
      · have h := h.1 c6
        refine en_iinc (f := fun x7 => [(2, vI x7), (3, vI x3), (0, vR (8, 0))]) 2 dX8_markHolding_85 rfl rfl (by decide) rfl (fun x7 ex7 => ?_)
        have h := h x7 ex7
        refine eg_goto (tgt := 39) dX8_markHolding_88 rfl ?_
        refine eg_sub [2, 0] rfl ?_
        exact h
      · have h := h.2 c6
        refine eg_iload_n 0 dX8_markHolding_69 rfl rfl ?_
        refine eg_if_lt (tgt := 85) dX8_markHolding_70 rfl (fun c8 => ?_) (fun c8 => ?_)
        · have h := h.1 c8
          refine en_iinc (f := fun x9 => [(2, vI x9), (3, vI x3), (0, vR (8, 0))]) 2 dX8_markHolding_85 rfl rfl (by decide) rfl (fun x9 ex9 => ?_)
          have h := h x9 ex9
          refine eg_goto (tgt := 39) dX8_markHolding_88 rfl ?_
          refine eg_sub [2, 0] rfl ?_
          exact h
        · have h := h.2 c8
          refine eg_iload_n 0 dX8_markHolding_73 rfl rfl ?_
          refine eg_iload_n 2 dX8_markHolding_74 rfl rfl ?_
          refine eg_icmp_ge (tgt := 85) dX8_markHolding_75 rfl (fun c10 => ?_) (fun c10 => ?_)
          · have h := h.1 c10
            refine en_iinc (f := fun x11 => [(2, vI x11), (3, vI x3), (0, vR (8, 0))]) 2 dX8_markHolding_85 rfl rfl (by decide) rfl (fun x11 ex11 => ?_)
            have h := h x11 ex11
            refine eg_goto (tgt := 39) dX8_markHolding_88 rfl ?_
            refine eg_sub [2, 0] rfl ?_
            exact h
          · have h := h.2 c10
            refine eg_aload_n 1 dX8_markHolding_78 rfl rfl ?_
            refine eg_getR dX8_markHolding_79 fl_8_24 rfl rfl (obC_8 z1) ?_
            show eg_W κ gC mtX8_markHolding d (eQV κ gC post) 82 [(3, vI x3), (0, vR (8, 0)), (2, vI l2)] [vR (48, 0)] M
            refine eg_iload_n 0 dX8_markHolding_82 rfl rfl ?_
            refine eg_iconst dX8_markHolding_83 ic_0 ?_
            obtain ⟨g12, h⟩ := h
            refine en_zastore dX8_markHolding_84 (arC_48 z1 g12) (fun M13 eM13 => ?_)
            have h := h M13 eM13
            refine en_iinc (f := fun x14 => [(2, vI x14), (3, vI x3), (0, vR (8, 0))]) 2 dX8_markHolding_85 rfl rfl (by decide) rfl (fun x14 ex14 => ?_)
            have h := h x14 ex14
            refine eg_goto (tgt := 39) dX8_markHolding_88 rfl ?_
            refine eg_sub [2, 0] rfl ?_
            exact h
theorem dX10_orderByNumbers_0 : decode cX10_orderByNumbers 0 = .ok (.iconst 0, 1) := by decide +kernel
theorem dX10_orderByNumbers_1 : decode cX10_orderByNumbers 1 = .ok (.istore_n 1, 1) := by decide +kernel
theorem dX10_orderByNumbers_2 : decode cX10_orderByNumbers 2 = .ok (.iload_n 1, 1) := by decide +kernel
theorem dX10_orderByNumbers_3 : decode cX10_orderByNumbers 3 = .ok (.iconst 5, 1) := by decide +kernel
theorem dX10_orderByNumbers_4 : decode cX10_orderByNumbers 4 = .ok (.if_icmp .ge 16, 3) := by decide +kernel
theorem dX10_orderByNumbers_7 : decode cX10_orderByNumbers 7 = .ok (.aload_n 0, 1) := by decide +kernel
theorem dX10_orderByNumbers_8 : decode cX10_orderByNumbers 8 = .ok (.getfield 50, 3) := by decide +kernel
theorem dX10_orderByNumbers_11 : decode cX10_orderByNumbers 11 = .ok (.iload_n 1, 1) := by decide +kernel
theorem dX10_orderByNumbers_12 : decode cX10_orderByNumbers 12 = .ok (.iload_n 1, 1) := by decide +kernel
theorem dX10_orderByNumbers_13 : decode cX10_orderByNumbers 13 = .ok (.iastore, 1) := by decide +kernel
theorem dX10_orderByNumbers_14 : decode cX10_orderByNumbers 14 = .ok (.iinc 1 1, 3) := by decide +kernel
theorem dX10_orderByNumbers_17 : decode cX10_orderByNumbers 17 = .ok (.goto (-15), 3) := by decide +kernel
theorem dX10_orderByNumbers_20 : decode cX10_orderByNumbers 20 = .ok (.return_, 1) := by decide +kernel
set_option maxRecDepth 10000 in
theorem vX10_orderByNumbers_0 {κ : eg_K} {d : Nat} {post : eg_H → Prop} (M : eg_H)  (h : eg_W κ gC mtX10_orderByNumbers d (eQV κ gC post) 2 [(0, vR (10, 0)), (1, vI (0 : Int32))] [] M) : eg_W κ gC mtX10_orderByNumbers d (eQV κ gC post) 0 [(0, vR (10, 0))] [] M := by
  refine eg_iconst dX10_orderByNumbers_0 ic_0 ?_
  refine eg_istore_n dX10_orderByNumbers_1 rfl (by decide) (ls1 := [(1, vI (0 : Int32)), (0, vR (10, 0))]) rfl ?_
  refine eg_sub [1, 0] rfl ?_
  exact h
set_option maxRecDepth 10000 in
theorem vX10_orderByNumbers_2 {κ : eg_K} {d : Nat} {post : eg_H → Prop} (M : eg_H) (l1 : Int32) (h : ((5 : Int32) ≤ l1 → post M) ∧ ((¬ (5 : Int32) ≤ l1) → (vp_in l1 5 ∧ (∀ M3 : eg_H, M3 = (sI M (52, 0) l1.toNatClampNeg l1) → (∀ x4 : Int32, x4 = (l1 + (1 : Int32)) → eg_W κ gC mtX10_orderByNumbers d (eQV κ gC post) 2 [(0, vR (10, 0)), (1, vI x4)] [] M3))))) : eg_W κ gC mtX10_orderByNumbers d (eQV κ gC post) 2 [(0, vR (10, 0)), (1, vI l1)] [] M := by
  refine eg_iload_n 1 dX10_orderByNumbers_2 rfl rfl ?_
  refine eg_iconst dX10_orderByNumbers_3 ic_5 ?_
  refine eg_icmp_ge (tgt := 20) dX10_orderByNumbers_4 rfl (fun c1 => ?_) (fun c1 => ?_)
  · have h := h.1 c1
    exact eg_vreturn dX10_orderByNumbers_20 rfl h
  · have h := h.2 c1
    refine eg_aload_n 0 dX10_orderByNumbers_7 rfl rfl ?_
    refine eg_getR dX10_orderByNumbers_8 fl_10_50 rfl rfl (obC_10 z1) ?_
    show eg_W κ gC mtX10_orderByNumbers d (eQV κ gC post) 11 [(0, vR (10, 0)), (1, vI l1)] [vR (52, 0)] M
    refine eg_iload_n 1 dX10_orderByNumbers_11 rfl rfl ?_
    refine eg_iload_n 1 dX10_orderByNumbers_12 rfl rfl ?_
    obtain ⟨g2, h⟩ := h
    refine en_iastore dX10_orderByNumbers_13 (arC_52 z1 g2) (fun M3 eM3 => ?_)
    have h := h M3 eM3
    refine en_iinc (f := fun x4 => [(1, vI x4), (0, vR (10, 0))]) 1 dX10_orderByNumbers_14 rfl rfl (by decide) rfl (fun x4 ex4 => ?_)
    have h := h x4 ex4
    refine eg_goto (tgt := 2) dX10_orderByNumbers_17 rfl ?_
    refine eg_sub [1, 0] rfl ?_
    exact h
theorem dX10_feedNumber_0 : decode cX10_feedNumber 0 = .ok (.bipush 24, 2) := by decide +kernel
theorem dX10_feedNumber_2 : decode cX10_feedNumber 2 = .ok (.istore_n 2, 1) := by decide +kernel
theorem dX10_feedNumber_3 : decode cX10_feedNumber 3 = .ok (.iload_n 2, 1) := by decide +kernel
theorem dX10_feedNumber_4 : decode cX10_feedNumber 4 = .ok (.ifCond .lt 42, 3) := by decide +kernel
theorem dX10_feedNumber_7 : decode cX10_feedNumber 7 = .ok (.aload_n 0, 1) := by decide +kernel
theorem dX10_feedNumber_8 : decode cX10_feedNumber 8 = .ok (.getfield 78, 3) := by decide +kernel
theorem dX10_feedNumber_11 : decode cX10_feedNumber 11 = .ok (.sipush 800, 3) := by decide +kernel
theorem dX10_feedNumber_14 : decode cX10_feedNumber 14 = .ok (.if_icmp .ge 32, 3) := by decide +kernel
theorem dX10_feedNumber_17 : decode cX10_feedNumber 17 = .ok (.aload_n 0, 1) := by decide +kernel
theorem dX10_feedNumber_18 : decode cX10_feedNumber 18 = .ok (.getfield 11, 3) := by decide +kernel
theorem dX10_feedNumber_21 : decode cX10_feedNumber 21 = .ok (.aload_n 0, 1) := by decide +kernel
theorem dX10_feedNumber_22 : decode cX10_feedNumber 22 = .ok (.getfield 78, 3) := by decide +kernel
theorem dX10_feedNumber_25 : decode cX10_feedNumber 25 = .ok (.iload_n 1, 1) := by decide +kernel
theorem dX10_feedNumber_26 : decode cX10_feedNumber 26 = .ok (.iload_n 2, 1) := by decide +kernel
theorem dX10_feedNumber_27 : decode cX10_feedNumber 27 = .ok (.ishr, 1) := by decide +kernel
theorem dX10_feedNumber_28 : decode cX10_feedNumber 28 = .ok (.i2b, 1) := by decide +kernel
theorem dX10_feedNumber_29 : decode cX10_feedNumber 29 = .ok (.bastore, 1) := by decide +kernel
theorem dX10_feedNumber_30 : decode cX10_feedNumber 30 = .ok (.aload_n 0, 1) := by decide +kernel
theorem dX10_feedNumber_31 : decode cX10_feedNumber 31 = .ok (.dup, 1) := by decide +kernel
theorem dX10_feedNumber_32 : decode cX10_feedNumber 32 = .ok (.getfield 78, 3) := by decide +kernel
theorem dX10_feedNumber_35 : decode cX10_feedNumber 35 = .ok (.iconst 1, 1) := by decide +kernel
theorem dX10_feedNumber_36 : decode cX10_feedNumber 36 = .ok (.iadd, 1) := by decide +kernel
theorem dX10_feedNumber_37 : decode cX10_feedNumber 37 = .ok (.putfield 78, 3) := by decide +kernel
theorem dX10_feedNumber_40 : decode cX10_feedNumber 40 = .ok (.iinc 2 (-8), 3) := by decide +kernel
theorem dX10_feedNumber_43 : decode cX10_feedNumber 43 = .ok (.goto (-40), 3) := by decide +kernel
theorem dX10_feedNumber_46 : decode cX10_feedNumber 46 = .ok (.return_, 1) := by decide +kernel
set_option maxRecDepth 10000 in
theorem vX10_feedNumber_0 {κ : eg_K} {d : Nat} {post : eg_H → Prop} (M : eg_H) (l1 : Int32) (h : eg_W κ gC mtX10_feedNumber d (eQV κ gC post) 3 [(0, vR (10, 0)), (1, vI l1), (2, vI (24 : Int32))] [] M) : eg_W κ gC mtX10_feedNumber d (eQV κ gC post) 0 [(0, vR (10, 0)), (1, vI l1)] [] M := by
  refine eg_bipush dX10_feedNumber_0 bp_24 ?_
  refine eg_istore_n dX10_feedNumber_2 rfl (by decide) (ls1 := [(2, vI (24 : Int32)), (0, vR (10, 0)), (1, vI l1)]) rfl ?_
  refine eg_sub [1, 2, 0] rfl ?_
  exact h
set_option maxRecDepth 10000 in
theorem vX10_feedNumber_3 {κ : eg_K} {d : Nat} {post : eg_H → Prop} (M : eg_H) (l1 : Int32) (l2 : Int32) (h : (l2 < 0 → post M) ∧ ((¬ l2 < 0) → ((800 : Int32) ≤ (M.1 (10, 0) 1) → post M) ∧ ((¬ (800 : Int32) ≤ (M.1 (10, 0) 1)) → (vp_in (M.1 (10, 0) 1) 800 ∧ (∀ M4 : eg_H, M4 = (sI M (50, 0) (M.1 (10, 0) 1).toNatClampNeg (vp_nar .byte ((l1 >>> (l2 &&& 31)).toInt8.toInt32))) → (∀ M5 : eg_H, M5 = (sI M4 (10, 0) 1 ((M4.1 (10, 0) 1) + (1 : Int32))) → (∀ x6 : Int32, x6 = (l2 + (-8 : Int32)) → eg_W κ gC mtX10_feedNumber d (eQV κ gC post) 3 [(0, vR (10, 0)), (1, vI l1), (2, vI x6)] [] M5))))))) : eg_W κ gC mtX10_feedNumber d (eQV κ gC post) 3 [(0, vR (10, 0)), (1, vI l1), (2, vI l2)] [] M := by
  refine eg_iload_n 2 dX10_feedNumber_3 rfl rfl ?_
  refine eg_if_lt (tgt := 46) dX10_feedNumber_4 rfl (fun c1 => ?_) (fun c1 => ?_)
  · have h := h.1 c1
    exact eg_vreturn dX10_feedNumber_46 rfl h
  · have h := h.2 c1
    refine eg_aload_n 0 dX10_feedNumber_7 rfl rfl ?_
    refine eg_getI dX10_feedNumber_8 fl_10_78 rfl trivial (obC_10 z1) ?_
    refine eg_sipush dX10_feedNumber_11 sp_800 ?_
    refine eg_icmp_ge (tgt := 46) dX10_feedNumber_14 rfl (fun c2 => ?_) (fun c2 => ?_)
    · have h := h.1 c2
      exact eg_vreturn dX10_feedNumber_46 rfl h
    · have h := h.2 c2
      refine eg_aload_n 0 dX10_feedNumber_17 rfl rfl ?_
      refine eg_getR dX10_feedNumber_18 fl_10_11 rfl rfl (obC_10 z1) ?_
      show eg_W κ gC mtX10_feedNumber d (eQV κ gC post) 21 [(0, vR (10, 0)), (1, vI l1), (2, vI l2)] [vR (50, 0)] M
      refine eg_aload_n 0 dX10_feedNumber_21 rfl rfl ?_
      refine eg_getI dX10_feedNumber_22 fl_10_78 rfl trivial (obC_10 z1) ?_
      refine eg_iload_n 1 dX10_feedNumber_25 rfl rfl ?_
      refine eg_iload_n 2 dX10_feedNumber_26 rfl rfl ?_
      refine eg_ishr dX10_feedNumber_27 ?_
      refine eg_i2b dX10_feedNumber_28 ?_
      obtain ⟨g3, h⟩ := h
      refine en_bastore dX10_feedNumber_29 (arC_50 z1 g3) (fun M4 eM4 => ?_)
      have h := h M4 eM4
      refine eg_aload_n 0 dX10_feedNumber_30 rfl rfl ?_
      refine eg_dup dX10_feedNumber_31 rfl ?_
      refine eg_getI dX10_feedNumber_32 fl_10_78 rfl trivial (obC_10 z1) ?_
      refine eg_iconst dX10_feedNumber_35 ic_1 ?_
      refine eg_iadd dX10_feedNumber_36 ?_
      refine en_putI dX10_feedNumber_37 fl_10_78 rfl rfl (obC_10 z1) (fun M5 eM5 => ?_)
      have h := h M5 eM5
      refine en_iinc (f := fun x6 => [(2, vI x6), (0, vR (10, 0)), (1, vI l1)]) 2 dX10_feedNumber_40 rfl rfl (by decide) rfl (fun x6 ex6 => ?_)
      have h := h x6 ex6
      refine eg_goto (tgt := 3) dX10_feedNumber_43 rfl ?_
      refine eg_sub [1, 2, 0] rfl ?_
      exact h
theorem dX11_find_0 : decode cX11_find 0 = .ok (.iconst 0, 1) := by decide +kernel
theorem dX11_find_1 : decode cX11_find 1 = .ok (.istore 4, 2) := by decide +kernel
theorem dX11_find_3 : decode cX11_find 3 = .ok (.iload 4, 2) := by decide +kernel
theorem dX11_find_5 : decode cX11_find 5 = .ok (.iload_n 2, 1) := by decide +kernel
theorem dX11_find_6 : decode cX11_find 6 = .ok (.if_icmp .ge 22, 3) := by decide +kernel
theorem dX11_find_9 : decode cX11_find 9 = .ok (.aload_n 0, 1) := by decide +kernel
theorem dX11_find_10 : decode cX11_find 10 = .ok (.iload_n 1, 1) := by decide +kernel
theorem dX11_find_11 : decode cX11_find 11 = .ok (.iload 4, 2) := by decide +kernel
theorem dX11_find_13 : decode cX11_find 13 = .ok (.iadd, 1) := by decide +kernel
theorem dX11_find_14 : decode cX11_find 14 = .ok (.iaload, 1) := by decide +kernel
theorem dX11_find_15 : decode cX11_find 15 = .ok (.iload_n 3, 1) := by decide +kernel
theorem dX11_find_16 : decode cX11_find 16 = .ok (.if_icmp .ne 6, 3) := by decide +kernel
theorem dX11_find_19 : decode cX11_find 19 = .ok (.iload 4, 2) := by decide +kernel
theorem dX11_find_21 : decode cX11_find 21 = .ok (.ireturn, 1) := by decide +kernel
theorem dX11_find_22 : decode cX11_find 22 = .ok (.iinc 4 1, 3) := by decide +kernel
theorem dX11_find_25 : decode cX11_find 25 = .ok (.goto (-22), 3) := by decide +kernel
theorem dX11_find_28 : decode cX11_find 28 = .ok (.iconst (-1), 1) := by decide +kernel
theorem dX11_find_29 : decode cX11_find 29 = .ok (.ireturn, 1) := by decide +kernel
set_option maxRecDepth 10000 in
theorem vX11_find_0 {κ : eg_K} {d : Nat} {post : Int32 → eg_H → Prop} (M : eg_H) {l0 : eg_R} {nl0 : Nat} (hl0 : l0 ∈ gM.1 ∧ gM.2.1 l0 = (1, nl0)) (l1 : Int32) (l2 : Int32) (l3 : Int32) (h : eg_W κ gM mtX11_find d (eQI κ gM post) 3 [(0, vR l0), (1, vI l1), (2, vI l2), (3, vI l3), (4, vI (0 : Int32))] [] M) : eg_W κ gM mtX11_find d (eQI κ gM post) 0 [(0, vR l0), (1, vI l1), (2, vI l2), (3, vI l3)] [] M := by
  refine eg_iconst dX11_find_0 ic_0 ?_
  refine eg_istore dX11_find_1 (by decide) (ls1 := [(4, vI (0 : Int32)), (0, vR l0), (1, vI l1), (2, vI l2), (3, vI l3)]) rfl ?_
  refine eg_sub [1, 2, 3, 4, 0] rfl ?_
  exact h
set_option maxRecDepth 10000 in
theorem vX11_find_3 {κ : eg_K} {d : Nat} {post : Int32 → eg_H → Prop} (M : eg_H) {l0 : eg_R} {nl0 : Nat} (hl0 : l0 ∈ gM.1 ∧ gM.2.1 l0 = (1, nl0)) (l1 : Int32) (l2 : Int32) (l3 : Int32) (l4 : Int32) (h : (l2 ≤ l4 → post (-1 : Int32) M) ∧ ((¬ l2 ≤ l4) → (vp_in (l1 + l4) nl0 ∧ ((¬ (M.1 l0 (l1 + l4).toNatClampNeg) = l3) → (∀ x4 : Int32, x4 = (l4 + (1 : Int32)) → eg_W κ gM mtX11_find d (eQI κ gM post) 3 [(0, vR l0), (1, vI l1), (2, vI l2), (3, vI l3), (4, vI x4)] [] M)) ∧ ((M.1 l0 (l1 + l4).toNatClampNeg) = l3 → post l4 M)))) : eg_W κ gM mtX11_find d (eQI κ gM post) 3 [(0, vR l0), (1, vI l1), (2, vI l2), (3, vI l3), (4, vI l4)] [] M := by
  refine eg_iload 4 dX11_find_3 rfl ?_
  refine eg_iload_n 2 dX11_find_5 rfl rfl ?_
  refine eg_icmp_ge (tgt := 28) dX11_find_6 rfl (fun c1 => ?_) (fun c1 => ?_)
  · have h := h.1 c1
    refine eg_iconst dX11_find_28 ic_m1 ?_
    exact eg_ireturn dX11_find_29 rfl h
  · have h := h.2 c1
    refine eg_aload_n 0 dX11_find_9 rfl rfl ?_
    refine eg_iload_n 1 dX11_find_10 rfl rfl ?_
    refine eg_iload 4 dX11_find_11 rfl ?_
    refine eg_iadd dX11_find_13 ?_
    obtain ⟨g2, h⟩ := h
    refine eg_iaload dX11_find_14 (eg_arA hl0 g2) ?_
    refine eg_iload_n 3 dX11_find_15 rfl rfl ?_
    refine eg_icmp_ne (tgt := 22) dX11_find_16 rfl (fun c3 => ?_) (fun c3 => ?_)
    · have h := h.1 c3
      refine en_iinc (f := fun x4 => [(4, vI x4), (0, vR l0), (1, vI l1), (2, vI l2), (3, vI l3)]) 4 dX11_find_22 rfl rfl (by decide) rfl (fun x4 ex4 => ?_)
      have h := h x4 ex4
      refine eg_goto (tgt := 3) dX11_find_25 rfl ?_
      refine eg_sub [1, 2, 3, 4, 0] rfl ?_
      exact h
    · have h := h.2 c3
      refine eg_iload 4 dX11_find_19 rfl ?_
      exact eg_ireturn dX11_find_21 rfl h
theorem dX11_copies_0 : decode cX11_copies 0 = .ok (.iconst 0, 1) := by decide +kernel
theorem dX11_copies_1 : decode cX11_copies 1 = .ok (.istore_n 2, 1) := by decide +kernel
theorem dX11_copies_2 : decode cX11_copies 2 = .ok (.iload_n 2, 1) := by decide +kernel
theorem dX11_copies_3 : decode cX11_copies 3 = .ok (.iload_n 1, 1) := by decide +kernel
theorem dX11_copies_4 : decode cX11_copies 4 = .ok (.if_icmp .ge 17, 3) := by decide +kernel
theorem dX11_copies_7 : decode cX11_copies 7 = .ok (.aload_n 0, 1) := by decide +kernel
theorem dX11_copies_8 : decode cX11_copies 8 = .ok (.iload_n 2, 1) := by decide +kernel
theorem dX11_copies_9 : decode cX11_copies 9 = .ok (.aload_n 0, 1) := by decide +kernel
theorem dX11_copies_10 : decode cX11_copies 10 = .ok (.iload_n 1, 1) := by decide +kernel
theorem dX11_copies_11 : decode cX11_copies 11 = .ok (.iload_n 2, 1) := by decide +kernel
theorem dX11_copies_12 : decode cX11_copies 12 = .ok (.iadd, 1) := by decide +kernel
theorem dX11_copies_13 : decode cX11_copies 13 = .ok (.iaload, 1) := by decide +kernel
theorem dX11_copies_14 : decode cX11_copies 14 = .ok (.iastore, 1) := by decide +kernel
theorem dX11_copies_15 : decode cX11_copies 15 = .ok (.iinc 2 1, 3) := by decide +kernel
theorem dX11_copies_18 : decode cX11_copies 18 = .ok (.goto (-16), 3) := by decide +kernel
theorem dX11_copies_21 : decode cX11_copies 21 = .ok (.return_, 1) := by decide +kernel
set_option maxRecDepth 10000 in
theorem vX11_copies_0 {κ : eg_K} {d : Nat} {post : eg_H → Prop} (M : eg_H) {l0 : eg_R} {nl0 : Nat} (hl0 : l0 ∈ gM.1 ∧ gM.2.1 l0 = (1, nl0)) (l1 : Int32) (h : eg_W κ gM mtX11_copies d (eQV κ gM post) 2 [(0, vR l0), (1, vI l1), (2, vI (0 : Int32))] [] M) : eg_W κ gM mtX11_copies d (eQV κ gM post) 0 [(0, vR l0), (1, vI l1)] [] M := by
  refine eg_iconst dX11_copies_0 ic_0 ?_
  refine eg_istore_n dX11_copies_1 rfl (by decide) (ls1 := [(2, vI (0 : Int32)), (0, vR l0), (1, vI l1)]) rfl ?_
  refine eg_sub [1, 2, 0] rfl ?_
  exact h
set_option maxRecDepth 10000 in
theorem vX11_copies_2 {κ : eg_K} {d : Nat} {post : eg_H → Prop} (M : eg_H) {l0 : eg_R} {nl0 : Nat} (hl0 : l0 ∈ gM.1 ∧ gM.2.1 l0 = (1, nl0)) (l1 : Int32) (l2 : Int32) (h : (l1 ≤ l2 → post M) ∧ ((¬ l1 ≤ l2) → (vp_in (l1 + l2) nl0 ∧ (vp_in l2 nl0 ∧ (∀ M4 : eg_H, M4 = (sI M l0 l2.toNatClampNeg (M.1 l0 (l1 + l2).toNatClampNeg)) → (∀ x5 : Int32, x5 = (l2 + (1 : Int32)) → eg_W κ gM mtX11_copies d (eQV κ gM post) 2 [(0, vR l0), (1, vI l1), (2, vI x5)] [] M4)))))) : eg_W κ gM mtX11_copies d (eQV κ gM post) 2 [(0, vR l0), (1, vI l1), (2, vI l2)] [] M := by
  refine eg_iload_n 2 dX11_copies_2 rfl rfl ?_
  refine eg_iload_n 1 dX11_copies_3 rfl rfl ?_
  refine eg_icmp_ge (tgt := 21) dX11_copies_4 rfl (fun c1 => ?_) (fun c1 => ?_)
  · have h := h.1 c1
    exact eg_vreturn dX11_copies_21 rfl h
  · have h := h.2 c1
    refine eg_aload_n 0 dX11_copies_7 rfl rfl ?_
    refine eg_iload_n 2 dX11_copies_8 rfl rfl ?_
    refine eg_aload_n 0 dX11_copies_9 rfl rfl ?_
    refine eg_iload_n 1 dX11_copies_10 rfl rfl ?_
    refine eg_iload_n 2 dX11_copies_11 rfl rfl ?_
    refine eg_iadd dX11_copies_12 ?_
    obtain ⟨g2, h⟩ := h
    refine eg_iaload dX11_copies_13 (eg_arA hl0 g2) ?_
    obtain ⟨g3, h⟩ := h
    refine en_iastore dX11_copies_14 (eg_arA hl0 g3) (fun M4 eM4 => ?_)
    have h := h M4 eM4
    refine en_iinc (f := fun x5 => [(2, vI x5), (0, vR l0), (1, vI l1)]) 2 dX11_copies_15 rfl rfl (by decide) rfl (fun x5 ex5 => ?_)
    have h := h x5 ex5
    refine eg_goto (tgt := 2) dX11_copies_18 rfl ?_
    refine eg_sub [1, 2, 0] rfl ?_
    exact h
theorem dX11_lays_0 : decode cX11_lays 0 = .ok (.iconst 0, 1) := by decide +kernel
theorem dX11_lays_1 : decode cX11_lays 1 = .ok (.istore_n 2, 1) := by decide +kernel
theorem dX11_lays_2 : decode cX11_lays 2 = .ok (.iload_n 2, 1) := by decide +kernel
theorem dX11_lays_3 : decode cX11_lays 3 = .ok (.sipush 366, 3) := by decide +kernel
theorem dX11_lays_6 : decode cX11_lays 6 = .ok (.if_icmp .ge 15, 3) := by decide +kernel
theorem dX11_lays_9 : decode cX11_lays 9 = .ok (.aload_n 0, 1) := by decide +kernel
theorem dX11_lays_10 : decode cX11_lays 10 = .ok (.iload_n 2, 1) := by decide +kernel
theorem dX11_lays_11 : decode cX11_lays 11 = .ok (.aload_n 1, 1) := by decide +kernel
theorem dX11_lays_12 : decode cX11_lays 12 = .ok (.iload_n 2, 1) := by decide +kernel
theorem dX11_lays_13 : decode cX11_lays 13 = .ok (.iaload, 1) := by decide +kernel
theorem dX11_lays_14 : decode cX11_lays 14 = .ok (.iastore, 1) := by decide +kernel
theorem dX11_lays_15 : decode cX11_lays 15 = .ok (.iinc 2 1, 3) := by decide +kernel
theorem dX11_lays_18 : decode cX11_lays 18 = .ok (.goto (-16), 3) := by decide +kernel
theorem dX11_lays_21 : decode cX11_lays 21 = .ok (.return_, 1) := by decide +kernel
set_option maxRecDepth 10000 in
theorem vX11_lays_0 {κ : eg_K} {d : Nat} {post : eg_H → Prop} (M : eg_H) {l0 : eg_R} {nl0 : Nat} (hl0 : l0 ∈ gM.1 ∧ gM.2.1 l0 = (1, nl0)) {l1 : eg_R} {nl1 : Nat} (hl1 : l1 ∈ gM.1 ∧ gM.2.1 l1 = (1, nl1)) (h : eg_W κ gM mtX11_lays d (eQV κ gM post) 2 [(0, vR l0), (1, vR l1), (2, vI (0 : Int32))] [] M) : eg_W κ gM mtX11_lays d (eQV κ gM post) 0 [(0, vR l0), (1, vR l1)] [] M := by
  refine eg_iconst dX11_lays_0 ic_0 ?_
  refine eg_istore_n dX11_lays_1 rfl (by decide) (ls1 := [(2, vI (0 : Int32)), (0, vR l0), (1, vR l1)]) rfl ?_
  refine eg_sub [1, 2, 0] rfl ?_
  exact h
set_option maxRecDepth 10000 in
theorem vX11_lays_2 {κ : eg_K} {d : Nat} {post : eg_H → Prop} (M : eg_H) {l0 : eg_R} {nl0 : Nat} (hl0 : l0 ∈ gM.1 ∧ gM.2.1 l0 = (1, nl0)) {l1 : eg_R} {nl1 : Nat} (hl1 : l1 ∈ gM.1 ∧ gM.2.1 l1 = (1, nl1)) (l2 : Int32) (h : ((366 : Int32) ≤ l2 → post M) ∧ ((¬ (366 : Int32) ≤ l2) → (vp_in l2 nl1 ∧ (vp_in l2 nl0 ∧ (∀ M4 : eg_H, M4 = (sI M l0 l2.toNatClampNeg (M.1 l1 l2.toNatClampNeg)) → (∀ x5 : Int32, x5 = (l2 + (1 : Int32)) → eg_W κ gM mtX11_lays d (eQV κ gM post) 2 [(0, vR l0), (1, vR l1), (2, vI x5)] [] M4)))))) : eg_W κ gM mtX11_lays d (eQV κ gM post) 2 [(0, vR l0), (1, vR l1), (2, vI l2)] [] M := by
  refine eg_iload_n 2 dX11_lays_2 rfl rfl ?_
  refine eg_sipush dX11_lays_3 sp_366 ?_
  refine eg_icmp_ge (tgt := 21) dX11_lays_6 rfl (fun c1 => ?_) (fun c1 => ?_)
  · have h := h.1 c1
    exact eg_vreturn dX11_lays_21 rfl h
  · have h := h.2 c1
    refine eg_aload_n 0 dX11_lays_9 rfl rfl ?_
    refine eg_iload_n 2 dX11_lays_10 rfl rfl ?_
    refine eg_aload_n 1 dX11_lays_11 rfl rfl ?_
    refine eg_iload_n 2 dX11_lays_12 rfl rfl ?_
    obtain ⟨g2, h⟩ := h
    refine eg_iaload dX11_lays_13 (eg_arA hl1 g2) ?_
    obtain ⟨g3, h⟩ := h
    refine en_iastore dX11_lays_14 (eg_arA hl0 g3) (fun M4 eM4 => ?_)
    have h := h M4 eM4
    refine en_iinc (f := fun x5 => [(2, vI x5), (0, vR l0), (1, vR l1)]) 2 dX11_lays_15 rfl rfl (by decide) rfl (fun x5 ex5 => ?_)
    have h := h x5 ex5
    refine eg_goto (tgt := 2) dX11_lays_18 rfl ?_
    refine eg_sub [1, 2, 0] rfl ?_
    exact h
theorem dX11_wantsOf_0 : decode cX11_wantsOf 0 = .ok (.iconst 0, 1) := by decide +kernel
theorem dX11_wantsOf_1 : decode cX11_wantsOf 1 = .ok (.istore_n 2, 1) := by decide +kernel
theorem dX11_wantsOf_2 : decode cX11_wantsOf 2 = .ok (.iconst 0, 1) := by decide +kernel
theorem dX11_wantsOf_3 : decode cX11_wantsOf 3 = .ok (.istore_n 3, 1) := by decide +kernel
theorem dX11_wantsOf_4 : decode cX11_wantsOf 4 = .ok (.iload_n 3, 1) := by decide +kernel
theorem dX11_wantsOf_5 : decode cX11_wantsOf 5 = .ok (.iconst 5, 1) := by decide +kernel
theorem dX11_wantsOf_6 : decode cX11_wantsOf 6 = .ok (.if_icmp .ge 26, 3) := by decide +kernel
theorem dX11_wantsOf_9 : decode cX11_wantsOf 9 = .ok (.iload_n 2, 1) := by decide +kernel
theorem dX11_wantsOf_10 : decode cX11_wantsOf 10 = .ok (.aload_n 0, 1) := by decide +kernel
theorem dX11_wantsOf_11 : decode cX11_wantsOf 11 = .ok (.getfield 69, 3) := by decide +kernel
theorem dX11_wantsOf_14 : decode cX11_wantsOf 14 = .ok (.iload_n 1, 1) := by decide +kernel
theorem dX11_wantsOf_15 : decode cX11_wantsOf 15 = .ok (.invokestatic 372, 3) := by decide +kernel
theorem dX11_wantsOf_18 : decode cX11_wantsOf 18 = .ok (.bipush 14, 2) := by decide +kernel
theorem dX11_wantsOf_20 : decode cX11_wantsOf 20 = .ok (.iadd, 1) := by decide +kernel
theorem dX11_wantsOf_21 : decode cX11_wantsOf 21 = .ok (.iload_n 3, 1) := by decide +kernel
theorem dX11_wantsOf_22 : decode cX11_wantsOf 22 = .ok (.iadd, 1) := by decide +kernel
theorem dX11_wantsOf_23 : decode cX11_wantsOf 23 = .ok (.iaload, 1) := by decide +kernel
theorem dX11_wantsOf_24 : decode cX11_wantsOf 24 = .ok (.iadd, 1) := by decide +kernel
theorem dX11_wantsOf_25 : decode cX11_wantsOf 25 = .ok (.istore_n 2, 1) := by decide +kernel
theorem dX11_wantsOf_26 : decode cX11_wantsOf 26 = .ok (.iinc 3 1, 3) := by decide +kernel
theorem dX11_wantsOf_29 : decode cX11_wantsOf 29 = .ok (.goto (-25), 3) := by decide +kernel
theorem dX11_wantsOf_32 : decode cX11_wantsOf 32 = .ok (.iload_n 2, 1) := by decide +kernel
theorem dX11_wantsOf_33 : decode cX11_wantsOf 33 = .ok (.ireturn, 1) := by decide +kernel
set_option maxRecDepth 10000 in
theorem vX11_wantsOf_0 {κ : eg_K} {d : Nat} {post : Int32 → eg_H → Prop} (M : eg_H) (l1 : Int32) (h : eg_W κ gM mtX11_wantsOf d (eQI κ gM post) 4 [(0, vR (60, 0)), (1, vI l1), (2, vI (0 : Int32)), (3, vI (0 : Int32))] [] M) : eg_W κ gM mtX11_wantsOf d (eQI κ gM post) 0 [(0, vR (60, 0)), (1, vI l1)] [] M := by
  refine eg_iconst dX11_wantsOf_0 ic_0 ?_
  refine eg_istore_n dX11_wantsOf_1 rfl (by decide) (ls1 := [(2, vI (0 : Int32)), (0, vR (60, 0)), (1, vI l1)]) rfl ?_
  refine eg_iconst dX11_wantsOf_2 ic_0 ?_
  refine eg_istore_n dX11_wantsOf_3 rfl (by decide) (ls1 := [(3, vI (0 : Int32)), (2, vI (0 : Int32)), (0, vR (60, 0)), (1, vI l1)]) rfl ?_
  refine eg_sub [2, 3, 1, 0] rfl ?_
  exact h
set_option maxRecDepth 10000 in
theorem vX11_wantsOf_4 {κ : eg_K} {d : Nat} (hd : 1 ≤ d) {post : Int32 → eg_H → Prop} (M : eg_H) (l1 : Int32) (l2 : Int32) (l3 : Int32) (h : ((5 : Int32) ≤ l3 → post l2 M) ∧ ((¬ (5 : Int32) ≤ l3) → (∀ x3 : Int32, x3 = (fX11_at M l1) → (vp_in ((x3 + (14 : Int32)) + l3) 366 ∧ (∀ x5 : Int32, x5 = (l2 + (M.1 (110, 0) ((x3 + (14 : Int32)) + l3).toNatClampNeg)) → (∀ x6 : Int32, x6 = (l3 + (1 : Int32)) → eg_W κ gM mtX11_wantsOf d (eQI κ gM post) 4 [(0, vR (60, 0)), (1, vI l1), (2, vI x5), (3, vI x6)] [] M)))))) : eg_W κ gM mtX11_wantsOf d (eQI κ gM post) 4 [(0, vR (60, 0)), (1, vI l1), (2, vI l2), (3, vI l3)] [] M := by
  refine eg_iload_n 3 dX11_wantsOf_4 rfl rfl ?_
  refine eg_iconst dX11_wantsOf_5 ic_5 ?_
  refine eg_icmp_ge (tgt := 32) dX11_wantsOf_6 rfl (fun c1 => ?_) (fun c1 => ?_)
  · have h := h.1 c1
    refine eg_iload_n 2 dX11_wantsOf_32 rfl rfl ?_
    exact eg_ireturn dX11_wantsOf_33 rfl h
  · have h := h.2 c1
    refine eg_iload_n 2 dX11_wantsOf_9 rfl rfl ?_
    refine eg_aload_n 0 dX11_wantsOf_10 rfl rfl ?_
    refine eg_getR dX11_wantsOf_11 fl_11_69 rfl rfl (obM_60 z1) ?_
    show eg_W κ gM mtX11_wantsOf d (eQI κ gM post) 14 [(0, vR (60, 0)), (1, vI l1), (2, vI l2), (3, vI l3)] [vR (110, 0), vI l2] M
    refine eg_iload_n 1 dX11_wantsOf_14 rfl rfl ?_
    refine eg_callSI (av := [vI l1]) (st := [vR (110, 0), vI l2]) dX11_wantsOf_15 ml_11_372 rfl rfl (Nat.le_of_ble_eq_true rfl) (eg_dd (by omega)) (sX11_at (by omega) M l1  ) (fun x3 M2 hp => ?_)
    obtain ⟨ex3, eM2⟩ := hp
    rw [eM2]
    have h := h x3 ex3
    refine eg_bipush dX11_wantsOf_18 bp_14 ?_
    refine eg_iadd dX11_wantsOf_20 ?_
    refine eg_iload_n 3 dX11_wantsOf_21 rfl rfl ?_
    refine eg_iadd dX11_wantsOf_22 ?_
    obtain ⟨g4, h⟩ := h
    refine eg_iaload dX11_wantsOf_23 (arM_110 z1 g4) ?_
    refine eg_iadd dX11_wantsOf_24 ?_
    refine en_istore_n (f := fun x5 => [(2, vI x5), (0, vR (60, 0)), (1, vI l1), (3, vI l3)]) dX11_wantsOf_25 rfl (by decide) rfl (fun x5 ex5 => ?_)
    have h := h x5 ex5
    refine en_iinc (f := fun x6 => [(3, vI x6), (2, vI x5), (0, vR (60, 0)), (1, vI l1)]) 3 dX11_wantsOf_26 rfl rfl (by decide) rfl (fun x6 ex6 => ?_)
    have h := h x6 ex6
    refine eg_goto (tgt := 4) dX11_wantsOf_29 rfl ?_
    refine eg_sub [2, 3, 1, 0] rfl ?_
    exact h
theorem dX11_takersAt_0 : decode cX11_takersAt 0 = .ok (.iconst 0, 1) := by decide +kernel
theorem dX11_takersAt_1 : decode cX11_takersAt 1 = .ok (.istore_n 2, 1) := by decide +kernel
theorem dX11_takersAt_2 : decode cX11_takersAt 2 = .ok (.iconst 0, 1) := by decide +kernel
theorem dX11_takersAt_3 : decode cX11_takersAt 3 = .ok (.istore_n 3, 1) := by decide +kernel
theorem dX11_takersAt_4 : decode cX11_takersAt 4 = .ok (.iload_n 3, 1) := by decide +kernel
theorem dX11_takersAt_5 : decode cX11_takersAt 5 = .ok (.aload_n 0, 1) := by decide +kernel
theorem dX11_takersAt_6 : decode cX11_takersAt 6 = .ok (.getfield 69, 3) := by decide +kernel
theorem dX11_takersAt_9 : decode cX11_takersAt 9 = .ok (.iconst 1, 1) := by decide +kernel
theorem dX11_takersAt_10 : decode cX11_takersAt 10 = .ok (.iaload, 1) := by decide +kernel
theorem dX11_takersAt_11 : decode cX11_takersAt 11 = .ok (.if_icmp .ge 60, 3) := by decide +kernel
theorem dX11_takersAt_14 : decode cX11_takersAt 14 = .ok (.iload_n 2, 1) := by decide +kernel
theorem dX11_takersAt_15 : decode cX11_takersAt 15 = .ok (.aload_n 0, 1) := by decide +kernel
theorem dX11_takersAt_16 : decode cX11_takersAt 16 = .ok (.getfield 69, 3) := by decide +kernel
theorem dX11_takersAt_19 : decode cX11_takersAt 19 = .ok (.aload_n 0, 1) := by decide +kernel
theorem dX11_takersAt_20 : decode cX11_takersAt 20 = .ok (.getfield 69, 3) := by decide +kernel
theorem dX11_takersAt_23 : decode cX11_takersAt 23 = .ok (.iconst 2, 1) := by decide +kernel
theorem dX11_takersAt_24 : decode cX11_takersAt 24 = .ok (.iload_n 3, 1) := by decide +kernel
theorem dX11_takersAt_25 : decode cX11_takersAt 25 = .ok (.iadd, 1) := by decide +kernel
theorem dX11_takersAt_26 : decode cX11_takersAt 26 = .ok (.iaload, 1) := by decide +kernel
theorem dX11_takersAt_27 : decode cX11_takersAt 27 = .ok (.invokestatic 372, 3) := by decide +kernel
theorem dX11_takersAt_30 : decode cX11_takersAt 30 = .ok (.iconst 3, 1) := by decide +kernel
theorem dX11_takersAt_31 : decode cX11_takersAt 31 = .ok (.iadd, 1) := by decide +kernel
theorem dX11_takersAt_32 : decode cX11_takersAt 32 = .ok (.iaload, 1) := by decide +kernel
theorem dX11_takersAt_33 : decode cX11_takersAt 33 = .ok (.ifCond .le 29, 3) := by decide +kernel
theorem dX11_takersAt_36 : decode cX11_takersAt 36 = .ok (.aload_n 0, 1) := by decide +kernel
theorem dX11_takersAt_37 : decode cX11_takersAt 37 = .ok (.getfield 69, 3) := by decide +kernel
theorem dX11_takersAt_40 : decode cX11_takersAt 40 = .ok (.aload_n 0, 1) := by decide +kernel
theorem dX11_takersAt_41 : decode cX11_takersAt 41 = .ok (.getfield 69, 3) := by decide +kernel
theorem dX11_takersAt_44 : decode cX11_takersAt 44 = .ok (.iconst 2, 1) := by decide +kernel
theorem dX11_takersAt_45 : decode cX11_takersAt 45 = .ok (.iload_n 3, 1) := by decide +kernel
theorem dX11_takersAt_46 : decode cX11_takersAt 46 = .ok (.iadd, 1) := by decide +kernel
theorem dX11_takersAt_47 : decode cX11_takersAt 47 = .ok (.iaload, 1) := by decide +kernel
theorem dX11_takersAt_48 : decode cX11_takersAt 48 = .ok (.invokestatic 372, 3) := by decide +kernel
theorem dX11_takersAt_51 : decode cX11_takersAt 51 = .ok (.iconst 1, 1) := by decide +kernel
theorem dX11_takersAt_52 : decode cX11_takersAt 52 = .ok (.iadd, 1) := by decide +kernel
theorem dX11_takersAt_53 : decode cX11_takersAt 53 = .ok (.iaload, 1) := by decide +kernel
theorem dX11_takersAt_54 : decode cX11_takersAt 54 = .ok (.iload_n 1, 1) := by decide +kernel
theorem dX11_takersAt_55 : decode cX11_takersAt 55 = .ok (.if_icmp .ne 7, 3) := by decide +kernel
theorem dX11_takersAt_58 : decode cX11_takersAt 58 = .ok (.iconst 1, 1) := by decide +kernel
theorem dX11_takersAt_59 : decode cX11_takersAt 59 = .ok (.goto 4, 3) := by decide +kernel
theorem dX11_takersAt_62 : decode cX11_takersAt 62 = .ok (.iconst 0, 1) := by decide +kernel
theorem dX11_takersAt_63 : decode cX11_takersAt 63 = .ok (.iadd, 1) := by decide +kernel
theorem dX11_takersAt_64 : decode cX11_takersAt 64 = .ok (.istore_n 2, 1) := by decide +kernel
theorem dX11_takersAt_65 : decode cX11_takersAt 65 = .ok (.iinc 3 1, 3) := by decide +kernel
theorem dX11_takersAt_68 : decode cX11_takersAt 68 = .ok (.goto (-64), 3) := by decide +kernel
theorem dX11_takersAt_71 : decode cX11_takersAt 71 = .ok (.iload_n 2, 1) := by decide +kernel
theorem dX11_takersAt_72 : decode cX11_takersAt 72 = .ok (.ireturn, 1) := by decide +kernel
set_option maxRecDepth 10000 in
theorem vX11_takersAt_0 {κ : eg_K} {d : Nat} {post : Int32 → eg_H → Prop} (M : eg_H) (l1 : Int32) (h : eg_W κ gM mtX11_takersAt d (eQI κ gM post) 4 [(0, vR (60, 0)), (1, vI l1), (2, vI (0 : Int32)), (3, vI (0 : Int32))] [] M) : eg_W κ gM mtX11_takersAt d (eQI κ gM post) 0 [(0, vR (60, 0)), (1, vI l1)] [] M := by
  refine eg_iconst dX11_takersAt_0 ic_0 ?_
  refine eg_istore_n dX11_takersAt_1 rfl (by decide) (ls1 := [(2, vI (0 : Int32)), (0, vR (60, 0)), (1, vI l1)]) rfl ?_
  refine eg_iconst dX11_takersAt_2 ic_0 ?_
  refine eg_istore_n dX11_takersAt_3 rfl (by decide) (ls1 := [(3, vI (0 : Int32)), (2, vI (0 : Int32)), (0, vR (60, 0)), (1, vI l1)]) rfl ?_
  refine eg_sub [2, 3, 1, 0] rfl ?_
  exact h
set_option maxRecDepth 10000 in
theorem vX11_takersAt_4 {κ : eg_K} {d : Nat} (hd : 1 ≤ d) {post : Int32 → eg_H → Prop} (M : eg_H) (l1 : Int32) (l2 : Int32) (l3 : Int32) (h : (vp_in (1 : Int32) 366 ∧ ((M.1 (110, 0) (1 : Int32).toNatClampNeg) ≤ l3 → post l2 M) ∧ ((¬ (M.1 (110, 0) (1 : Int32).toNatClampNeg) ≤ l3) → (vp_in ((2 : Int32) + l3) 366 ∧ (∀ x5 : Int32, x5 = (fX11_at M (M.1 (110, 0) ((2 : Int32) + l3).toNatClampNeg)) → (vp_in (x5 + (3 : Int32)) 366 ∧ ((M.1 (110, 0) (x5 + (3 : Int32)).toNatClampNeg) ≤ 0 → (∀ x8 : Int32, x8 = (l2 + (0 : Int32)) → (∀ x9 : Int32, x9 = (l3 + (1 : Int32)) → eg_W κ gM mtX11_takersAt d (eQI κ gM post) 4 [(0, vR (60, 0)), (1, vI l1), (2, vI x8), (3, vI x9)] [] M))) ∧ ((¬ (M.1 (110, 0) (x5 + (3 : Int32)).toNatClampNeg) ≤ 0) → (∀ x11 : Int32, x11 = (fX11_at M (M.1 (110, 0) ((2 : Int32) + l3).toNatClampNeg)) → (vp_in (x11 + (1 : Int32)) 366 ∧ (∀ x13 : Int32, x13 = ((if (¬ (M.1 (110, 0) (x11 + (1 : Int32)).toNatClampNeg) = l1) then (0 : Int32) else (1 : Int32))) → (∀ x14 : Int32, x14 = (l2 + x13) → (∀ x15 : Int32, x15 = (l3 + (1 : Int32)) → eg_W κ gM mtX11_takersAt d (eQI κ gM post) 4 [(0, vR (60, 0)), (1, vI l1), (2, vI x14), (3, vI x15)] [] M)))))))))))) : eg_W κ gM mtX11_takersAt d (eQI κ gM post) 4 [(0, vR (60, 0)), (1, vI l1), (2, vI l2), (3, vI l3)] [] M := by
  refine eg_iload_n 3 dX11_takersAt_4 rfl rfl ?_
  refine eg_aload_n 0 dX11_takersAt_5 rfl rfl ?_
  refine eg_getR dX11_takersAt_6 fl_11_69 rfl rfl (obM_60 z1) ?_
  show eg_W κ gM mtX11_takersAt d (eQI κ gM post) 9 [(0, vR (60, 0)), (1, vI l1), (2, vI l2), (3, vI l3)] [vR (110, 0), vI l3] M
  refine eg_iconst dX11_takersAt_9 ic_1 ?_
  obtain ⟨g1, h⟩ := h
  refine eg_iaload dX11_takersAt_10 (arM_110 z1 g1) ?_
  refine eg_icmp_ge (tgt := 71) dX11_takersAt_11 rfl (fun c2 => ?_) (fun c2 => ?_)
  · have h := h.1 c2
    refine eg_iload_n 2 dX11_takersAt_71 rfl rfl ?_
    exact eg_ireturn dX11_takersAt_72 rfl h
  · have h := h.2 c2
    refine eg_iload_n 2 dX11_takersAt_14 rfl rfl ?_
    refine eg_aload_n 0 dX11_takersAt_15 rfl rfl ?_
    refine eg_getR dX11_takersAt_16 fl_11_69 rfl rfl (obM_60 z1) ?_
    show eg_W κ gM mtX11_takersAt d (eQI κ gM post) 19 [(0, vR (60, 0)), (1, vI l1), (2, vI l2), (3, vI l3)] [vR (110, 0), vI l2] M
    refine eg_aload_n 0 dX11_takersAt_19 rfl rfl ?_
    refine eg_getR dX11_takersAt_20 fl_11_69 rfl rfl (obM_60 z1) ?_
    show eg_W κ gM mtX11_takersAt d (eQI κ gM post) 23 [(0, vR (60, 0)), (1, vI l1), (2, vI l2), (3, vI l3)] [vR (110, 0), vR (110, 0), vI l2] M
    refine eg_iconst dX11_takersAt_23 ic_2 ?_
    refine eg_iload_n 3 dX11_takersAt_24 rfl rfl ?_
    refine eg_iadd dX11_takersAt_25 ?_
    obtain ⟨g3, h⟩ := h
    refine eg_iaload dX11_takersAt_26 (arM_110 z1 g3) ?_
    refine eg_callSI (av := [vI (M.1 (110, 0) ((2 : Int32) + l3).toNatClampNeg)]) (st := [vR (110, 0), vI l2]) dX11_takersAt_27 ml_11_372 rfl rfl (Nat.le_of_ble_eq_true rfl) (eg_dd (by omega)) (sX11_at (by omega) M (M.1 (110, 0) ((2 : Int32) + l3).toNatClampNeg)  ) (fun x5 M4 hp => ?_)
    obtain ⟨ex5, eM4⟩ := hp
    rw [eM4]
    have h := h x5 ex5
    refine eg_iconst dX11_takersAt_30 ic_3 ?_
    refine eg_iadd dX11_takersAt_31 ?_
    obtain ⟨g6, h⟩ := h
    refine eg_iaload dX11_takersAt_32 (arM_110 z1 g6) ?_
    refine eg_if_le (tgt := 62) dX11_takersAt_33 rfl (fun c7 => ?_) (fun c7 => ?_)
    · have h := h.1 c7
      refine eg_iconst dX11_takersAt_62 ic_0 ?_
      refine eg_iadd dX11_takersAt_63 ?_
      refine en_istore_n (f := fun x8 => [(2, vI x8), (0, vR (60, 0)), (1, vI l1), (3, vI l3)]) dX11_takersAt_64 rfl (by decide) rfl (fun x8 ex8 => ?_)
      have h := h x8 ex8
      refine en_iinc (f := fun x9 => [(3, vI x9), (2, vI x8), (0, vR (60, 0)), (1, vI l1)]) 3 dX11_takersAt_65 rfl rfl (by decide) rfl (fun x9 ex9 => ?_)
      have h := h x9 ex9
      refine eg_goto (tgt := 4) dX11_takersAt_68 rfl ?_
      refine eg_sub [2, 3, 1, 0] rfl ?_
      exact h
    · have h := h.2 c7
      refine eg_aload_n 0 dX11_takersAt_36 rfl rfl ?_
      refine eg_getR dX11_takersAt_37 fl_11_69 rfl rfl (obM_60 z1) ?_
      show eg_W κ gM mtX11_takersAt d (eQI κ gM post) 40 [(0, vR (60, 0)), (1, vI l1), (2, vI l2), (3, vI l3)] [vR (110, 0), vI l2] M
      refine eg_aload_n 0 dX11_takersAt_40 rfl rfl ?_
      refine eg_getR dX11_takersAt_41 fl_11_69 rfl rfl (obM_60 z1) ?_
      show eg_W κ gM mtX11_takersAt d (eQI κ gM post) 44 [(0, vR (60, 0)), (1, vI l1), (2, vI l2), (3, vI l3)] [vR (110, 0), vR (110, 0), vI l2] M
      refine eg_iconst dX11_takersAt_44 ic_2 ?_
      refine eg_iload_n 3 dX11_takersAt_45 rfl rfl ?_
      refine eg_iadd dX11_takersAt_46 ?_
      refine eg_iaload dX11_takersAt_47 (arM_110 z1 g3) ?_
      refine eg_callSI (av := [vI (M.1 (110, 0) ((2 : Int32) + l3).toNatClampNeg)]) (st := [vR (110, 0), vI l2]) dX11_takersAt_48 ml_11_372 rfl rfl (Nat.le_of_ble_eq_true rfl) (eg_dd (by omega)) (sX11_at (by omega) M (M.1 (110, 0) ((2 : Int32) + l3).toNatClampNeg)  ) (fun x11 M10 hp => ?_)
      obtain ⟨ex11, eM10⟩ := hp
      rw [eM10]
      have h := h x11 ex11
      refine eg_iconst dX11_takersAt_51 ic_1 ?_
      refine eg_iadd dX11_takersAt_52 ?_
      obtain ⟨g12, h⟩ := h
      refine eg_iaload dX11_takersAt_53 (arM_110 z1 g12) ?_
      refine eg_iload_n 1 dX11_takersAt_54 rfl rfl ?_
      have J : ∀ x13 : Int32, x13 = (if (¬ (M.1 (110, 0) (x11 + (1 : Int32)).toNatClampNeg) = l1) then (0 : Int32) else (1 : Int32)) → eg_W κ gM mtX11_takersAt d (eQI κ gM post) 63 [(0, vR (60, 0)), (1, vI l1), (2, vI l2), (3, vI l3)] [vI x13, vI l2] M := by
        intro x13 ex13
        have h := h x13 ex13
        refine eg_iadd dX11_takersAt_63 ?_
        refine en_istore_n (f := fun x14 => [(2, vI x14), (0, vR (60, 0)), (1, vI l1), (3, vI l3)]) dX11_takersAt_64 rfl (by decide) rfl (fun x14 ex14 => ?_)
        have h := h x14 ex14
        refine en_iinc (f := fun x15 => [(3, vI x15), (2, vI x14), (0, vR (60, 0)), (1, vI l1)]) 3 dX11_takersAt_65 rfl rfl (by decide) rfl (fun x15 ex15 => ?_)
        have h := h x15 ex15
        refine eg_goto (tgt := 4) dX11_takersAt_68 rfl ?_
        refine eg_sub [2, 3, 1, 0] rfl ?_
        exact h
      clear h
      refine eg_icmp_ne (tgt := 62) dX11_takersAt_55 rfl (fun c16 => ?_) (fun c16 => ?_)
      · refine eg_iconst dX11_takersAt_62 ic_0 ?_
        exact J _ (by rw [if_pos c16])
      · have c17 : ¬ (¬ (M.1 (110, 0) (x11 + (1 : Int32)).toNatClampNeg) = l1) := fun z => z c16
        refine eg_iconst dX11_takersAt_58 ic_1 ?_
        refine eg_goto (tgt := 63) dX11_takersAt_59 rfl ?_
        exact J _ (by rw [if_neg c17])
theorem dX11_nextOf_0 : decode cX11_nextOf 0 = .ok (.iload_n 1, 1) := by decide +kernel
theorem dX11_nextOf_1 : decode cX11_nextOf 1 = .ok (.invokestatic 372, 3) := by decide +kernel
theorem dX11_nextOf_4 : decode cX11_nextOf 4 = .ok (.istore_n 2, 1) := by decide +kernel
theorem dX11_nextOf_5 : decode cX11_nextOf 5 = .ok (.aload_n 0, 1) := by decide +kernel
theorem dX11_nextOf_6 : decode cX11_nextOf 6 = .ok (.getfield 69, 3) := by decide +kernel
theorem dX11_nextOf_9 : decode cX11_nextOf 9 = .ok (.iload_n 2, 1) := by decide +kernel
theorem dX11_nextOf_10 : decode cX11_nextOf 10 = .ok (.iconst 2, 1) := by decide +kernel
theorem dX11_nextOf_11 : decode cX11_nextOf 11 = .ok (.iadd, 1) := by decide +kernel
theorem dX11_nextOf_12 : decode cX11_nextOf 12 = .ok (.iaload, 1) := by decide +kernel
theorem dX11_nextOf_13 : decode cX11_nextOf 13 = .ok (.ifCond .ne 5, 3) := by decide +kernel
theorem dX11_nextOf_16 : decode cX11_nextOf 16 = .ok (.iconst (-1), 1) := by decide +kernel
theorem dX11_nextOf_17 : decode cX11_nextOf 17 = .ok (.ireturn, 1) := by decide +kernel
theorem dX11_nextOf_18 : decode cX11_nextOf 18 = .ok (.aload_n 0, 1) := by decide +kernel
theorem dX11_nextOf_19 : decode cX11_nextOf 19 = .ok (.getfield 69, 3) := by decide +kernel
theorem dX11_nextOf_22 : decode cX11_nextOf 22 = .ok (.iload_n 2, 1) := by decide +kernel
theorem dX11_nextOf_23 : decode cX11_nextOf 23 = .ok (.bipush 10, 2) := by decide +kernel
theorem dX11_nextOf_25 : decode cX11_nextOf 25 = .ok (.iadd, 1) := by decide +kernel
theorem dX11_nextOf_26 : decode cX11_nextOf 26 = .ok (.iaload, 1) := by decide +kernel
theorem dX11_nextOf_27 : decode cX11_nextOf 27 = .ok (.iconst 1, 1) := by decide +kernel
theorem dX11_nextOf_28 : decode cX11_nextOf 28 = .ok (.if_icmp .ne 14, 3) := by decide +kernel
theorem dX11_nextOf_31 : decode cX11_nextOf 31 = .ok (.aload_n 0, 1) := by decide +kernel
theorem dX11_nextOf_32 : decode cX11_nextOf 32 = .ok (.getfield 69, 3) := by decide +kernel
theorem dX11_nextOf_35 : decode cX11_nextOf 35 = .ok (.iload_n 2, 1) := by decide +kernel
theorem dX11_nextOf_36 : decode cX11_nextOf 36 = .ok (.iconst 1, 1) := by decide +kernel
theorem dX11_nextOf_37 : decode cX11_nextOf 37 = .ok (.iadd, 1) := by decide +kernel
theorem dX11_nextOf_38 : decode cX11_nextOf 38 = .ok (.iaload, 1) := by decide +kernel
theorem dX11_nextOf_39 : decode cX11_nextOf 39 = .ok (.goto 13, 3) := by decide +kernel
theorem dX11_nextOf_42 : decode cX11_nextOf 42 = .ok (.aload_n 0, 1) := by decide +kernel
theorem dX11_nextOf_43 : decode cX11_nextOf 43 = .ok (.getfield 69, 3) := by decide +kernel
theorem dX11_nextOf_46 : decode cX11_nextOf 46 = .ok (.iload_n 2, 1) := by decide +kernel
theorem dX11_nextOf_47 : decode cX11_nextOf 47 = .ok (.iconst 1, 1) := by decide +kernel
theorem dX11_nextOf_48 : decode cX11_nextOf 48 = .ok (.iadd, 1) := by decide +kernel
theorem dX11_nextOf_49 : decode cX11_nextOf 49 = .ok (.iaload, 1) := by decide +kernel
theorem dX11_nextOf_50 : decode cX11_nextOf 50 = .ok (.iconst 1, 1) := by decide +kernel
theorem dX11_nextOf_51 : decode cX11_nextOf 51 = .ok (.iadd, 1) := by decide +kernel
theorem dX11_nextOf_52 : decode cX11_nextOf 52 = .ok (.istore_n 3, 1) := by decide +kernel
theorem dX11_nextOf_53 : decode cX11_nextOf 53 = .ok (.iload_n 3, 1) := by decide +kernel
theorem dX11_nextOf_54 : decode cX11_nextOf 54 = .ok (.aload_n 0, 1) := by decide +kernel
theorem dX11_nextOf_55 : decode cX11_nextOf 55 = .ok (.getfield 209, 3) := by decide +kernel
theorem dX11_nextOf_58 : decode cX11_nextOf 58 = .ok (.if_icmp .ge 34, 3) := by decide +kernel
theorem dX11_nextOf_61 : decode cX11_nextOf 61 = .ok (.aload_n 0, 1) := by decide +kernel
theorem dX11_nextOf_62 : decode cX11_nextOf 62 = .ok (.getfield 69, 3) := by decide +kernel
theorem dX11_nextOf_65 : decode cX11_nextOf 65 = .ok (.iload_n 2, 1) := by decide +kernel
theorem dX11_nextOf_66 : decode cX11_nextOf 66 = .ok (.bipush 14, 2) := by decide +kernel
theorem dX11_nextOf_68 : decode cX11_nextOf 68 = .ok (.iadd, 1) := by decide +kernel
theorem dX11_nextOf_69 : decode cX11_nextOf 69 = .ok (.aload_n 0, 1) := by decide +kernel
theorem dX11_nextOf_70 : decode cX11_nextOf 70 = .ok (.getfield 69, 3) := by decide +kernel
theorem dX11_nextOf_73 : decode cX11_nextOf 73 = .ok (.sipush 360, 3) := by decide +kernel
theorem dX11_nextOf_76 : decode cX11_nextOf 76 = .ok (.iload_n 3, 1) := by decide +kernel
theorem dX11_nextOf_77 : decode cX11_nextOf 77 = .ok (.iadd, 1) := by decide +kernel
theorem dX11_nextOf_78 : decode cX11_nextOf 78 = .ok (.iaload, 1) := by decide +kernel
theorem dX11_nextOf_79 : decode cX11_nextOf 79 = .ok (.iadd, 1) := by decide +kernel
theorem dX11_nextOf_80 : decode cX11_nextOf 80 = .ok (.iaload, 1) := by decide +kernel
theorem dX11_nextOf_81 : decode cX11_nextOf 81 = .ok (.ifCond .le 5, 3) := by decide +kernel
theorem dX11_nextOf_84 : decode cX11_nextOf 84 = .ok (.iload_n 3, 1) := by decide +kernel
theorem dX11_nextOf_85 : decode cX11_nextOf 85 = .ok (.ireturn, 1) := by decide +kernel
theorem dX11_nextOf_86 : decode cX11_nextOf 86 = .ok (.iinc 3 1, 3) := by decide +kernel
theorem dX11_nextOf_89 : decode cX11_nextOf 89 = .ok (.goto (-36), 3) := by decide +kernel
theorem dX11_nextOf_92 : decode cX11_nextOf 92 = .ok (.iconst (-1), 1) := by decide +kernel
theorem dX11_nextOf_93 : decode cX11_nextOf 93 = .ok (.ireturn, 1) := by decide +kernel
set_option maxRecDepth 10000 in
theorem vX11_nextOf_0 {κ : eg_K} {d : Nat} (hd : 1 ≤ d) {post : Int32 → eg_H → Prop} (M : eg_H) (l1 : Int32) (h : (∀ x2 : Int32, x2 = (fX11_at M l1) → (vp_in (x2 + (2 : Int32)) 366 ∧ ((¬ (M.1 (110, 0) (x2 + (2 : Int32)).toNatClampNeg) = 0) → (vp_in (x2 + (10 : Int32)) 366 ∧ (((¬ (M.1 (110, 0) (x2 + (10 : Int32)).toNatClampNeg) = (1 : Int32)) → vp_in (x2 + (1 : Int32)) 366) ∧ (((M.1 (110, 0) (x2 + (10 : Int32)).toNatClampNeg) = (1 : Int32) → vp_in (x2 + (1 : Int32)) 366) ∧ (∀ x8 : Int32, x8 = ((if (¬ (M.1 (110, 0) (x2 + (10 : Int32)).toNatClampNeg) = (1 : Int32)) then ((M.1 (110, 0) (x2 + (1 : Int32)).toNatClampNeg) + (1 : Int32)) else (M.1 (110, 0) (x2 + (1 : Int32)).toNatClampNeg))) → eg_W κ gM mtX11_nextOf d (eQI κ gM post) 53 [(0, vR (60, 0)), (2, vI x2), (3, vI x8)] [] M))))) ∧ ((M.1 (110, 0) (x2 + (2 : Int32)).toNatClampNeg) = 0 → post (-1 : Int32) M)))) : eg_W κ gM mtX11_nextOf d (eQI κ gM post) 0 [(0, vR (60, 0)), (1, vI l1)] [] M := by
  refine eg_iload_n 1 dX11_nextOf_0 rfl rfl ?_
  refine eg_callSI (av := [vI l1]) (st := []) dX11_nextOf_1 ml_11_372 rfl rfl (Nat.le_of_ble_eq_true rfl) (eg_dd (by omega)) (sX11_at (by omega) M l1  ) (fun x2 M1 hp => ?_)
  obtain ⟨ex2, eM1⟩ := hp
  rw [eM1]
  have h := h x2 ex2
  refine eg_istore_n dX11_nextOf_4 rfl (by decide) (ls1 := [(2, vI x2), (0, vR (60, 0)), (1, vI l1)]) rfl ?_
  refine eg_aload_n 1 dX11_nextOf_5 rfl rfl ?_
  refine eg_getR dX11_nextOf_6 fl_11_69 rfl rfl (obM_60 z1) ?_
  show eg_W κ gM mtX11_nextOf d (eQI κ gM post) 9 [(2, vI x2), (0, vR (60, 0)), (1, vI l1)] [vR (110, 0)] M
  refine eg_iload_n 0 dX11_nextOf_9 rfl rfl ?_
  refine eg_iconst dX11_nextOf_10 ic_2 ?_
  refine eg_iadd dX11_nextOf_11 ?_
  obtain ⟨g3, h⟩ := h
  refine eg_iaload dX11_nextOf_12 (arM_110 z1 g3) ?_
  refine eg_if_ne (tgt := 18) dX11_nextOf_13 rfl (fun c4 => ?_) (fun c4 => ?_)
  · have h := h.1 c4
    refine eg_aload_n 1 dX11_nextOf_18 rfl rfl ?_
    refine eg_getR dX11_nextOf_19 fl_11_69 rfl rfl (obM_60 z1) ?_
    show eg_W κ gM mtX11_nextOf d (eQI κ gM post) 22 [(2, vI x2), (0, vR (60, 0)), (1, vI l1)] [vR (110, 0)] M
    refine eg_iload_n 0 dX11_nextOf_22 rfl rfl ?_
    refine eg_bipush dX11_nextOf_23 bp_10 ?_
    refine eg_iadd dX11_nextOf_25 ?_
    obtain ⟨g5, h⟩ := h
    refine eg_iaload dX11_nextOf_26 (arM_110 z1 g5) ?_
    refine eg_iconst dX11_nextOf_27 ic_1 ?_
    obtain ⟨g6, h⟩ := h
    obtain ⟨g7, h⟩ := h
    have J : ∀ x8 : Int32, x8 = (if (¬ (M.1 (110, 0) (x2 + (10 : Int32)).toNatClampNeg) = (1 : Int32)) then ((M.1 (110, 0) (x2 + (1 : Int32)).toNatClampNeg) + (1 : Int32)) else (M.1 (110, 0) (x2 + (1 : Int32)).toNatClampNeg)) → eg_W κ gM mtX11_nextOf d (eQI κ gM post) 52 [(2, vI x2), (0, vR (60, 0)), (1, vI l1)] [vI x8] M := by
      intro x8 ex8
      have h := h x8 ex8
      refine eg_istore_n dX11_nextOf_52 rfl (by decide) (ls1 := [(3, vI x8), (2, vI x2), (0, vR (60, 0)), (1, vI l1)]) rfl ?_
      refine eg_sub [2, 1, 0] rfl ?_
      exact h
    clear h
    refine eg_icmp_ne (tgt := 42) dX11_nextOf_28 rfl (fun c9 => ?_) (fun c9 => ?_)
    · refine eg_aload_n 1 dX11_nextOf_42 rfl rfl ?_
      refine eg_getR dX11_nextOf_43 fl_11_69 rfl rfl (obM_60 z1) ?_
      show eg_W κ gM mtX11_nextOf d (eQI κ gM post) 46 [(2, vI x2), (0, vR (60, 0)), (1, vI l1)] [vR (110, 0)] M
      refine eg_iload_n 0 dX11_nextOf_46 rfl rfl ?_
      refine eg_iconst dX11_nextOf_47 ic_1 ?_
      refine eg_iadd dX11_nextOf_48 ?_
      refine eg_iaload dX11_nextOf_49 (arM_110 z1 (g6 c9)) ?_
      refine eg_iconst dX11_nextOf_50 ic_1 ?_
      refine eg_iadd dX11_nextOf_51 ?_
      exact J _ (by rw [if_pos c9])
    · have c10 : ¬ (¬ (M.1 (110, 0) (x2 + (10 : Int32)).toNatClampNeg) = (1 : Int32)) := fun z => z c9
      refine eg_aload_n 1 dX11_nextOf_31 rfl rfl ?_
      refine eg_getR dX11_nextOf_32 fl_11_69 rfl rfl (obM_60 z1) ?_
      show eg_W κ gM mtX11_nextOf d (eQI κ gM post) 35 [(2, vI x2), (0, vR (60, 0)), (1, vI l1)] [vR (110, 0)] M
      refine eg_iload_n 0 dX11_nextOf_35 rfl rfl ?_
      refine eg_iconst dX11_nextOf_36 ic_1 ?_
      refine eg_iadd dX11_nextOf_37 ?_
      refine eg_iaload dX11_nextOf_38 (arM_110 z1 (g7 (show (M.1 (110, 0) (x2 + (10 : Int32)).toNatClampNeg) = (1 : Int32) from by first | exact c10 | exact Classical.not_not.mp c10))) ?_
      refine eg_goto (tgt := 52) dX11_nextOf_39 rfl ?_
      exact J _ (by rw [if_neg c10])
  · have h := h.2 c4
    refine eg_iconst dX11_nextOf_16 ic_m1 ?_
    exact eg_ireturn dX11_nextOf_17 rfl h
set_option maxRecDepth 10000 in
theorem vX11_nextOf_53 {κ : eg_K} {d : Nat} {post : Int32 → eg_H → Prop} (M : eg_H) (l2 : Int32) (l3 : Int32) (h : ((M.1 (60, 0) 12) ≤ l3 → post (-1 : Int32) M) ∧ ((¬ (M.1 (60, 0) 12) ≤ l3) → (vp_in ((360 : Int32) + l3) 366 ∧ (vp_in ((l2 + (14 : Int32)) + (M.1 (110, 0) ((360 : Int32) + l3).toNatClampNeg)) 366 ∧ ((M.1 (110, 0) ((l2 + (14 : Int32)) + (M.1 (110, 0) ((360 : Int32) + l3).toNatClampNeg)).toNatClampNeg) ≤ 0 → (∀ x5 : Int32, x5 = (l3 + (1 : Int32)) → eg_W κ gM mtX11_nextOf d (eQI κ gM post) 53 [(0, vR (60, 0)), (2, vI l2), (3, vI x5)] [] M)) ∧ ((¬ (M.1 (110, 0) ((l2 + (14 : Int32)) + (M.1 (110, 0) ((360 : Int32) + l3).toNatClampNeg)).toNatClampNeg) ≤ 0) → post l3 M))))) : eg_W κ gM mtX11_nextOf d (eQI κ gM post) 53 [(0, vR (60, 0)), (2, vI l2), (3, vI l3)] [] M := by
  refine eg_iload_n 2 dX11_nextOf_53 rfl rfl ?_
  refine eg_aload_n 0 dX11_nextOf_54 rfl rfl ?_
  refine eg_getI dX11_nextOf_55 fl_11_209 rfl trivial (obM_60 z1) ?_
  refine eg_icmp_ge (tgt := 92) dX11_nextOf_58 rfl (fun c1 => ?_) (fun c1 => ?_)
  · have h := h.1 c1
    refine eg_iconst dX11_nextOf_92 ic_m1 ?_
    exact eg_ireturn dX11_nextOf_93 rfl h
  · have h := h.2 c1
    refine eg_aload_n 0 dX11_nextOf_61 rfl rfl ?_
    refine eg_getR dX11_nextOf_62 fl_11_69 rfl rfl (obM_60 z1) ?_
    show eg_W κ gM mtX11_nextOf d (eQI κ gM post) 65 [(0, vR (60, 0)), (2, vI l2), (3, vI l3)] [vR (110, 0)] M
    refine eg_iload_n 1 dX11_nextOf_65 rfl rfl ?_
    refine eg_bipush dX11_nextOf_66 bp_14 ?_
    refine eg_iadd dX11_nextOf_68 ?_
    refine eg_aload_n 0 dX11_nextOf_69 rfl rfl ?_
    refine eg_getR dX11_nextOf_70 fl_11_69 rfl rfl (obM_60 z1) ?_
    show eg_W κ gM mtX11_nextOf d (eQI κ gM post) 73 [(0, vR (60, 0)), (2, vI l2), (3, vI l3)] [vR (110, 0), vI (l2 + (14 : Int32)), vR (110, 0)] M
    refine eg_sipush dX11_nextOf_73 sp_360 ?_
    refine eg_iload_n 2 dX11_nextOf_76 rfl rfl ?_
    refine eg_iadd dX11_nextOf_77 ?_
    obtain ⟨g2, h⟩ := h
    refine eg_iaload dX11_nextOf_78 (arM_110 z1 g2) ?_
    refine eg_iadd dX11_nextOf_79 ?_
    obtain ⟨g3, h⟩ := h
    refine eg_iaload dX11_nextOf_80 (arM_110 z1 g3) ?_
    refine eg_if_le (tgt := 86) dX11_nextOf_81 rfl (fun c4 => ?_) (fun c4 => ?_)
    · have h := h.1 c4
      refine en_iinc (f := fun x5 => [(3, vI x5), (0, vR (60, 0)), (2, vI l2)]) 2 dX11_nextOf_86 rfl rfl (by decide) rfl (fun x5 ex5 => ?_)
      have h := h x5 ex5
      refine eg_goto (tgt := 53) dX11_nextOf_89 rfl ?_
      refine eg_sub [1, 2, 0] rfl ?_
      exact h
    · have h := h.2 c4
      refine eg_iload_n 2 dX11_nextOf_84 rfl rfl ?_
      exact eg_ireturn dX11_nextOf_85 rfl h
theorem dX11_outOfLine_0 : decode cX11_outOfLine 0 = .ok (.iload_n 1, 1) := by decide +kernel
theorem dX11_outOfLine_1 : decode cX11_outOfLine 1 = .ok (.istore_n 2, 1) := by decide +kernel
theorem dX11_outOfLine_2 : decode cX11_outOfLine 2 = .ok (.iload_n 2, 1) := by decide +kernel
theorem dX11_outOfLine_3 : decode cX11_outOfLine 3 = .ok (.iconst 1, 1) := by decide +kernel
theorem dX11_outOfLine_4 : decode cX11_outOfLine 4 = .ok (.iadd, 1) := by decide +kernel
theorem dX11_outOfLine_5 : decode cX11_outOfLine 5 = .ok (.aload_n 0, 1) := by decide +kernel
theorem dX11_outOfLine_6 : decode cX11_outOfLine 6 = .ok (.getfield 69, 3) := by decide +kernel
theorem dX11_outOfLine_9 : decode cX11_outOfLine 9 = .ok (.iconst 1, 1) := by decide +kernel
theorem dX11_outOfLine_10 : decode cX11_outOfLine 10 = .ok (.iaload, 1) := by decide +kernel
theorem dX11_outOfLine_11 : decode cX11_outOfLine 11 = .ok (.if_icmp .ge 25, 3) := by decide +kernel
theorem dX11_outOfLine_14 : decode cX11_outOfLine 14 = .ok (.aload_n 0, 1) := by decide +kernel
theorem dX11_outOfLine_15 : decode cX11_outOfLine 15 = .ok (.getfield 69, 3) := by decide +kernel
theorem dX11_outOfLine_18 : decode cX11_outOfLine 18 = .ok (.iconst 2, 1) := by decide +kernel
theorem dX11_outOfLine_19 : decode cX11_outOfLine 19 = .ok (.iload_n 2, 1) := by decide +kernel
theorem dX11_outOfLine_20 : decode cX11_outOfLine 20 = .ok (.iadd, 1) := by decide +kernel
theorem dX11_outOfLine_21 : decode cX11_outOfLine 21 = .ok (.aload_n 0, 1) := by decide +kernel
theorem dX11_outOfLine_22 : decode cX11_outOfLine 22 = .ok (.getfield 69, 3) := by decide +kernel
theorem dX11_outOfLine_25 : decode cX11_outOfLine 25 = .ok (.iconst 3, 1) := by decide +kernel
theorem dX11_outOfLine_26 : decode cX11_outOfLine 26 = .ok (.iload_n 2, 1) := by decide +kernel
theorem dX11_outOfLine_27 : decode cX11_outOfLine 27 = .ok (.iadd, 1) := by decide +kernel
theorem dX11_outOfLine_28 : decode cX11_outOfLine 28 = .ok (.iaload, 1) := by decide +kernel
theorem dX11_outOfLine_29 : decode cX11_outOfLine 29 = .ok (.iastore, 1) := by decide +kernel
theorem dX11_outOfLine_30 : decode cX11_outOfLine 30 = .ok (.iinc 2 1, 3) := by decide +kernel
theorem dX11_outOfLine_33 : decode cX11_outOfLine 33 = .ok (.goto (-31), 3) := by decide +kernel
theorem dX11_outOfLine_36 : decode cX11_outOfLine 36 = .ok (.aload_n 0, 1) := by decide +kernel
theorem dX11_outOfLine_37 : decode cX11_outOfLine 37 = .ok (.getfield 69, 3) := by decide +kernel
theorem dX11_outOfLine_40 : decode cX11_outOfLine 40 = .ok (.iconst 1, 1) := by decide +kernel
theorem dX11_outOfLine_41 : decode cX11_outOfLine 41 = .ok (.dup2, 1) := by decide +kernel
theorem dX11_outOfLine_42 : decode cX11_outOfLine 42 = .ok (.iaload, 1) := by decide +kernel
theorem dX11_outOfLine_43 : decode cX11_outOfLine 43 = .ok (.iconst 1, 1) := by decide +kernel
theorem dX11_outOfLine_44 : decode cX11_outOfLine 44 = .ok (.isub, 1) := by decide +kernel
theorem dX11_outOfLine_45 : decode cX11_outOfLine 45 = .ok (.iastore, 1) := by decide +kernel
theorem dX11_outOfLine_46 : decode cX11_outOfLine 46 = .ok (.return_, 1) := by decide +kernel
set_option maxRecDepth 10000 in
theorem vX11_outOfLine_0 {κ : eg_K} {d : Nat} {post : eg_H → Prop} (M : eg_H) (l1 : Int32) (h : eg_W κ gM mtX11_outOfLine d (eQV κ gM post) 2 [(0, vR (60, 0)), (2, vI l1)] [] M) : eg_W κ gM mtX11_outOfLine d (eQV κ gM post) 0 [(0, vR (60, 0)), (1, vI l1)] [] M := by
  refine eg_iload_n 1 dX11_outOfLine_0 rfl rfl ?_
  refine eg_istore_n dX11_outOfLine_1 rfl (by decide) (ls1 := [(2, vI l1), (0, vR (60, 0)), (1, vI l1)]) rfl ?_
  refine eg_sub [1, 0] rfl ?_
  exact h
set_option maxRecDepth 10000 in
theorem vX11_outOfLine_2 {κ : eg_K} {d : Nat} {post : eg_H → Prop} (M : eg_H) (l2 : Int32) (h : (vp_in (1 : Int32) 366 ∧ ((M.1 (110, 0) (1 : Int32).toNatClampNeg) ≤ (l2 + (1 : Int32)) → (∀ M3 : eg_H, M3 = (sI M (110, 0) (1 : Int32).toNatClampNeg ((M.1 (110, 0) (1 : Int32).toNatClampNeg) - (1 : Int32))) → post M3)) ∧ ((¬ (M.1 (110, 0) (1 : Int32).toNatClampNeg) ≤ (l2 + (1 : Int32))) → (vp_in ((3 : Int32) + l2) 366 ∧ (vp_in ((2 : Int32) + l2) 366 ∧ (∀ M6 : eg_H, M6 = (sI M (110, 0) ((2 : Int32) + l2).toNatClampNeg (M.1 (110, 0) ((3 : Int32) + l2).toNatClampNeg)) → (∀ x7 : Int32, x7 = (l2 + (1 : Int32)) → eg_W κ gM mtX11_outOfLine d (eQV κ gM post) 2 [(0, vR (60, 0)), (2, vI x7)] [] M6))))))) : eg_W κ gM mtX11_outOfLine d (eQV κ gM post) 2 [(0, vR (60, 0)), (2, vI l2)] [] M := by
  refine eg_iload_n 1 dX11_outOfLine_2 rfl rfl ?_
  refine eg_iconst dX11_outOfLine_3 ic_1 ?_
  refine eg_iadd dX11_outOfLine_4 ?_
  refine eg_aload_n 0 dX11_outOfLine_5 rfl rfl ?_
  refine eg_getR dX11_outOfLine_6 fl_11_69 rfl rfl (obM_60 z1) ?_
  show eg_W κ gM mtX11_outOfLine d (eQV κ gM post) 9 [(0, vR (60, 0)), (2, vI l2)] [vR (110, 0), vI (l2 + (1 : Int32))] M
  refine eg_iconst dX11_outOfLine_9 ic_1 ?_
  obtain ⟨g1, h⟩ := h
  refine eg_iaload dX11_outOfLine_10 (arM_110 z1 g1) ?_
  refine eg_icmp_ge (tgt := 36) dX11_outOfLine_11 rfl (fun c2 => ?_) (fun c2 => ?_)
  · have h := h.1 c2
    refine eg_aload_n 0 dX11_outOfLine_36 rfl rfl ?_
    refine eg_getR dX11_outOfLine_37 fl_11_69 rfl rfl (obM_60 z1) ?_
    show eg_W κ gM mtX11_outOfLine d (eQV κ gM post) 40 [(0, vR (60, 0)), (2, vI l2)] [vR (110, 0)] M
    refine eg_iconst dX11_outOfLine_40 ic_1 ?_
    refine eg_dup2 dX11_outOfLine_41 rfl rfl ?_
    refine eg_iaload dX11_outOfLine_42 (arM_110 z1 g1) ?_
    refine eg_iconst dX11_outOfLine_43 ic_1 ?_
    refine eg_isub dX11_outOfLine_44 ?_
    refine en_iastore dX11_outOfLine_45 (arM_110 z1 g1) (fun M3 eM3 => ?_)
    have h := h M3 eM3
    exact eg_vreturn dX11_outOfLine_46 rfl h
  · have h := h.2 c2
    refine eg_aload_n 0 dX11_outOfLine_14 rfl rfl ?_
    refine eg_getR dX11_outOfLine_15 fl_11_69 rfl rfl (obM_60 z1) ?_
    show eg_W κ gM mtX11_outOfLine d (eQV κ gM post) 18 [(0, vR (60, 0)), (2, vI l2)] [vR (110, 0)] M
    refine eg_iconst dX11_outOfLine_18 ic_2 ?_
    refine eg_iload_n 1 dX11_outOfLine_19 rfl rfl ?_
    refine eg_iadd dX11_outOfLine_20 ?_
    refine eg_aload_n 0 dX11_outOfLine_21 rfl rfl ?_
    refine eg_getR dX11_outOfLine_22 fl_11_69 rfl rfl (obM_60 z1) ?_
    show eg_W κ gM mtX11_outOfLine d (eQV κ gM post) 25 [(0, vR (60, 0)), (2, vI l2)] [vR (110, 0), vI ((2 : Int32) + l2), vR (110, 0)] M
    refine eg_iconst dX11_outOfLine_25 ic_3 ?_
    refine eg_iload_n 1 dX11_outOfLine_26 rfl rfl ?_
    refine eg_iadd dX11_outOfLine_27 ?_
    obtain ⟨g4, h⟩ := h
    refine eg_iaload dX11_outOfLine_28 (arM_110 z1 g4) ?_
    obtain ⟨g5, h⟩ := h
    refine en_iastore dX11_outOfLine_29 (arM_110 z1 g5) (fun M6 eM6 => ?_)
    have h := h M6 eM6
    refine en_iinc (f := fun x7 => [(2, vI x7), (0, vR (60, 0))]) 1 dX11_outOfLine_30 rfl rfl (by decide) rfl (fun x7 ex7 => ?_)
    have h := h x7 ex7
    refine eg_goto (tgt := 2) dX11_outOfLine_33 rfl ?_
    refine eg_sub [1, 0] rfl ?_
    exact h
theorem dX11_waitedOf_0 : decode cX11_waitedOf 0 = .ok (.iconst 0, 1) := by decide +kernel
theorem dX11_waitedOf_1 : decode cX11_waitedOf 1 = .ok (.istore_n 2, 1) := by decide +kernel
theorem dX11_waitedOf_2 : decode cX11_waitedOf 2 = .ok (.iconst 0, 1) := by decide +kernel
theorem dX11_waitedOf_3 : decode cX11_waitedOf 3 = .ok (.istore_n 3, 1) := by decide +kernel
theorem dX11_waitedOf_4 : decode cX11_waitedOf 4 = .ok (.iload_n 3, 1) := by decide +kernel
theorem dX11_waitedOf_5 : decode cX11_waitedOf 5 = .ok (.aload_n 0, 1) := by decide +kernel
theorem dX11_waitedOf_6 : decode cX11_waitedOf 6 = .ok (.invokevirtual 369, 3) := by decide +kernel
theorem dX11_waitedOf_9 : decode cX11_waitedOf 9 = .ok (.if_icmp .ge 32, 3) := by decide +kernel
theorem dX11_waitedOf_12 : decode cX11_waitedOf 12 = .ok (.iload_n 2, 1) := by decide +kernel
theorem dX11_waitedOf_13 : decode cX11_waitedOf 13 = .ok (.iload_n 3, 1) := by decide +kernel
theorem dX11_waitedOf_14 : decode cX11_waitedOf 14 = .ok (.iload_n 1, 1) := by decide +kernel
theorem dX11_waitedOf_15 : decode cX11_waitedOf 15 = .ok (.if_icmp .ne 7, 3) := by decide +kernel
theorem dX11_waitedOf_18 : decode cX11_waitedOf 18 = .ok (.iconst 0, 1) := by decide +kernel
theorem dX11_waitedOf_19 : decode cX11_waitedOf 19 = .ok (.goto 14, 3) := by decide +kernel
theorem dX11_waitedOf_22 : decode cX11_waitedOf 22 = .ok (.aload_n 0, 1) := by decide +kernel
theorem dX11_waitedOf_23 : decode cX11_waitedOf 23 = .ok (.getfield 69, 3) := by decide +kernel
theorem dX11_waitedOf_26 : decode cX11_waitedOf 26 = .ok (.iload_n 3, 1) := by decide +kernel
theorem dX11_waitedOf_27 : decode cX11_waitedOf 27 = .ok (.invokestatic 372, 3) := by decide +kernel
theorem dX11_waitedOf_30 : decode cX11_waitedOf 30 = .ok (.iconst 4, 1) := by decide +kernel
theorem dX11_waitedOf_31 : decode cX11_waitedOf 31 = .ok (.iadd, 1) := by decide +kernel
theorem dX11_waitedOf_32 : decode cX11_waitedOf 32 = .ok (.iaload, 1) := by decide +kernel
theorem dX11_waitedOf_33 : decode cX11_waitedOf 33 = .ok (.iadd, 1) := by decide +kernel
theorem dX11_waitedOf_34 : decode cX11_waitedOf 34 = .ok (.istore_n 2, 1) := by decide +kernel
theorem dX11_waitedOf_35 : decode cX11_waitedOf 35 = .ok (.iinc 3 1, 3) := by decide +kernel
theorem dX11_waitedOf_38 : decode cX11_waitedOf 38 = .ok (.goto (-34), 3) := by decide +kernel
theorem dX11_waitedOf_41 : decode cX11_waitedOf 41 = .ok (.iload_n 2, 1) := by decide +kernel
theorem dX11_waitedOf_42 : decode cX11_waitedOf 42 = .ok (.ireturn, 1) := by decide +kernel
set_option maxRecDepth 10000 in
theorem vX11_waitedOf_0 {κ : eg_K} {d : Nat} {post : Int32 → eg_H → Prop} (M : eg_H) (l1 : Int32) (h : eg_W κ gM mtX11_waitedOf d (eQI κ gM post) 4 [(0, vR (60, 0)), (1, vI l1), (2, vI (0 : Int32)), (3, vI (0 : Int32))] [] M) : eg_W κ gM mtX11_waitedOf d (eQI κ gM post) 0 [(0, vR (60, 0)), (1, vI l1)] [] M := by
  refine eg_iconst dX11_waitedOf_0 ic_0 ?_
  refine eg_istore_n dX11_waitedOf_1 rfl (by decide) (ls1 := [(2, vI (0 : Int32)), (0, vR (60, 0)), (1, vI l1)]) rfl ?_
  refine eg_iconst dX11_waitedOf_2 ic_0 ?_
  refine eg_istore_n dX11_waitedOf_3 rfl (by decide) (ls1 := [(3, vI (0 : Int32)), (2, vI (0 : Int32)), (0, vR (60, 0)), (1, vI l1)]) rfl ?_
  refine eg_sub [2, 3, 1, 0] rfl ?_
  exact h
set_option maxRecDepth 10000 in
theorem vX11_waitedOf_4 {κ : eg_K} {d : Nat} (hd : 1 ≤ d) {post : Int32 → eg_H → Prop} (M : eg_H) (l1 : Int32) (l2 : Int32) (l3 : Int32) (h : (∀ x2 : Int32, x2 = (fX11_everybody M) → (x2 ≤ l3 → post l2 M) ∧ ((¬ x2 ≤ l3) → ((¬ l3 = l1) → (∀ x6 : Int32, x6 = (fX11_at M l3) → (vp_in (x6 + (4 : Int32)) 366 ∧ (∀ x8 : Int32, x8 = (l2 + (M.1 (110, 0) (x6 + (4 : Int32)).toNatClampNeg)) → (∀ x9 : Int32, x9 = (l3 + (1 : Int32)) → eg_W κ gM mtX11_waitedOf d (eQI κ gM post) 4 [(0, vR (60, 0)), (1, vI l1), (2, vI x8), (3, vI x9)] [] M))))) ∧ (l3 = l1 → (∀ x10 : Int32, x10 = (l2 + (0 : Int32)) → (∀ x11 : Int32, x11 = (l3 + (1 : Int32)) → eg_W κ gM mtX11_waitedOf d (eQI κ gM post) 4 [(0, vR (60, 0)), (1, vI l1), (2, vI x10), (3, vI x11)] [] M)))))) : eg_W κ gM mtX11_waitedOf d (eQI κ gM post) 4 [(0, vR (60, 0)), (1, vI l1), (2, vI l2), (3, vI l3)] [] M := by
  refine eg_iload_n 3 dX11_waitedOf_4 rfl rfl ?_
  refine eg_aload_n 0 dX11_waitedOf_5 rfl rfl ?_
  refine eg_callVI (av := []) (st := [vI l3]) dX11_waitedOf_6 ml_11_369 rfl rfl (obM_60 z1) (by decide) rfl (Nat.le_of_ble_eq_true rfl) (eg_dd (by omega)) (sX11_everybody (by omega) M   ) (fun x2 M1 hp => ?_)
  obtain ⟨ex2, eM1⟩ := hp
  rw [eM1]
  have h := h x2 ex2
  refine eg_icmp_ge (tgt := 41) dX11_waitedOf_9 rfl (fun c3 => ?_) (fun c3 => ?_)
  · have h := h.1 c3
    refine eg_iload_n 2 dX11_waitedOf_41 rfl rfl ?_
    exact eg_ireturn dX11_waitedOf_42 rfl h
  · have h := h.2 c3
    refine eg_iload_n 2 dX11_waitedOf_12 rfl rfl ?_
    refine eg_iload_n 3 dX11_waitedOf_13 rfl rfl ?_
    refine eg_iload_n 1 dX11_waitedOf_14 rfl rfl ?_
    refine eg_icmp_ne (tgt := 22) dX11_waitedOf_15 rfl (fun c4 => ?_) (fun c4 => ?_)
    · have h := h.1 c4
      refine eg_aload_n 0 dX11_waitedOf_22 rfl rfl ?_
      refine eg_getR dX11_waitedOf_23 fl_11_69 rfl rfl (obM_60 z1) ?_
      show eg_W κ gM mtX11_waitedOf d (eQI κ gM post) 26 [(0, vR (60, 0)), (1, vI l1), (2, vI l2), (3, vI l3)] [vR (110, 0), vI l2] M
      refine eg_iload_n 3 dX11_waitedOf_26 rfl rfl ?_
      refine eg_callSI (av := [vI l3]) (st := [vR (110, 0), vI l2]) dX11_waitedOf_27 ml_11_372 rfl rfl (Nat.le_of_ble_eq_true rfl) (eg_dd (by omega)) (sX11_at (by omega) M l3  ) (fun x6 M5 hp => ?_)
      obtain ⟨ex6, eM5⟩ := hp
      rw [eM5]
      have h := h x6 ex6
      refine eg_iconst dX11_waitedOf_30 ic_4 ?_
      refine eg_iadd dX11_waitedOf_31 ?_
      obtain ⟨g7, h⟩ := h
      refine eg_iaload dX11_waitedOf_32 (arM_110 z1 g7) ?_
      refine eg_iadd dX11_waitedOf_33 ?_
      refine en_istore_n (f := fun x8 => [(2, vI x8), (0, vR (60, 0)), (1, vI l1), (3, vI l3)]) dX11_waitedOf_34 rfl (by decide) rfl (fun x8 ex8 => ?_)
      have h := h x8 ex8
      refine en_iinc (f := fun x9 => [(3, vI x9), (2, vI x8), (0, vR (60, 0)), (1, vI l1)]) 3 dX11_waitedOf_35 rfl rfl (by decide) rfl (fun x9 ex9 => ?_)
      have h := h x9 ex9
      refine eg_goto (tgt := 4) dX11_waitedOf_38 rfl ?_
      refine eg_sub [2, 3, 1, 0] rfl ?_
      exact h
    · have h := h.2 c4
      refine eg_iconst dX11_waitedOf_18 ic_0 ?_
      refine eg_goto (tgt := 33) dX11_waitedOf_19 rfl ?_
      refine eg_iadd dX11_waitedOf_33 ?_
      refine en_istore_n (f := fun x10 => [(2, vI x10), (0, vR (60, 0)), (1, vI l1), (3, vI l3)]) dX11_waitedOf_34 rfl (by decide) rfl (fun x10 ex10 => ?_)
      have h := h x10 ex10
      refine en_iinc (f := fun x11 => [(3, vI x11), (2, vI x10), (0, vR (60, 0)), (1, vI l1)]) 3 dX11_waitedOf_35 rfl rfl (by decide) rfl (fun x11 ex11 => ?_)
      have h := h x11 ex11
      refine eg_goto (tgt := 4) dX11_waitedOf_38 rfl ?_
      refine eg_sub [2, 3, 1, 0] rfl ?_
      exact h
theorem dX11_sumBy_0 : decode cX11_sumBy 0 = .ok (.iconst 0, 1) := by decide +kernel
theorem dX11_sumBy_1 : decode cX11_sumBy 1 = .ok (.istore_n 2, 1) := by decide +kernel
theorem dX11_sumBy_2 : decode cX11_sumBy 2 = .ok (.iconst 0, 1) := by decide +kernel
theorem dX11_sumBy_3 : decode cX11_sumBy 3 = .ok (.istore_n 3, 1) := by decide +kernel
theorem dX11_sumBy_4 : decode cX11_sumBy 4 = .ok (.iload_n 3, 1) := by decide +kernel
theorem dX11_sumBy_5 : decode cX11_sumBy 5 = .ok (.aload_n 0, 1) := by decide +kernel
theorem dX11_sumBy_6 : decode cX11_sumBy 6 = .ok (.invokevirtual 369, 3) := by decide +kernel
theorem dX11_sumBy_9 : decode cX11_sumBy 9 = .ok (.if_icmp .ge 23, 3) := by decide +kernel
theorem dX11_sumBy_12 : decode cX11_sumBy 12 = .ok (.iload_n 2, 1) := by decide +kernel
theorem dX11_sumBy_13 : decode cX11_sumBy 13 = .ok (.aload_n 0, 1) := by decide +kernel
theorem dX11_sumBy_14 : decode cX11_sumBy 14 = .ok (.getfield 69, 3) := by decide +kernel
theorem dX11_sumBy_17 : decode cX11_sumBy 17 = .ok (.iload_n 3, 1) := by decide +kernel
theorem dX11_sumBy_18 : decode cX11_sumBy 18 = .ok (.invokestatic 372, 3) := by decide +kernel
theorem dX11_sumBy_21 : decode cX11_sumBy 21 = .ok (.iload_n 1, 1) := by decide +kernel
theorem dX11_sumBy_22 : decode cX11_sumBy 22 = .ok (.iadd, 1) := by decide +kernel
theorem dX11_sumBy_23 : decode cX11_sumBy 23 = .ok (.iaload, 1) := by decide +kernel
theorem dX11_sumBy_24 : decode cX11_sumBy 24 = .ok (.iadd, 1) := by decide +kernel
theorem dX11_sumBy_25 : decode cX11_sumBy 25 = .ok (.istore_n 2, 1) := by decide +kernel
theorem dX11_sumBy_26 : decode cX11_sumBy 26 = .ok (.iinc 3 1, 3) := by decide +kernel
theorem dX11_sumBy_29 : decode cX11_sumBy 29 = .ok (.goto (-25), 3) := by decide +kernel
theorem dX11_sumBy_32 : decode cX11_sumBy 32 = .ok (.iload_n 2, 1) := by decide +kernel
theorem dX11_sumBy_33 : decode cX11_sumBy 33 = .ok (.ireturn, 1) := by decide +kernel
set_option maxRecDepth 10000 in
theorem vX11_sumBy_0 {κ : eg_K} {d : Nat} {post : Int32 → eg_H → Prop} (M : eg_H) (l1 : Int32) (h : eg_W κ gM mtX11_sumBy d (eQI κ gM post) 4 [(0, vR (60, 0)), (1, vI l1), (2, vI (0 : Int32)), (3, vI (0 : Int32))] [] M) : eg_W κ gM mtX11_sumBy d (eQI κ gM post) 0 [(0, vR (60, 0)), (1, vI l1)] [] M := by
  refine eg_iconst dX11_sumBy_0 ic_0 ?_
  refine eg_istore_n dX11_sumBy_1 rfl (by decide) (ls1 := [(2, vI (0 : Int32)), (0, vR (60, 0)), (1, vI l1)]) rfl ?_
  refine eg_iconst dX11_sumBy_2 ic_0 ?_
  refine eg_istore_n dX11_sumBy_3 rfl (by decide) (ls1 := [(3, vI (0 : Int32)), (2, vI (0 : Int32)), (0, vR (60, 0)), (1, vI l1)]) rfl ?_
  refine eg_sub [2, 3, 1, 0] rfl ?_
  exact h
set_option maxRecDepth 10000 in
theorem vX11_sumBy_4 {κ : eg_K} {d : Nat} (hd : 1 ≤ d) {post : Int32 → eg_H → Prop} (M : eg_H) (l1 : Int32) (l2 : Int32) (l3 : Int32) (h : (∀ x2 : Int32, x2 = (fX11_everybody M) → (x2 ≤ l3 → post l2 M) ∧ ((¬ x2 ≤ l3) → (∀ x5 : Int32, x5 = (fX11_at M l3) → (vp_in (x5 + l1) 366 ∧ (∀ x7 : Int32, x7 = (l2 + (M.1 (110, 0) (x5 + l1).toNatClampNeg)) → (∀ x8 : Int32, x8 = (l3 + (1 : Int32)) → eg_W κ gM mtX11_sumBy d (eQI κ gM post) 4 [(0, vR (60, 0)), (1, vI l1), (2, vI x7), (3, vI x8)] [] M))))))) : eg_W κ gM mtX11_sumBy d (eQI κ gM post) 4 [(0, vR (60, 0)), (1, vI l1), (2, vI l2), (3, vI l3)] [] M := by
  refine eg_iload_n 3 dX11_sumBy_4 rfl rfl ?_
  refine eg_aload_n 0 dX11_sumBy_5 rfl rfl ?_
  refine eg_callVI (av := []) (st := [vI l3]) dX11_sumBy_6 ml_11_369 rfl rfl (obM_60 z1) (by decide) rfl (Nat.le_of_ble_eq_true rfl) (eg_dd (by omega)) (sX11_everybody (by omega) M   ) (fun x2 M1 hp => ?_)
  obtain ⟨ex2, eM1⟩ := hp
  rw [eM1]
  have h := h x2 ex2
  refine eg_icmp_ge (tgt := 32) dX11_sumBy_9 rfl (fun c3 => ?_) (fun c3 => ?_)
  · have h := h.1 c3
    refine eg_iload_n 2 dX11_sumBy_32 rfl rfl ?_
    exact eg_ireturn dX11_sumBy_33 rfl h
  · have h := h.2 c3
    refine eg_iload_n 2 dX11_sumBy_12 rfl rfl ?_
    refine eg_aload_n 0 dX11_sumBy_13 rfl rfl ?_
    refine eg_getR dX11_sumBy_14 fl_11_69 rfl rfl (obM_60 z1) ?_
    show eg_W κ gM mtX11_sumBy d (eQI κ gM post) 17 [(0, vR (60, 0)), (1, vI l1), (2, vI l2), (3, vI l3)] [vR (110, 0), vI l2] M
    refine eg_iload_n 3 dX11_sumBy_17 rfl rfl ?_
    refine eg_callSI (av := [vI l3]) (st := [vR (110, 0), vI l2]) dX11_sumBy_18 ml_11_372 rfl rfl (Nat.le_of_ble_eq_true rfl) (eg_dd (by omega)) (sX11_at (by omega) M l3  ) (fun x5 M4 hp => ?_)
    obtain ⟨ex5, eM4⟩ := hp
    rw [eM4]
    have h := h x5 ex5
    refine eg_iload_n 1 dX11_sumBy_21 rfl rfl ?_
    refine eg_iadd dX11_sumBy_22 ?_
    obtain ⟨g6, h⟩ := h
    refine eg_iaload dX11_sumBy_23 (arM_110 z1 g6) ?_
    refine eg_iadd dX11_sumBy_24 ?_
    refine en_istore_n (f := fun x7 => [(2, vI x7), (0, vR (60, 0)), (1, vI l1), (3, vI l3)]) dX11_sumBy_25 rfl (by decide) rfl (fun x7 ex7 => ?_)
    have h := h x7 ex7
    refine en_iinc (f := fun x8 => [(3, vI x8), (2, vI x7), (0, vR (60, 0)), (1, vI l1)]) 3 dX11_sumBy_26 rfl rfl (by decide) rfl (fun x8 ex8 => ?_)
    have h := h x8 ex8
    refine eg_goto (tgt := 4) dX11_sumBy_29 rfl ?_
    refine eg_sub [2, 3, 1, 0] rfl ?_
    exact h
theorem dX11_truthSum_0 : decode cX11_truthSum 0 = .ok (.iconst 0, 1) := by decide +kernel
theorem dX11_truthSum_1 : decode cX11_truthSum 1 = .ok (.istore_n 2, 1) := by decide +kernel
theorem dX11_truthSum_2 : decode cX11_truthSum 2 = .ok (.iconst 0, 1) := by decide +kernel
theorem dX11_truthSum_3 : decode cX11_truthSum 3 = .ok (.istore_n 3, 1) := by decide +kernel
theorem dX11_truthSum_4 : decode cX11_truthSum 4 = .ok (.iload_n 3, 1) := by decide +kernel
theorem dX11_truthSum_5 : decode cX11_truthSum 5 = .ok (.aload_n 0, 1) := by decide +kernel
theorem dX11_truthSum_6 : decode cX11_truthSum 6 = .ok (.getfield 212, 3) := by decide +kernel
theorem dX11_truthSum_9 : decode cX11_truthSum 9 = .ok (.if_icmp .ge 23, 3) := by decide +kernel
theorem dX11_truthSum_12 : decode cX11_truthSum 12 = .ok (.iload_n 2, 1) := by decide +kernel
theorem dX11_truthSum_13 : decode cX11_truthSum 13 = .ok (.aload_n 0, 1) := by decide +kernel
theorem dX11_truthSum_14 : decode cX11_truthSum 14 = .ok (.getfield 72, 3) := by decide +kernel
theorem dX11_truthSum_17 : decode cX11_truthSum 17 = .ok (.iload_n 3, 1) := by decide +kernel
theorem dX11_truthSum_18 : decode cX11_truthSum 18 = .ok (.invokestatic 372, 3) := by decide +kernel
theorem dX11_truthSum_21 : decode cX11_truthSum 21 = .ok (.iload_n 1, 1) := by decide +kernel
theorem dX11_truthSum_22 : decode cX11_truthSum 22 = .ok (.iadd, 1) := by decide +kernel
theorem dX11_truthSum_23 : decode cX11_truthSum 23 = .ok (.iaload, 1) := by decide +kernel
theorem dX11_truthSum_24 : decode cX11_truthSum 24 = .ok (.iadd, 1) := by decide +kernel
theorem dX11_truthSum_25 : decode cX11_truthSum 25 = .ok (.istore_n 2, 1) := by decide +kernel
theorem dX11_truthSum_26 : decode cX11_truthSum 26 = .ok (.iinc 3 1, 3) := by decide +kernel
theorem dX11_truthSum_29 : decode cX11_truthSum 29 = .ok (.goto (-25), 3) := by decide +kernel
theorem dX11_truthSum_32 : decode cX11_truthSum 32 = .ok (.iload_n 2, 1) := by decide +kernel
theorem dX11_truthSum_33 : decode cX11_truthSum 33 = .ok (.ireturn, 1) := by decide +kernel
set_option maxRecDepth 10000 in
theorem vX11_truthSum_0 {κ : eg_K} {d : Nat} {post : Int32 → eg_H → Prop} (M : eg_H) (l1 : Int32) (h : eg_W κ gM mtX11_truthSum d (eQI κ gM post) 4 [(0, vR (60, 0)), (1, vI l1), (2, vI (0 : Int32)), (3, vI (0 : Int32))] [] M) : eg_W κ gM mtX11_truthSum d (eQI κ gM post) 0 [(0, vR (60, 0)), (1, vI l1)] [] M := by
  refine eg_iconst dX11_truthSum_0 ic_0 ?_
  refine eg_istore_n dX11_truthSum_1 rfl (by decide) (ls1 := [(2, vI (0 : Int32)), (0, vR (60, 0)), (1, vI l1)]) rfl ?_
  refine eg_iconst dX11_truthSum_2 ic_0 ?_
  refine eg_istore_n dX11_truthSum_3 rfl (by decide) (ls1 := [(3, vI (0 : Int32)), (2, vI (0 : Int32)), (0, vR (60, 0)), (1, vI l1)]) rfl ?_
  refine eg_sub [2, 3, 1, 0] rfl ?_
  exact h
set_option maxRecDepth 10000 in
theorem vX11_truthSum_4 {κ : eg_K} {d : Nat} (hd : 1 ≤ d) {post : Int32 → eg_H → Prop} (M : eg_H) (l1 : Int32) (l2 : Int32) (l3 : Int32) (h : ((M.1 (60, 0) 13) ≤ l3 → post l2 M) ∧ ((¬ (M.1 (60, 0) 13) ≤ l3) → (∀ x3 : Int32, x3 = (fX11_at M l3) → (vp_in (x3 + l1) 366 ∧ (∀ x5 : Int32, x5 = (l2 + (M.1 (111, 0) (x3 + l1).toNatClampNeg)) → (∀ x6 : Int32, x6 = (l3 + (1 : Int32)) → eg_W κ gM mtX11_truthSum d (eQI κ gM post) 4 [(0, vR (60, 0)), (1, vI l1), (2, vI x5), (3, vI x6)] [] M)))))) : eg_W κ gM mtX11_truthSum d (eQI κ gM post) 4 [(0, vR (60, 0)), (1, vI l1), (2, vI l2), (3, vI l3)] [] M := by
  refine eg_iload_n 3 dX11_truthSum_4 rfl rfl ?_
  refine eg_aload_n 0 dX11_truthSum_5 rfl rfl ?_
  refine eg_getI dX11_truthSum_6 fl_11_212 rfl trivial (obM_60 z1) ?_
  refine eg_icmp_ge (tgt := 32) dX11_truthSum_9 rfl (fun c1 => ?_) (fun c1 => ?_)
  · have h := h.1 c1
    refine eg_iload_n 2 dX11_truthSum_32 rfl rfl ?_
    exact eg_ireturn dX11_truthSum_33 rfl h
  · have h := h.2 c1
    refine eg_iload_n 2 dX11_truthSum_12 rfl rfl ?_
    refine eg_aload_n 0 dX11_truthSum_13 rfl rfl ?_
    refine eg_getR dX11_truthSum_14 fl_11_72 rfl rfl (obM_60 z1) ?_
    show eg_W κ gM mtX11_truthSum d (eQI κ gM post) 17 [(0, vR (60, 0)), (1, vI l1), (2, vI l2), (3, vI l3)] [vR (111, 0), vI l2] M
    refine eg_iload_n 3 dX11_truthSum_17 rfl rfl ?_
    refine eg_callSI (av := [vI l3]) (st := [vR (111, 0), vI l2]) dX11_truthSum_18 ml_11_372 rfl rfl (Nat.le_of_ble_eq_true rfl) (eg_dd (by omega)) (sX11_at (by omega) M l3  ) (fun x3 M2 hp => ?_)
    obtain ⟨ex3, eM2⟩ := hp
    rw [eM2]
    have h := h x3 ex3
    refine eg_iload_n 1 dX11_truthSum_21 rfl rfl ?_
    refine eg_iadd dX11_truthSum_22 ?_
    obtain ⟨g4, h⟩ := h
    refine eg_iaload dX11_truthSum_23 (arM_111 z1 g4) ?_
    refine eg_iadd dX11_truthSum_24 ?_
    refine en_istore_n (f := fun x5 => [(2, vI x5), (0, vR (60, 0)), (1, vI l1), (3, vI l3)]) dX11_truthSum_25 rfl (by decide) rfl (fun x5 ex5 => ?_)
    have h := h x5 ex5
    refine en_iinc (f := fun x6 => [(3, vI x6), (2, vI x5), (0, vR (60, 0)), (1, vI l1)]) 3 dX11_truthSum_26 rfl rfl (by decide) rfl (fun x6 ex6 => ?_)
    have h := h x6 ex6
    refine eg_goto (tgt := 4) dX11_truthSum_29 rfl ?_
    refine eg_sub [2, 3, 1, 0] rfl ?_
    exact h
theorem dX11_layRow_0 : decode cX11_layRow 0 = .ok (.iconst 0, 1) := by decide +kernel
theorem dX11_layRow_1 : decode cX11_layRow 1 = .ok (.istore_n 1, 1) := by decide +kernel
theorem dX11_layRow_2 : decode cX11_layRow 2 = .ok (.iload_n 1, 1) := by decide +kernel
theorem dX11_layRow_3 : decode cX11_layRow 3 = .ok (.iconst 5, 1) := by decide +kernel
theorem dX11_layRow_4 : decode cX11_layRow 4 = .ok (.if_icmp .ge 25, 3) := by decide +kernel
theorem dX11_layRow_7 : decode cX11_layRow 7 = .ok (.aload_n 0, 1) := by decide +kernel
theorem dX11_layRow_8 : decode cX11_layRow 8 = .ok (.getfield 75, 3) := by decide +kernel
theorem dX11_layRow_11 : decode cX11_layRow 11 = .ok (.iload_n 1, 1) := by decide +kernel
theorem dX11_layRow_12 : decode cX11_layRow 12 = .ok (.aload_n 0, 1) := by decide +kernel
theorem dX11_layRow_13 : decode cX11_layRow 13 = .ok (.getfield 72, 3) := by decide +kernel
theorem dX11_layRow_16 : decode cX11_layRow 16 = .ok (.sipush 360, 3) := by decide +kernel
theorem dX11_layRow_19 : decode cX11_layRow 19 = .ok (.iload_n 1, 1) := by decide +kernel
theorem dX11_layRow_20 : decode cX11_layRow 20 = .ok (.iadd, 1) := by decide +kernel
theorem dX11_layRow_21 : decode cX11_layRow 21 = .ok (.iaload, 1) := by decide +kernel
theorem dX11_layRow_22 : decode cX11_layRow 22 = .ok (.iastore, 1) := by decide +kernel
theorem dX11_layRow_23 : decode cX11_layRow 23 = .ok (.iinc 1 1, 3) := by decide +kernel
theorem dX11_layRow_26 : decode cX11_layRow 26 = .ok (.goto (-24), 3) := by decide +kernel
theorem dX11_layRow_29 : decode cX11_layRow 29 = .ok (.return_, 1) := by decide +kernel
set_option maxRecDepth 10000 in
theorem vX11_layRow_0 {κ : eg_K} {d : Nat} {post : eg_H → Prop} (M : eg_H)  (h : eg_W κ gM mtX11_layRow d (eQV κ gM post) 2 [(0, vR (60, 0)), (1, vI (0 : Int32))] [] M) : eg_W κ gM mtX11_layRow d (eQV κ gM post) 0 [(0, vR (60, 0))] [] M := by
  refine eg_iconst dX11_layRow_0 ic_0 ?_
  refine eg_istore_n dX11_layRow_1 rfl (by decide) (ls1 := [(1, vI (0 : Int32)), (0, vR (60, 0))]) rfl ?_
  refine eg_sub [1, 0] rfl ?_
  exact h
set_option maxRecDepth 10000 in
theorem vX11_layRow_2 {κ : eg_K} {d : Nat} {post : eg_H → Prop} (M : eg_H) (l1 : Int32) (h : ((5 : Int32) ≤ l1 → post M) ∧ ((¬ (5 : Int32) ≤ l1) → (vp_in ((360 : Int32) + l1) 366 ∧ (vp_in l1 5 ∧ (∀ M4 : eg_H, M4 = (sI M (112, 0) l1.toNatClampNeg (M.1 (111, 0) ((360 : Int32) + l1).toNatClampNeg)) → (∀ x5 : Int32, x5 = (l1 + (1 : Int32)) → eg_W κ gM mtX11_layRow d (eQV κ gM post) 2 [(0, vR (60, 0)), (1, vI x5)] [] M4)))))) : eg_W κ gM mtX11_layRow d (eQV κ gM post) 2 [(0, vR (60, 0)), (1, vI l1)] [] M := by
  refine eg_iload_n 1 dX11_layRow_2 rfl rfl ?_
  refine eg_iconst dX11_layRow_3 ic_5 ?_
  refine eg_icmp_ge (tgt := 29) dX11_layRow_4 rfl (fun c1 => ?_) (fun c1 => ?_)
  · have h := h.1 c1
    exact eg_vreturn dX11_layRow_29 rfl h
  · have h := h.2 c1
    refine eg_aload_n 0 dX11_layRow_7 rfl rfl ?_
    refine eg_getR dX11_layRow_8 fl_11_75 rfl rfl (obM_60 z1) ?_
    show eg_W κ gM mtX11_layRow d (eQV κ gM post) 11 [(0, vR (60, 0)), (1, vI l1)] [vR (112, 0)] M
    refine eg_iload_n 1 dX11_layRow_11 rfl rfl ?_
    refine eg_aload_n 0 dX11_layRow_12 rfl rfl ?_
    refine eg_getR dX11_layRow_13 fl_11_72 rfl rfl (obM_60 z1) ?_
    show eg_W κ gM mtX11_layRow d (eQV κ gM post) 16 [(0, vR (60, 0)), (1, vI l1)] [vR (111, 0), vI l1, vR (112, 0)] M
    refine eg_sipush dX11_layRow_16 sp_360 ?_
    refine eg_iload_n 1 dX11_layRow_19 rfl rfl ?_
    refine eg_iadd dX11_layRow_20 ?_
    obtain ⟨g2, h⟩ := h
    refine eg_iaload dX11_layRow_21 (arM_111 z1 g2) ?_
    obtain ⟨g3, h⟩ := h
    refine en_iastore dX11_layRow_22 (arM_112 z1 g3) (fun M4 eM4 => ?_)
    have h := h M4 eM4
    refine en_iinc (f := fun x5 => [(1, vI x5), (0, vR (60, 0))]) 1 dX11_layRow_23 rfl rfl (by decide) rfl (fun x5 ex5 => ?_)
    have h := h x5 ex5
    refine eg_goto (tgt := 2) dX11_layRow_26 rfl ?_
    refine eg_sub [1, 0] rfl ?_
    exact h
theorem dX11_remembers_0 : decode cX11_remembers 0 = .ok (.aload_n 0, 1) := by decide +kernel
theorem dX11_remembers_1 : decode cX11_remembers 1 = .ok (.getfield 237, 3) := by decide +kernel
theorem dX11_remembers_4 : decode cX11_remembers 4 = .ok (.bipush 20, 2) := by decide +kernel
theorem dX11_remembers_6 : decode cX11_remembers 6 = .ok (.if_icmp .ne 44, 3) := by decide +kernel
theorem dX11_remembers_9 : decode cX11_remembers 9 = .ok (.iconst 0, 1) := by decide +kernel
theorem dX11_remembers_10 : decode cX11_remembers 10 = .ok (.istore_n 1, 1) := by decide +kernel
theorem dX11_remembers_11 : decode cX11_remembers 11 = .ok (.iload_n 1, 1) := by decide +kernel
theorem dX11_remembers_12 : decode cX11_remembers 12 = .ok (.sipush 6954, 3) := by decide +kernel
theorem dX11_remembers_15 : decode cX11_remembers 15 = .ok (.if_icmp .ge 25, 3) := by decide +kernel
theorem dX11_remembers_18 : decode cX11_remembers 18 = .ok (.aload_n 0, 1) := by decide +kernel
theorem dX11_remembers_19 : decode cX11_remembers 19 = .ok (.getfield 91, 3) := by decide +kernel
theorem dX11_remembers_22 : decode cX11_remembers 22 = .ok (.iload_n 1, 1) := by decide +kernel
theorem dX11_remembers_23 : decode cX11_remembers 23 = .ok (.aload_n 0, 1) := by decide +kernel
theorem dX11_remembers_24 : decode cX11_remembers 24 = .ok (.getfield 91, 3) := by decide +kernel
theorem dX11_remembers_27 : decode cX11_remembers 27 = .ok (.iload_n 1, 1) := by decide +kernel
theorem dX11_remembers_28 : decode cX11_remembers 28 = .ok (.sipush 366, 3) := by decide +kernel
theorem dX11_remembers_31 : decode cX11_remembers 31 = .ok (.iadd, 1) := by decide +kernel
theorem dX11_remembers_32 : decode cX11_remembers 32 = .ok (.iaload, 1) := by decide +kernel
theorem dX11_remembers_33 : decode cX11_remembers 33 = .ok (.iastore, 1) := by decide +kernel
theorem dX11_remembers_34 : decode cX11_remembers 34 = .ok (.iinc 1 1, 3) := by decide +kernel
theorem dX11_remembers_37 : decode cX11_remembers 37 = .ok (.goto (-26), 3) := by decide +kernel
theorem dX11_remembers_40 : decode cX11_remembers 40 = .ok (.aload_n 0, 1) := by decide +kernel
theorem dX11_remembers_41 : decode cX11_remembers 41 = .ok (.dup, 1) := by decide +kernel
theorem dX11_remembers_42 : decode cX11_remembers 42 = .ok (.getfield 237, 3) := by decide +kernel
theorem dX11_remembers_45 : decode cX11_remembers 45 = .ok (.iconst 1, 1) := by decide +kernel
theorem dX11_remembers_46 : decode cX11_remembers 46 = .ok (.isub, 1) := by decide +kernel
theorem dX11_remembers_47 : decode cX11_remembers 47 = .ok (.putfield 237, 3) := by decide +kernel
theorem dX11_remembers_50 : decode cX11_remembers 50 = .ok (.iconst 0, 1) := by decide +kernel
theorem dX11_remembers_51 : decode cX11_remembers 51 = .ok (.istore_n 1, 1) := by decide +kernel
theorem dX11_remembers_52 : decode cX11_remembers 52 = .ok (.iload_n 1, 1) := by decide +kernel
theorem dX11_remembers_53 : decode cX11_remembers 53 = .ok (.sipush 366, 3) := by decide +kernel
theorem dX11_remembers_56 : decode cX11_remembers 56 = .ok (.if_icmp .ge 30, 3) := by decide +kernel
theorem dX11_remembers_59 : decode cX11_remembers 59 = .ok (.aload_n 0, 1) := by decide +kernel
theorem dX11_remembers_60 : decode cX11_remembers 60 = .ok (.getfield 91, 3) := by decide +kernel
theorem dX11_remembers_63 : decode cX11_remembers 63 = .ok (.sipush 366, 3) := by decide +kernel
theorem dX11_remembers_66 : decode cX11_remembers 66 = .ok (.aload_n 0, 1) := by decide +kernel
theorem dX11_remembers_67 : decode cX11_remembers 67 = .ok (.getfield 237, 3) := by decide +kernel
theorem dX11_remembers_70 : decode cX11_remembers 70 = .ok (.imul, 1) := by decide +kernel
theorem dX11_remembers_71 : decode cX11_remembers 71 = .ok (.iload_n 1, 1) := by decide +kernel
theorem dX11_remembers_72 : decode cX11_remembers 72 = .ok (.iadd, 1) := by decide +kernel
theorem dX11_remembers_73 : decode cX11_remembers 73 = .ok (.aload_n 0, 1) := by decide +kernel
theorem dX11_remembers_74 : decode cX11_remembers 74 = .ok (.getfield 72, 3) := by decide +kernel
theorem dX11_remembers_77 : decode cX11_remembers 77 = .ok (.iload_n 1, 1) := by decide +kernel
theorem dX11_remembers_78 : decode cX11_remembers 78 = .ok (.iaload, 1) := by decide +kernel
theorem dX11_remembers_79 : decode cX11_remembers 79 = .ok (.iastore, 1) := by decide +kernel
theorem dX11_remembers_80 : decode cX11_remembers 80 = .ok (.iinc 1 1, 3) := by decide +kernel
theorem dX11_remembers_83 : decode cX11_remembers 83 = .ok (.goto (-31), 3) := by decide +kernel
theorem dX11_remembers_86 : decode cX11_remembers 86 = .ok (.aload_n 0, 1) := by decide +kernel
theorem dX11_remembers_87 : decode cX11_remembers 87 = .ok (.dup, 1) := by decide +kernel
theorem dX11_remembers_88 : decode cX11_remembers 88 = .ok (.getfield 237, 3) := by decide +kernel
theorem dX11_remembers_91 : decode cX11_remembers 91 = .ok (.iconst 1, 1) := by decide +kernel
theorem dX11_remembers_92 : decode cX11_remembers 92 = .ok (.iadd, 1) := by decide +kernel
theorem dX11_remembers_93 : decode cX11_remembers 93 = .ok (.putfield 237, 3) := by decide +kernel
theorem dX11_remembers_96 : decode cX11_remembers 96 = .ok (.return_, 1) := by decide +kernel
set_option maxRecDepth 10000 in
theorem vX11_remembers_0 {κ : eg_K} {d : Nat} {post : eg_H → Prop} (M : eg_H)  (h : ((¬ (M.1 (60, 0) 69) = (20 : Int32)) → eg_W κ gM mtX11_remembers d (eQV κ gM post) 52 [(0, vR (60, 0)), (1, vI (0 : Int32))] [] M) ∧ ((M.1 (60, 0) 69) = (20 : Int32) → eg_W κ gM mtX11_remembers d (eQV κ gM post) 11 [(0, vR (60, 0)), (1, vI (0 : Int32))] [] M)) : eg_W κ gM mtX11_remembers d (eQV κ gM post) 0 [(0, vR (60, 0))] [] M := by
  refine eg_aload_n 0 dX11_remembers_0 rfl rfl ?_
  refine eg_getI dX11_remembers_1 fl_11_237 rfl trivial (obM_60 z1) ?_
  refine eg_bipush dX11_remembers_4 bp_20 ?_
  refine eg_icmp_ne (tgt := 50) dX11_remembers_6 rfl (fun c1 => ?_) (fun c1 => ?_)
  · have h := h.1 c1
    refine eg_iconst dX11_remembers_50 ic_0 ?_
    refine eg_istore_n dX11_remembers_51 rfl (by decide) (ls1 := [(1, vI (0 : Int32)), (0, vR (60, 0))]) rfl ?_
    refine eg_sub [1, 0] rfl ?_
    exact h
  · have h := h.2 c1
    refine eg_iconst dX11_remembers_9 ic_0 ?_
    refine eg_istore_n dX11_remembers_10 rfl (by decide) (ls1 := [(1, vI (0 : Int32)), (0, vR (60, 0))]) rfl ?_
    refine eg_sub [1, 0] rfl ?_
    exact h
set_option maxRecDepth 10000 in
theorem vX11_remembers_11 {κ : eg_K} {d : Nat} {post : eg_H → Prop} (M : eg_H) (l1 : Int32) (h : ((6954 : Int32) ≤ l1 → (∀ M2 : eg_H, M2 = (sI M (60, 0) 69 ((M.1 (60, 0) 69) - (1 : Int32))) → eg_W κ gM mtX11_remembers d (eQV κ gM post) 52 [(0, vR (60, 0)), (1, vI (0 : Int32))] [] M2)) ∧ ((¬ (6954 : Int32) ≤ l1) → (vp_in (l1 + (366 : Int32)) 7320 ∧ (vp_in l1 7320 ∧ (∀ M5 : eg_H, M5 = (sI M (131, 0) l1.toNatClampNeg (M.1 (131, 0) (l1 + (366 : Int32)).toNatClampNeg)) → (∀ x6 : Int32, x6 = (l1 + (1 : Int32)) → eg_W κ gM mtX11_remembers d (eQV κ gM post) 11 [(0, vR (60, 0)), (1, vI x6)] [] M5)))))) : eg_W κ gM mtX11_remembers d (eQV κ gM post) 11 [(0, vR (60, 0)), (1, vI l1)] [] M := by
  refine eg_iload_n 1 dX11_remembers_11 rfl rfl ?_
  refine eg_sipush dX11_remembers_12 sp_6954 ?_
  refine eg_icmp_ge (tgt := 40) dX11_remembers_15 rfl (fun c1 => ?_) (fun c1 => ?_)
  · have h := h.1 c1
    refine eg_aload_n 0 dX11_remembers_40 rfl rfl ?_
    refine eg_dup dX11_remembers_41 rfl ?_
    refine eg_getI dX11_remembers_42 fl_11_237 rfl trivial (obM_60 z1) ?_
    refine eg_iconst dX11_remembers_45 ic_1 ?_
    refine eg_isub dX11_remembers_46 ?_
    refine en_putI dX11_remembers_47 fl_11_237 rfl rfl (obM_60 z1) (fun M2 eM2 => ?_)
    have h := h M2 eM2
    refine eg_iconst dX11_remembers_50 ic_0 ?_
    refine eg_istore_n dX11_remembers_51 rfl (by decide) (ls1 := [(1, vI (0 : Int32)), (0, vR (60, 0))]) rfl ?_
    refine eg_sub [1, 0] rfl ?_
    exact h
  · have h := h.2 c1
    refine eg_aload_n 0 dX11_remembers_18 rfl rfl ?_
    refine eg_getR dX11_remembers_19 fl_11_91 rfl rfl (obM_60 z1) ?_
    show eg_W κ gM mtX11_remembers d (eQV κ gM post) 22 [(0, vR (60, 0)), (1, vI l1)] [vR (131, 0)] M
    refine eg_iload_n 1 dX11_remembers_22 rfl rfl ?_
    refine eg_aload_n 0 dX11_remembers_23 rfl rfl ?_
    refine eg_getR dX11_remembers_24 fl_11_91 rfl rfl (obM_60 z1) ?_
    show eg_W κ gM mtX11_remembers d (eQV κ gM post) 27 [(0, vR (60, 0)), (1, vI l1)] [vR (131, 0), vI l1, vR (131, 0)] M
    refine eg_iload_n 1 dX11_remembers_27 rfl rfl ?_
    refine eg_sipush dX11_remembers_28 sp_366 ?_
    refine eg_iadd dX11_remembers_31 ?_
    obtain ⟨g3, h⟩ := h
    refine eg_iaload dX11_remembers_32 (arM_131 z1 g3) ?_
    obtain ⟨g4, h⟩ := h
    refine en_iastore dX11_remembers_33 (arM_131 z1 g4) (fun M5 eM5 => ?_)
    have h := h M5 eM5
    refine en_iinc (f := fun x6 => [(1, vI x6), (0, vR (60, 0))]) 1 dX11_remembers_34 rfl rfl (by decide) rfl (fun x6 ex6 => ?_)
    have h := h x6 ex6
    refine eg_goto (tgt := 11) dX11_remembers_37 rfl ?_
    refine eg_sub [1, 0] rfl ?_
    exact h
set_option maxRecDepth 10000 in
theorem vX11_remembers_52 {κ : eg_K} {d : Nat} {post : eg_H → Prop} (M : eg_H) (l1 : Int32) (h : ((366 : Int32) ≤ l1 → (∀ M2 : eg_H, M2 = (sI M (60, 0) 69 ((M.1 (60, 0) 69) + (1 : Int32))) → post M2)) ∧ ((¬ (366 : Int32) ≤ l1) → (vp_in l1 366 ∧ (vp_in (((366 : Int32) * (M.1 (60, 0) 69)) + l1) 7320 ∧ (∀ M5 : eg_H, M5 = (sI M (131, 0) (((366 : Int32) * (M.1 (60, 0) 69)) + l1).toNatClampNeg (M.1 (111, 0) l1.toNatClampNeg)) → (∀ x6 : Int32, x6 = (l1 + (1 : Int32)) → eg_W κ gM mtX11_remembers d (eQV κ gM post) 52 [(0, vR (60, 0)), (1, vI x6)] [] M5)))))) : eg_W κ gM mtX11_remembers d (eQV κ gM post) 52 [(0, vR (60, 0)), (1, vI l1)] [] M := by
  refine eg_iload_n 1 dX11_remembers_52 rfl rfl ?_
  refine eg_sipush dX11_remembers_53 sp_366 ?_
  refine eg_icmp_ge (tgt := 86) dX11_remembers_56 rfl (fun c1 => ?_) (fun c1 => ?_)
  · have h := h.1 c1
    refine eg_aload_n 0 dX11_remembers_86 rfl rfl ?_
    refine eg_dup dX11_remembers_87 rfl ?_
    refine eg_getI dX11_remembers_88 fl_11_237 rfl trivial (obM_60 z1) ?_
    refine eg_iconst dX11_remembers_91 ic_1 ?_
    refine eg_iadd dX11_remembers_92 ?_
    refine en_putI dX11_remembers_93 fl_11_237 rfl rfl (obM_60 z1) (fun M2 eM2 => ?_)
    have h := h M2 eM2
    exact eg_vreturn dX11_remembers_96 rfl h
  · have h := h.2 c1
    refine eg_aload_n 0 dX11_remembers_59 rfl rfl ?_
    refine eg_getR dX11_remembers_60 fl_11_91 rfl rfl (obM_60 z1) ?_
    show eg_W κ gM mtX11_remembers d (eQV κ gM post) 63 [(0, vR (60, 0)), (1, vI l1)] [vR (131, 0)] M
    refine eg_sipush dX11_remembers_63 sp_366 ?_
    refine eg_aload_n 0 dX11_remembers_66 rfl rfl ?_
    refine eg_getI dX11_remembers_67 fl_11_237 rfl trivial (obM_60 z1) ?_
    refine eg_imul dX11_remembers_70 ?_
    refine eg_iload_n 1 dX11_remembers_71 rfl rfl ?_
    refine eg_iadd dX11_remembers_72 ?_
    refine eg_aload_n 0 dX11_remembers_73 rfl rfl ?_
    refine eg_getR dX11_remembers_74 fl_11_72 rfl rfl (obM_60 z1) ?_
    show eg_W κ gM mtX11_remembers d (eQV κ gM post) 77 [(0, vR (60, 0)), (1, vI l1)] [vR (111, 0), vI (((366 : Int32) * (M.1 (60, 0) 69)) + l1), vR (131, 0)] M
    refine eg_iload_n 1 dX11_remembers_77 rfl rfl ?_
    obtain ⟨g3, h⟩ := h
    refine eg_iaload dX11_remembers_78 (arM_111 z1 g3) ?_
    obtain ⟨g4, h⟩ := h
    refine en_iastore dX11_remembers_79 (arM_131 z1 g4) (fun M5 eM5 => ?_)
    have h := h M5 eM5
    refine en_iinc (f := fun x6 => [(1, vI x6), (0, vR (60, 0))]) 1 dX11_remembers_80 rfl rfl (by decide) rfl (fun x6 ex6 => ?_)
    have h := h x6 ex6
    refine eg_goto (tgt := 52) dX11_remembers_83 rfl ?_
    refine eg_sub [1, 0] rfl ?_
    exact h
theorem dX11_packed_0 : decode cX11_packed 0 = .ok (.iconst 0, 1) := by decide +kernel
theorem dX11_packed_1 : decode cX11_packed 1 = .ok (.istore_n 3, 1) := by decide +kernel
theorem dX11_packed_2 : decode cX11_packed 2 = .ok (.iload_n 1, 1) := by decide +kernel
theorem dX11_packed_3 : decode cX11_packed 3 = .ok (.istore 4, 2) := by decide +kernel
theorem dX11_packed_5 : decode cX11_packed 5 = .ok (.iload 4, 2) := by decide +kernel
theorem dX11_packed_7 : decode cX11_packed 7 = .ok (.iload_n 1, 1) := by decide +kernel
theorem dX11_packed_8 : decode cX11_packed 8 = .ok (.bipush 6, 2) := by decide +kernel
theorem dX11_packed_10 : decode cX11_packed 10 = .ok (.iadd, 1) := by decide +kernel
theorem dX11_packed_11 : decode cX11_packed 11 = .ok (.if_icmp .ge 34, 3) := by decide +kernel
theorem dX11_packed_14 : decode cX11_packed 14 = .ok (.iload_n 3, 1) := by decide +kernel
theorem dX11_packed_15 : decode cX11_packed 15 = .ok (.iconst 5, 1) := by decide +kernel
theorem dX11_packed_16 : decode cX11_packed 16 = .ok (.ishl, 1) := by decide +kernel
theorem dX11_packed_17 : decode cX11_packed 17 = .ok (.iload 4, 2) := by decide +kernel
theorem dX11_packed_19 : decode cX11_packed 19 = .ok (.iload_n 2, 1) := by decide +kernel
theorem dX11_packed_20 : decode cX11_packed 20 = .ok (.if_icmp .ge 16, 3) := by decide +kernel
theorem dX11_packed_23 : decode cX11_packed 23 = .ok (.aload_n 0, 1) := by decide +kernel
theorem dX11_packed_24 : decode cX11_packed 24 = .ok (.getfield 7, 3) := by decide +kernel
theorem dX11_packed_27 : decode cX11_packed 27 = .ok (.iload 4, 2) := by decide +kernel
theorem dX11_packed_29 : decode cX11_packed 29 = .ok (.iaload, 1) := by decide +kernel
theorem dX11_packed_30 : decode cX11_packed 30 = .ok (.bipush 96, 2) := by decide +kernel
theorem dX11_packed_32 : decode cX11_packed 32 = .ok (.isub, 1) := by decide +kernel
theorem dX11_packed_33 : decode cX11_packed 33 = .ok (.goto 4, 3) := by decide +kernel
theorem dX11_packed_36 : decode cX11_packed 36 = .ok (.iconst 0, 1) := by decide +kernel
theorem dX11_packed_37 : decode cX11_packed 37 = .ok (.ior, 1) := by decide +kernel
theorem dX11_packed_38 : decode cX11_packed 38 = .ok (.istore_n 3, 1) := by decide +kernel
theorem dX11_packed_39 : decode cX11_packed 39 = .ok (.iinc 4 1, 3) := by decide +kernel
theorem dX11_packed_42 : decode cX11_packed 42 = .ok (.goto (-37), 3) := by decide +kernel
theorem dX11_packed_45 : decode cX11_packed 45 = .ok (.iload_n 3, 1) := by decide +kernel
theorem dX11_packed_46 : decode cX11_packed 46 = .ok (.ireturn, 1) := by decide +kernel
set_option maxRecDepth 10000 in
theorem vX11_packed_0 {κ : eg_K} {d : Nat} {post : Int32 → eg_H → Prop} (M : eg_H) (l1 : Int32) (l2 : Int32) (h : eg_W κ gM mtX11_packed d (eQI κ gM post) 5 [(0, vR (60, 0)), (1, vI l1), (2, vI l2), (3, vI (0 : Int32)), (4, vI l1)] [] M) : eg_W κ gM mtX11_packed d (eQI κ gM post) 0 [(0, vR (60, 0)), (1, vI l1), (2, vI l2)] [] M := by
  refine eg_iconst dX11_packed_0 ic_0 ?_
  refine eg_istore_n dX11_packed_1 rfl (by decide) (ls1 := [(3, vI (0 : Int32)), (0, vR (60, 0)), (1, vI l1), (2, vI l2)]) rfl ?_
  refine eg_iload_n 2 dX11_packed_2 rfl rfl ?_
  refine eg_istore dX11_packed_3 (by decide) (ls1 := [(4, vI l1), (3, vI (0 : Int32)), (0, vR (60, 0)), (1, vI l1), (2, vI l2)]) rfl ?_
  refine eg_sub [2, 3, 4, 1, 0] rfl ?_
  exact h
set_option maxRecDepth 10000 in
theorem vX11_packed_5 {κ : eg_K} {d : Nat} {post : Int32 → eg_H → Prop} (M : eg_H) (l1 : Int32) (l2 : Int32) (l3 : Int32) (l4 : Int32) (h : ((l1 + (6 : Int32)) ≤ l4 → post l3 M) ∧ ((¬ (l1 + (6 : Int32)) ≤ l4) → (((¬ l2 ≤ l4) → vp_in l4 800) ∧ (∀ x3 : Int32, x3 = ((if l2 ≤ l4 then (0 : Int32) else ((M.1 (61, 0) l4.toNatClampNeg) - (96 : Int32)))) → (∀ x4 : Int32, x4 = ((l3 <<< ((5 : Int32) &&& 31)) ||| x3) → (∀ x5 : Int32, x5 = (l4 + (1 : Int32)) → eg_W κ gM mtX11_packed d (eQI κ gM post) 5 [(0, vR (60, 0)), (1, vI l1), (2, vI l2), (3, vI x4), (4, vI x5)] [] M)))))) : eg_W κ gM mtX11_packed d (eQI κ gM post) 5 [(0, vR (60, 0)), (1, vI l1), (2, vI l2), (3, vI l3), (4, vI l4)] [] M := by
  refine eg_iload 4 dX11_packed_5 rfl ?_
  refine eg_iload_n 1 dX11_packed_7 rfl rfl ?_
  refine eg_bipush dX11_packed_8 bp_6 ?_
  refine eg_iadd dX11_packed_10 ?_
  refine eg_icmp_ge (tgt := 45) dX11_packed_11 rfl (fun c1 => ?_) (fun c1 => ?_)
  · have h := h.1 c1
    refine eg_iload_n 3 dX11_packed_45 rfl rfl ?_
    exact eg_ireturn dX11_packed_46 rfl h
  · have h := h.2 c1
    refine eg_iload_n 3 dX11_packed_14 rfl rfl ?_
    refine eg_iconst dX11_packed_15 ic_5 ?_
    refine eg_ishl dX11_packed_16 ?_
    refine eg_iload 4 dX11_packed_17 rfl ?_
    refine eg_iload_n 2 dX11_packed_19 rfl rfl ?_
    obtain ⟨g2, h⟩ := h
    have J : ∀ x3 : Int32, x3 = (if l2 ≤ l4 then (0 : Int32) else ((M.1 (61, 0) l4.toNatClampNeg) - (96 : Int32))) → eg_W κ gM mtX11_packed d (eQI κ gM post) 37 [(0, vR (60, 0)), (1, vI l1), (2, vI l2), (3, vI l3), (4, vI l4)] [vI x3, vI (l3 <<< ((5 : Int32) &&& 31))] M := by
      intro x3 ex3
      have h := h x3 ex3
      refine eg_ior dX11_packed_37 ?_
      refine en_istore_n (f := fun x4 => [(3, vI x4), (0, vR (60, 0)), (1, vI l1), (2, vI l2), (4, vI l4)]) dX11_packed_38 rfl (by decide) rfl (fun x4 ex4 => ?_)
      have h := h x4 ex4
      refine en_iinc (f := fun x5 => [(4, vI x5), (3, vI x4), (0, vR (60, 0)), (1, vI l1), (2, vI l2)]) 4 dX11_packed_39 rfl rfl (by decide) rfl (fun x5 ex5 => ?_)
      have h := h x5 ex5
      refine eg_goto (tgt := 5) dX11_packed_42 rfl ?_
      refine eg_sub [2, 3, 4, 1, 0] rfl ?_
      exact h
    clear h
    refine eg_icmp_ge (tgt := 36) dX11_packed_20 rfl (fun c6 => ?_) (fun c6 => ?_)
    · refine eg_iconst dX11_packed_36 ic_0 ?_
      exact J _ (by rw [if_pos c6])
    · refine eg_aload_n 0 dX11_packed_23 rfl rfl ?_
      refine eg_getR dX11_packed_24 fl_11_7 rfl rfl (obM_60 z1) ?_
      show eg_W κ gM mtX11_packed d (eQI κ gM post) 27 [(0, vR (60, 0)), (1, vI l1), (2, vI l2), (3, vI l3), (4, vI l4)] [vR (61, 0), vI (l3 <<< ((5 : Int32) &&& 31))] M
      refine eg_iload 4 dX11_packed_27 rfl ?_
      refine eg_iaload dX11_packed_29 (arM_61 z1 (g2 (show (¬ l2 ≤ l4) from by first | exact c6 | exact Classical.not_not.mp c6))) ?_
      refine eg_bipush dX11_packed_30 bp_96 ?_
      refine eg_isub dX11_packed_32 ?_
      refine eg_goto (tgt := 37) dX11_packed_33 rfl ?_
      exact J _ (by rw [if_neg c6])
theorem dX11_wordAt_0 : decode cX11_wordAt 0 = .ok (.iconst 0, 1) := by decide +kernel
theorem dX11_wordAt_1 : decode cX11_wordAt 1 = .ok (.istore_n 3, 1) := by decide +kernel
theorem dX11_wordAt_2 : decode cX11_wordAt 2 = .ok (.iconst 0, 1) := by decide +kernel
theorem dX11_wordAt_3 : decode cX11_wordAt 3 = .ok (.istore 4, 2) := by decide +kernel
theorem dX11_wordAt_5 : decode cX11_wordAt 5 = .ok (.iload 4, 2) := by decide +kernel
theorem dX11_wordAt_7 : decode cX11_wordAt 7 = .ok (.aload_n 0, 1) := by decide +kernel
theorem dX11_wordAt_8 : decode cX11_wordAt 8 = .ok (.getfield 13, 3) := by decide +kernel
theorem dX11_wordAt_11 : decode cX11_wordAt 11 = .ok (.arraylength, 1) := by decide +kernel
theorem dX11_wordAt_12 : decode cX11_wordAt 12 = .ok (.if_icmp .ge 114, 3) := by decide +kernel
theorem dX11_wordAt_15 : decode cX11_wordAt 15 = .ok (.iconst 0, 1) := by decide +kernel
theorem dX11_wordAt_16 : decode cX11_wordAt 16 = .ok (.istore 5, 2) := by decide +kernel
theorem dX11_wordAt_18 : decode cX11_wordAt 18 = .ok (.aload_n 0, 1) := by decide +kernel
theorem dX11_wordAt_19 : decode cX11_wordAt 19 = .ok (.getfield 13, 3) := by decide +kernel
theorem dX11_wordAt_22 : decode cX11_wordAt 22 = .ok (.iload 4, 2) := by decide +kernel
theorem dX11_wordAt_24 : decode cX11_wordAt 24 = .ok (.iload 5, 2) := by decide +kernel
theorem dX11_wordAt_26 : decode cX11_wordAt 26 = .ok (.iadd, 1) := by decide +kernel
theorem dX11_wordAt_27 : decode cX11_wordAt 27 = .ok (.iaload, 1) := by decide +kernel
theorem dX11_wordAt_28 : decode cX11_wordAt 28 = .ok (.bipush 32, 2) := by decide +kernel
theorem dX11_wordAt_30 : decode cX11_wordAt 30 = .ok (.if_icmp .eq 9, 3) := by decide +kernel
theorem dX11_wordAt_33 : decode cX11_wordAt 33 = .ok (.iinc 5 1, 3) := by decide +kernel
theorem dX11_wordAt_36 : decode cX11_wordAt 36 = .ok (.goto (-18), 3) := by decide +kernel
theorem dX11_wordAt_39 : decode cX11_wordAt 39 = .ok (.iload 5, 2) := by decide +kernel
theorem dX11_wordAt_41 : decode cX11_wordAt 41 = .ok (.iload_n 2, 1) := by decide +kernel
theorem dX11_wordAt_42 : decode cX11_wordAt 42 = .ok (.iload_n 1, 1) := by decide +kernel
theorem dX11_wordAt_43 : decode cX11_wordAt 43 = .ok (.isub, 1) := by decide +kernel
theorem dX11_wordAt_44 : decode cX11_wordAt 44 = .ok (.if_icmp .ne 7, 3) := by decide +kernel
theorem dX11_wordAt_47 : decode cX11_wordAt 47 = .ok (.iconst 1, 1) := by decide +kernel
theorem dX11_wordAt_48 : decode cX11_wordAt 48 = .ok (.goto 4, 3) := by decide +kernel
theorem dX11_wordAt_51 : decode cX11_wordAt 51 = .ok (.iconst 0, 1) := by decide +kernel
theorem dX11_wordAt_52 : decode cX11_wordAt 52 = .ok (.istore 6, 2) := by decide +kernel
theorem dX11_wordAt_54 : decode cX11_wordAt 54 = .ok (.iconst 0, 1) := by decide +kernel
theorem dX11_wordAt_55 : decode cX11_wordAt 55 = .ok (.istore 7, 2) := by decide +kernel
theorem dX11_wordAt_57 : decode cX11_wordAt 57 = .ok (.iload 7, 2) := by decide +kernel
theorem dX11_wordAt_59 : decode cX11_wordAt 59 = .ok (.iload 5, 2) := by decide +kernel
theorem dX11_wordAt_61 : decode cX11_wordAt 61 = .ok (.if_icmp .ge 43, 3) := by decide +kernel
theorem dX11_wordAt_64 : decode cX11_wordAt 64 = .ok (.iload 6, 2) := by decide +kernel
theorem dX11_wordAt_66 : decode cX11_wordAt 66 = .ok (.ifCond .eq 38, 3) := by decide +kernel
theorem dX11_wordAt_69 : decode cX11_wordAt 69 = .ok (.aload_n 0, 1) := by decide +kernel
theorem dX11_wordAt_70 : decode cX11_wordAt 70 = .ok (.getfield 13, 3) := by decide +kernel
theorem dX11_wordAt_73 : decode cX11_wordAt 73 = .ok (.iload 4, 2) := by decide +kernel
theorem dX11_wordAt_75 : decode cX11_wordAt 75 = .ok (.iload 7, 2) := by decide +kernel
theorem dX11_wordAt_77 : decode cX11_wordAt 77 = .ok (.iadd, 1) := by decide +kernel
theorem dX11_wordAt_78 : decode cX11_wordAt 78 = .ok (.iaload, 1) := by decide +kernel
theorem dX11_wordAt_79 : decode cX11_wordAt 79 = .ok (.aload_n 0, 1) := by decide +kernel
theorem dX11_wordAt_80 : decode cX11_wordAt 80 = .ok (.getfield 7, 3) := by decide +kernel
theorem dX11_wordAt_83 : decode cX11_wordAt 83 = .ok (.iload_n 1, 1) := by decide +kernel
theorem dX11_wordAt_84 : decode cX11_wordAt 84 = .ok (.iload 7, 2) := by decide +kernel
theorem dX11_wordAt_86 : decode cX11_wordAt 86 = .ok (.iadd, 1) := by decide +kernel
theorem dX11_wordAt_87 : decode cX11_wordAt 87 = .ok (.iaload, 1) := by decide +kernel
theorem dX11_wordAt_88 : decode cX11_wordAt 88 = .ok (.if_icmp .ne 7, 3) := by decide +kernel
theorem dX11_wordAt_91 : decode cX11_wordAt 91 = .ok (.iconst 1, 1) := by decide +kernel
theorem dX11_wordAt_92 : decode cX11_wordAt 92 = .ok (.goto 4, 3) := by decide +kernel
theorem dX11_wordAt_95 : decode cX11_wordAt 95 = .ok (.iconst 0, 1) := by decide +kernel
theorem dX11_wordAt_96 : decode cX11_wordAt 96 = .ok (.istore 6, 2) := by decide +kernel
theorem dX11_wordAt_98 : decode cX11_wordAt 98 = .ok (.iinc 7 1, 3) := by decide +kernel
theorem dX11_wordAt_101 : decode cX11_wordAt 101 = .ok (.goto (-44), 3) := by decide +kernel
theorem dX11_wordAt_104 : decode cX11_wordAt 104 = .ok (.iload 6, 2) := by decide +kernel
theorem dX11_wordAt_106 : decode cX11_wordAt 106 = .ok (.ifCond .eq 5, 3) := by decide +kernel
theorem dX11_wordAt_109 : decode cX11_wordAt 109 = .ok (.iload_n 3, 1) := by decide +kernel
theorem dX11_wordAt_110 : decode cX11_wordAt 110 = .ok (.ireturn, 1) := by decide +kernel
theorem dX11_wordAt_111 : decode cX11_wordAt 111 = .ok (.iload 4, 2) := by decide +kernel
theorem dX11_wordAt_113 : decode cX11_wordAt 113 = .ok (.iload 5, 2) := by decide +kernel
theorem dX11_wordAt_115 : decode cX11_wordAt 115 = .ok (.iconst 1, 1) := by decide +kernel
theorem dX11_wordAt_116 : decode cX11_wordAt 116 = .ok (.iadd, 1) := by decide +kernel
theorem dX11_wordAt_117 : decode cX11_wordAt 117 = .ok (.iadd, 1) := by decide +kernel
theorem dX11_wordAt_118 : decode cX11_wordAt 118 = .ok (.istore 4, 2) := by decide +kernel
theorem dX11_wordAt_120 : decode cX11_wordAt 120 = .ok (.iinc 3 1, 3) := by decide +kernel
theorem dX11_wordAt_123 : decode cX11_wordAt 123 = .ok (.goto (-118), 3) := by decide +kernel
theorem dX11_wordAt_126 : decode cX11_wordAt 126 = .ok (.iconst (-1), 1) := by decide +kernel
theorem dX11_wordAt_127 : decode cX11_wordAt 127 = .ok (.ireturn, 1) := by decide +kernel
set_option maxRecDepth 10000 in
theorem vX11_wordAt_0 {κ : eg_K} {d : Nat} {post : Int32 → eg_H → Prop} (M : eg_H) (l1 : Int32) (l2 : Int32) (h : eg_W κ gM mtX11_wordAt d (eQI κ gM post) 5 [(0, vR (60, 0)), (1, vI l1), (2, vI l2), (3, vI (0 : Int32)), (4, vI (0 : Int32))] [] M) : eg_W κ gM mtX11_wordAt d (eQI κ gM post) 0 [(0, vR (60, 0)), (1, vI l1), (2, vI l2)] [] M := by
  refine eg_iconst dX11_wordAt_0 ic_0 ?_
  refine eg_istore_n dX11_wordAt_1 rfl (by decide) (ls1 := [(3, vI (0 : Int32)), (0, vR (60, 0)), (1, vI l1), (2, vI l2)]) rfl ?_
  refine eg_iconst dX11_wordAt_2 ic_0 ?_
  refine eg_istore dX11_wordAt_3 (by decide) (ls1 := [(4, vI (0 : Int32)), (3, vI (0 : Int32)), (0, vR (60, 0)), (1, vI l1), (2, vI l2)]) rfl ?_
  refine eg_sub [2, 3, 4, 1, 0] rfl ?_
  exact h
set_option maxRecDepth 10000 in
theorem vX11_wordAt_5 {κ : eg_K} {d : Nat} {post : Int32 → eg_H → Prop} (M : eg_H) (l1 : Int32) (l2 : Int32) (l3 : Int32) (l4 : Int32) (h : ((121 : Int32) ≤ l4 → post (-1 : Int32) M) ∧ ((¬ (121 : Int32) ≤ l4) → eg_W κ gM mtX11_wordAt d (eQI κ gM post) 18 [(0, vR (60, 0)), (1, vI l1), (2, vI l2), (3, vI l3), (4, vI l4), (5, vI (0 : Int32))] [] M)) : eg_W κ gM mtX11_wordAt d (eQI κ gM post) 5 [(0, vR (60, 0)), (1, vI l1), (2, vI l2), (3, vI l3), (4, vI l4)] [] M := by
  refine eg_iload 4 dX11_wordAt_5 rfl ?_
  refine eg_aload_n 0 dX11_wordAt_7 rfl rfl ?_
  refine eg_getR dX11_wordAt_8 fl_11_13 rfl rfl (obM_60 z1) ?_
  show eg_W κ gM mtX11_wordAt d (eQI κ gM post) 11 [(0, vR (60, 0)), (1, vI l1), (2, vI l2), (3, vI l3), (4, vI l4)] [vR (64, 0), vI l4] M
  refine eg_alen (t := 0) (n := 121) dX11_wordAt_11 (anM_64 z1) (by decide) ?_
  show eg_W κ gM mtX11_wordAt d (eQI κ gM post) 12 [(0, vR (60, 0)), (1, vI l1), (2, vI l2), (3, vI l3), (4, vI l4)] [vI (121 : Int32), vI l4] M
  refine eg_icmp_ge (tgt := 126) dX11_wordAt_12 rfl (fun c1 => ?_) (fun c1 => ?_)
  · have h := h.1 c1
    refine eg_iconst dX11_wordAt_126 ic_m1 ?_
    exact eg_ireturn dX11_wordAt_127 rfl h
  · have h := h.2 c1
    refine eg_iconst dX11_wordAt_15 ic_0 ?_
    refine eg_istore dX11_wordAt_16 (by decide) (ls1 := [(5, vI (0 : Int32)), (0, vR (60, 0)), (1, vI l1), (2, vI l2), (3, vI l3), (4, vI l4)]) rfl ?_
    refine eg_sub [1, 2, 3, 4, 5, 0] rfl ?_
    exact h
set_option maxRecDepth 10000 in
theorem vX11_wordAt_18 {κ : eg_K} {d : Nat} {post : Int32 → eg_H → Prop} (M : eg_H) (l1 : Int32) (l2 : Int32) (l3 : Int32) (l4 : Int32) (l5 : Int32) (h : (vp_in (l4 + l5) 121 ∧ ((M.1 (64, 0) (l4 + l5).toNatClampNeg) = (32 : Int32) → (∀ x3 : Int32, x3 = ((if (¬ l5 = (l2 - l1)) then (0 : Int32) else (1 : Int32))) → eg_W κ gM mtX11_wordAt d (eQI κ gM post) 57 [(0, vR (60, 0)), (1, vI l1), (2, vI l2), (3, vI l3), (4, vI l4), (5, vI l5), (6, vI x3), (7, vI (0 : Int32))] [] M)) ∧ ((¬ (M.1 (64, 0) (l4 + l5).toNatClampNeg) = (32 : Int32)) → (∀ x6 : Int32, x6 = (l5 + (1 : Int32)) → eg_W κ gM mtX11_wordAt d (eQI κ gM post) 18 [(0, vR (60, 0)), (1, vI l1), (2, vI l2), (3, vI l3), (4, vI l4), (5, vI x6)] [] M)))) : eg_W κ gM mtX11_wordAt d (eQI κ gM post) 18 [(0, vR (60, 0)), (1, vI l1), (2, vI l2), (3, vI l3), (4, vI l4), (5, vI l5)] [] M := by
  refine eg_aload_n 0 dX11_wordAt_18 rfl rfl ?_
  refine eg_getR dX11_wordAt_19 fl_11_13 rfl rfl (obM_60 z1) ?_
  show eg_W κ gM mtX11_wordAt d (eQI κ gM post) 22 [(0, vR (60, 0)), (1, vI l1), (2, vI l2), (3, vI l3), (4, vI l4), (5, vI l5)] [vR (64, 0)] M
  refine eg_iload 4 dX11_wordAt_22 rfl ?_
  refine eg_iload 5 dX11_wordAt_24 rfl ?_
  refine eg_iadd dX11_wordAt_26 ?_
  obtain ⟨g1, h⟩ := h
  refine eg_iaload dX11_wordAt_27 (arM_64 z1 g1) ?_
  refine eg_bipush dX11_wordAt_28 bp_32 ?_
  refine eg_icmp_eq (tgt := 39) dX11_wordAt_30 rfl (fun c2 => ?_) (fun c2 => ?_)
  · have h := h.1 c2
    refine eg_iload 5 dX11_wordAt_39 rfl ?_
    refine eg_iload_n 2 dX11_wordAt_41 rfl rfl ?_
    refine eg_iload_n 1 dX11_wordAt_42 rfl rfl ?_
    refine eg_isub dX11_wordAt_43 ?_
    have J : ∀ x3 : Int32, x3 = (if (¬ l5 = (l2 - l1)) then (0 : Int32) else (1 : Int32)) → eg_W κ gM mtX11_wordAt d (eQI κ gM post) 52 [(0, vR (60, 0)), (1, vI l1), (2, vI l2), (3, vI l3), (4, vI l4), (5, vI l5)] [vI x3] M := by
      intro x3 ex3
      have h := h x3 ex3
      refine eg_istore dX11_wordAt_52 (by decide) (ls1 := [(6, vI x3), (0, vR (60, 0)), (1, vI l1), (2, vI l2), (3, vI l3), (4, vI l4), (5, vI l5)]) rfl ?_
      refine eg_iconst dX11_wordAt_54 ic_0 ?_
      refine eg_istore dX11_wordAt_55 (by decide) (ls1 := [(7, vI (0 : Int32)), (6, vI x3), (0, vR (60, 0)), (1, vI l1), (2, vI l2), (3, vI l3), (4, vI l4), (5, vI l5)]) rfl ?_
      refine eg_sub [2, 3, 4, 5, 6, 7, 1, 0] rfl ?_
      exact h
    clear h
    refine eg_icmp_ne (tgt := 51) dX11_wordAt_44 rfl (fun c4 => ?_) (fun c4 => ?_)
    · refine eg_iconst dX11_wordAt_51 ic_0 ?_
      exact J _ (by rw [if_pos c4])
    · have c5 : ¬ (¬ l5 = (l2 - l1)) := fun z => z c4
      refine eg_iconst dX11_wordAt_47 ic_1 ?_
      refine eg_goto (tgt := 52) dX11_wordAt_48 rfl ?_
      exact J _ (by rw [if_neg c5])
  · have h := h.2 c2
    refine en_iinc (f := fun x6 => [(5, vI x6), (0, vR (60, 0)), (1, vI l1), (2, vI l2), (3, vI l3), (4, vI l4)]) 5 dX11_wordAt_33 rfl rfl (by decide) rfl (fun x6 ex6 => ?_)
    have h := h x6 ex6
    refine eg_goto (tgt := 18) dX11_wordAt_36 rfl ?_
    refine eg_sub [1, 2, 3, 4, 5, 0] rfl ?_
    exact h
set_option maxRecDepth 10000 in
theorem vX11_wordAt_57 {κ : eg_K} {d : Nat} {post : Int32 → eg_H → Prop} (M : eg_H) (l1 : Int32) (l2 : Int32) (l3 : Int32) (l4 : Int32) (l5 : Int32) (l6 : Int32) (l7 : Int32) (h : (l5 ≤ l7 → eg_W κ gM mtX11_wordAt d (eQI κ gM post) 104 [(0, vR (60, 0)), (1, vI l1), (2, vI l2), (3, vI l3), (4, vI l4), (5, vI l5), (6, vI l6)] [] M) ∧ ((¬ l5 ≤ l7) → (l6 = 0 → eg_W κ gM mtX11_wordAt d (eQI κ gM post) 104 [(0, vR (60, 0)), (1, vI l1), (2, vI l2), (3, vI l3), (4, vI l4), (5, vI l5), (6, vI l6)] [] M) ∧ ((¬ l6 = 0) → (vp_in (l4 + l7) 121 ∧ (vp_in (l1 + l7) 800 ∧ (∀ x5 : Int32, x5 = ((if (¬ (M.1 (64, 0) (l4 + l7).toNatClampNeg) = (M.1 (61, 0) (l1 + l7).toNatClampNeg)) then (0 : Int32) else (1 : Int32))) → (∀ x6 : Int32, x6 = (l7 + (1 : Int32)) → eg_W κ gM mtX11_wordAt d (eQI κ gM post) 57 [(0, vR (60, 0)), (1, vI l1), (2, vI l2), (3, vI l3), (4, vI l4), (5, vI l5), (6, vI x5), (7, vI x6)] [] M))))))) : eg_W κ gM mtX11_wordAt d (eQI κ gM post) 57 [(0, vR (60, 0)), (1, vI l1), (2, vI l2), (3, vI l3), (4, vI l4), (5, vI l5), (6, vI l6), (7, vI l7)] [] M := by
  refine eg_iload 7 dX11_wordAt_57 rfl ?_
  refine eg_iload 5 dX11_wordAt_59 rfl ?_
  refine eg_icmp_ge (tgt := 104) dX11_wordAt_61 rfl (fun c1 => ?_) (fun c1 => ?_)
  · have h := h.1 c1
    refine eg_sub [0, 1, 2, 3, 4, 5, 6] rfl ?_
    exact h
  · have h := h.2 c1
    refine eg_iload 6 dX11_wordAt_64 rfl ?_
    refine eg_if_eq (tgt := 104) dX11_wordAt_66 rfl (fun c2 => ?_) (fun c2 => ?_)
    · have h := h.1 c2
      refine eg_sub [0, 1, 2, 3, 4, 5, 6] rfl ?_
      exact h
    · have h := h.2 c2
      refine eg_aload_n 0 dX11_wordAt_69 rfl rfl ?_
      refine eg_getR dX11_wordAt_70 fl_11_13 rfl rfl (obM_60 z1) ?_
      show eg_W κ gM mtX11_wordAt d (eQI κ gM post) 73 [(0, vR (60, 0)), (1, vI l1), (2, vI l2), (3, vI l3), (4, vI l4), (5, vI l5), (6, vI l6), (7, vI l7)] [vR (64, 0)] M
      refine eg_iload 4 dX11_wordAt_73 rfl ?_
      refine eg_iload 7 dX11_wordAt_75 rfl ?_
      refine eg_iadd dX11_wordAt_77 ?_
      obtain ⟨g3, h⟩ := h
      refine eg_iaload dX11_wordAt_78 (arM_64 z1 g3) ?_
      refine eg_aload_n 0 dX11_wordAt_79 rfl rfl ?_
      refine eg_getR dX11_wordAt_80 fl_11_7 rfl rfl (obM_60 z1) ?_
      show eg_W κ gM mtX11_wordAt d (eQI κ gM post) 83 [(0, vR (60, 0)), (1, vI l1), (2, vI l2), (3, vI l3), (4, vI l4), (5, vI l5), (6, vI l6), (7, vI l7)] [vR (61, 0), vI (M.1 (64, 0) (l4 + l7).toNatClampNeg)] M
      refine eg_iload_n 1 dX11_wordAt_83 rfl rfl ?_
      refine eg_iload 7 dX11_wordAt_84 rfl ?_
      refine eg_iadd dX11_wordAt_86 ?_
      obtain ⟨g4, h⟩ := h
      refine eg_iaload dX11_wordAt_87 (arM_61 z1 g4) ?_
      have J : ∀ x5 : Int32, x5 = (if (¬ (M.1 (64, 0) (l4 + l7).toNatClampNeg) = (M.1 (61, 0) (l1 + l7).toNatClampNeg)) then (0 : Int32) else (1 : Int32)) → eg_W κ gM mtX11_wordAt d (eQI κ gM post) 96 [(0, vR (60, 0)), (1, vI l1), (2, vI l2), (3, vI l3), (4, vI l4), (5, vI l5), (6, vI l6), (7, vI l7)] [vI x5] M := by
        intro x5 ex5
        have h := h x5 ex5
        refine eg_istore dX11_wordAt_96 (by decide) (ls1 := [(6, vI x5), (0, vR (60, 0)), (1, vI l1), (2, vI l2), (3, vI l3), (4, vI l4), (5, vI l5), (7, vI l7)]) rfl ?_
        refine en_iinc (f := fun x6 => [(7, vI x6), (6, vI x5), (0, vR (60, 0)), (1, vI l1), (2, vI l2), (3, vI l3), (4, vI l4), (5, vI l5)]) 7 dX11_wordAt_98 rfl rfl (by decide) rfl (fun x6 ex6 => ?_)
        have h := h x6 ex6
        refine eg_goto (tgt := 57) dX11_wordAt_101 rfl ?_
        refine eg_sub [2, 3, 4, 5, 6, 7, 1, 0] rfl ?_
        exact h
      clear h
      refine eg_icmp_ne (tgt := 95) dX11_wordAt_88 rfl (fun c7 => ?_) (fun c7 => ?_)
      · refine eg_iconst dX11_wordAt_95 ic_0 ?_
        exact J _ (by rw [if_pos c7])
      · have c8 : ¬ (¬ (M.1 (64, 0) (l4 + l7).toNatClampNeg) = (M.1 (61, 0) (l1 + l7).toNatClampNeg)) := fun z => z c7
        refine eg_iconst dX11_wordAt_91 ic_1 ?_
        refine eg_goto (tgt := 96) dX11_wordAt_92 rfl ?_
        exact J _ (by rw [if_neg c8])
set_option maxRecDepth 10000 in
theorem vX11_wordAt_104 {κ : eg_K} {d : Nat} {post : Int32 → eg_H → Prop} (M : eg_H) (l1 : Int32) (l2 : Int32) (l3 : Int32) (l4 : Int32) (l5 : Int32) (l6 : Int32) (h : (l6 = 0 → (∀ x2 : Int32, x2 = (l4 + (l5 + (1 : Int32))) → (∀ x3 : Int32, x3 = (l3 + (1 : Int32)) → eg_W κ gM mtX11_wordAt d (eQI κ gM post) 5 [(0, vR (60, 0)), (1, vI l1), (2, vI l2), (3, vI x3), (4, vI x2)] [] M))) ∧ ((¬ l6 = 0) → post l3 M)) : eg_W κ gM mtX11_wordAt d (eQI κ gM post) 104 [(0, vR (60, 0)), (1, vI l1), (2, vI l2), (3, vI l3), (4, vI l4), (5, vI l5), (6, vI l6)] [] M := by
  refine eg_iload 6 dX11_wordAt_104 rfl ?_
  refine eg_if_eq (tgt := 111) dX11_wordAt_106 rfl (fun c1 => ?_) (fun c1 => ?_)
  · have h := h.1 c1
    refine eg_iload 4 dX11_wordAt_111 rfl ?_
    refine eg_iload 5 dX11_wordAt_113 rfl ?_
    refine eg_iconst dX11_wordAt_115 ic_1 ?_
    refine eg_iadd dX11_wordAt_116 ?_
    refine eg_iadd dX11_wordAt_117 ?_
    refine en_istore (f := fun x2 => [(4, vI x2), (0, vR (60, 0)), (1, vI l1), (2, vI l2), (3, vI l3), (5, vI l5), (6, vI l6)]) dX11_wordAt_118 (by decide) rfl (fun x2 ex2 => ?_)
    have h := h x2 ex2
    refine en_iinc (f := fun x3 => [(3, vI x3), (4, vI x2), (0, vR (60, 0)), (1, vI l1), (2, vI l2), (5, vI l5), (6, vI l6)]) 4 dX11_wordAt_120 rfl rfl (by decide) rfl (fun x3 ex3 => ?_)
    have h := h x3 ex3
    refine eg_goto (tgt := 5) dX11_wordAt_123 rfl ?_
    refine eg_sub [2, 3, 4, 0, 1] rfl ?_
    exact h
  · have h := h.2 c1
    refine eg_iload_n 3 dX11_wordAt_109 rfl rfl ?_
    exact eg_ireturn dX11_wordAt_110 rfl h
