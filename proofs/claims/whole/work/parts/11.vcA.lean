theorem dX0_clear_0 : decode cX0_clear 0 = .ok (.iconst 0, 1) := by decide +kernel
theorem dX0_clear_1 : decode cX0_clear 1 = .ok (.istore_n 1, 1) := by decide +kernel
theorem dX0_clear_2 : decode cX0_clear 2 = .ok (.iload_n 1, 1) := by decide +kernel
theorem dX0_clear_3 : decode cX0_clear 3 = .ok (.iconst 5, 1) := by decide +kernel
theorem dX0_clear_4 : decode cX0_clear 4 = .ok (.if_icmp .ge 16, 3) := by decide +kernel
theorem dX0_clear_7 : decode cX0_clear 7 = .ok (.aload_n 0, 1) := by decide +kernel
theorem dX0_clear_8 : decode cX0_clear 8 = .ok (.getfield 9, 3) := by decide +kernel
theorem dX0_clear_11 : decode cX0_clear 11 = .ok (.iload_n 1, 1) := by decide +kernel
theorem dX0_clear_12 : decode cX0_clear 12 = .ok (.iconst 0, 1) := by decide +kernel
theorem dX0_clear_13 : decode cX0_clear 13 = .ok (.iastore, 1) := by decide +kernel
theorem dX0_clear_14 : decode cX0_clear 14 = .ok (.iinc 1 1, 3) := by decide +kernel
theorem dX0_clear_17 : decode cX0_clear 17 = .ok (.goto (-15), 3) := by decide +kernel
theorem dX0_clear_20 : decode cX0_clear 20 = .ok (.return_, 1) := by decide +kernel
set_option maxRecDepth 10000 in
theorem vX0_clear_0 {κ : eg_K} {d : Nat} {post : eg_H → Prop} (M : eg_H) {l0 : Nat} (hl0 : l0 < 30) (h : eg_W κ gC mtX0_clear d (eQV κ gC post) 2 [(0, vR (0, l0)), (1, vI (0 : Int32))] [] M) : eg_W κ gC mtX0_clear d (eQV κ gC post) 0 [(0, vR (0, l0))] [] M := by
  refine eg_iconst dX0_clear_0 ic_0 ?_
  refine eg_istore_n dX0_clear_1 rfl (by decide) (ls1 := [(1, vI (0 : Int32)), (0, vR (0, l0))]) rfl ?_
  refine eg_sub [1, 0] rfl ?_
  exact h
set_option maxRecDepth 10000 in
theorem vX0_clear_2 {κ : eg_K} {d : Nat} {post : eg_H → Prop} (M : eg_H) {l0 : Nat} (hl0 : l0 < 30) (l1 : Int32) (h : ((5 : Int32) ≤ l1 → post M) ∧ ((¬ (5 : Int32) ≤ l1) → (vp_in l1 5 ∧ (∀ M3 : eg_H, M3 = (sI M (20, l0) l1.toNatClampNeg (0 : Int32)) → (∀ x4 : Int32, x4 = (l1 + (1 : Int32)) → eg_W κ gC mtX0_clear d (eQV κ gC post) 2 [(0, vR (0, l0)), (1, vI x4)] [] M3))))) : eg_W κ gC mtX0_clear d (eQV κ gC post) 2 [(0, vR (0, l0)), (1, vI l1)] [] M := by
  refine eg_iload_n 1 dX0_clear_2 rfl rfl ?_
  refine eg_iconst dX0_clear_3 ic_5 ?_
  refine eg_icmp_ge (tgt := 20) dX0_clear_4 rfl (fun c1 => ?_) (fun c1 => ?_)
  · have h := h.1 c1
    exact eg_vreturn dX0_clear_20 rfl h
  · have h := h.2 c1
    refine eg_aload_n 0 dX0_clear_7 rfl rfl ?_
    refine eg_getR dX0_clear_8 fl_0_9 rfl rfl (obC_0 hl0) ?_
    show eg_W κ gC mtX0_clear d (eQV κ gC post) 11 [(0, vR (0, l0)), (1, vI l1)] [vR (20, l0)] M
    refine eg_iload_n 1 dX0_clear_11 rfl rfl ?_
    refine eg_iconst dX0_clear_12 ic_0 ?_
    obtain ⟨g2, h⟩ := h
    refine en_iastore dX0_clear_13 (arC_20 hl0 g2) (fun M3 eM3 => ?_)
    have h := h M3 eM3
    refine en_iinc (f := fun x4 => [(1, vI x4), (0, vR (0, l0))]) 1 dX0_clear_14 rfl rfl (by decide) rfl (fun x4 ex4 => ?_)
    have h := h x4 ex4
    refine eg_goto (tgt := 2) dX0_clear_17 rfl ?_
    refine eg_sub [1, 0] rfl ?_
    exact h
theorem dX0_copyFrom_0 : decode cX0_copyFrom 0 = .ok (.aload_n 0, 1) := by decide +kernel
theorem dX0_copyFrom_1 : decode cX0_copyFrom 1 = .ok (.aload_n 1, 1) := by decide +kernel
theorem dX0_copyFrom_2 : decode cX0_copyFrom 2 = .ok (.getfield 15, 3) := by decide +kernel
theorem dX0_copyFrom_5 : decode cX0_copyFrom 5 = .ok (.putfield 15, 3) := by decide +kernel
theorem dX0_copyFrom_8 : decode cX0_copyFrom 8 = .ok (.aload_n 0, 1) := by decide +kernel
theorem dX0_copyFrom_9 : decode cX0_copyFrom 9 = .ok (.aload_n 1, 1) := by decide +kernel
theorem dX0_copyFrom_10 : decode cX0_copyFrom 10 = .ok (.getfield 19, 3) := by decide +kernel
theorem dX0_copyFrom_13 : decode cX0_copyFrom 13 = .ok (.putfield 19, 3) := by decide +kernel
theorem dX0_copyFrom_16 : decode cX0_copyFrom 16 = .ok (.aload_n 0, 1) := by decide +kernel
theorem dX0_copyFrom_17 : decode cX0_copyFrom 17 = .ok (.aload_n 1, 1) := by decide +kernel
theorem dX0_copyFrom_18 : decode cX0_copyFrom 18 = .ok (.getfield 22, 3) := by decide +kernel
theorem dX0_copyFrom_21 : decode cX0_copyFrom 21 = .ok (.putfield 22, 3) := by decide +kernel
theorem dX0_copyFrom_24 : decode cX0_copyFrom 24 = .ok (.aload_n 1, 1) := by decide +kernel
theorem dX0_copyFrom_25 : decode cX0_copyFrom 25 = .ok (.getfield 9, 3) := by decide +kernel
theorem dX0_copyFrom_28 : decode cX0_copyFrom 28 = .ok (.iconst 0, 1) := by decide +kernel
theorem dX0_copyFrom_29 : decode cX0_copyFrom 29 = .ok (.aload_n 0, 1) := by decide +kernel
theorem dX0_copyFrom_30 : decode cX0_copyFrom 30 = .ok (.getfield 9, 3) := by decide +kernel
theorem dX0_copyFrom_33 : decode cX0_copyFrom 33 = .ok (.iconst 0, 1) := by decide +kernel
theorem dX0_copyFrom_34 : decode cX0_copyFrom 34 = .ok (.iconst 5, 1) := by decide +kernel
theorem dX0_copyFrom_35 : decode cX0_copyFrom 35 = .ok (.invokestatic 25, 3) := by decide +kernel
theorem dX0_copyFrom_38 : decode cX0_copyFrom 38 = .ok (.return_, 1) := by decide +kernel
set_option maxRecDepth 10000 in
theorem vX0_copyFrom_0 {κ : eg_K} {d : Nat} (hd : 1 ≤ d) {post : eg_H → Prop} (M : eg_H) {l0 : Nat} (hl0 : l0 < 30) {l1 : Nat} (hl1 : l1 < 30) (h : (∀ M1 : eg_H, M1 = (sI M (0, l0) 0 (M.1 (0, l1) 0)) → (∀ M2 : eg_H, M2 = (sI M1 (0, l0) 1 (M1.1 (0, l1) 1)) → (∀ M3 : eg_H, M3 = (sI M2 (0, l0) 2 (M2.1 (0, l1) 2)) → (∀ M4 : eg_H, M4 = (sC M3 (20, l1) (20, l0) (0 : Int32).toNatClampNeg (0 : Int32).toNatClampNeg (5 : Int32).toNatClampNeg) → post M4))))) : eg_W κ gC mtX0_copyFrom d (eQV κ gC post) 0 [(0, vR (0, l0)), (1, vR (0, l1))] [] M := by
  refine eg_aload_n 0 dX0_copyFrom_0 rfl rfl ?_
  refine eg_aload_n 1 dX0_copyFrom_1 rfl rfl ?_
  refine eg_getI dX0_copyFrom_2 fl_0_15 rfl trivial (obC_0 hl1) ?_
  refine en_putI dX0_copyFrom_5 fl_0_15 rfl rfl (obC_0 hl0) (fun M1 eM1 => ?_)
  have h := h M1 eM1
  refine eg_aload_n 0 dX0_copyFrom_8 rfl rfl ?_
  refine eg_aload_n 1 dX0_copyFrom_9 rfl rfl ?_
  refine eg_getI dX0_copyFrom_10 fl_0_19 rfl trivial (obC_0 hl1) ?_
  refine en_putI dX0_copyFrom_13 fl_0_19 rfl rfl (obC_0 hl0) (fun M2 eM2 => ?_)
  have h := h M2 eM2
  refine eg_aload_n 0 dX0_copyFrom_16 rfl rfl ?_
  refine eg_aload_n 1 dX0_copyFrom_17 rfl rfl ?_
  refine eg_getI dX0_copyFrom_18 fl_0_22 rfl trivial (obC_0 hl1) ?_
  refine en_putI dX0_copyFrom_21 fl_0_22 rfl rfl (obC_0 hl0) (fun M3 eM3 => ?_)
  have h := h M3 eM3
  refine eg_aload_n 1 dX0_copyFrom_24 rfl rfl ?_
  refine eg_getR dX0_copyFrom_25 fl_0_9 rfl rfl (obC_0 hl1) ?_
  show eg_W κ gC mtX0_copyFrom d (eQV κ gC post) 28 [(0, vR (0, l0)), (1, vR (0, l1))] [vR (20, l1)] M3
  refine eg_iconst dX0_copyFrom_28 ic_0 ?_
  refine eg_aload_n 0 dX0_copyFrom_29 rfl rfl ?_
  refine eg_getR dX0_copyFrom_30 fl_0_9 rfl rfl (obC_0 hl0) ?_
  show eg_W κ gC mtX0_copyFrom d (eQV κ gC post) 33 [(0, vR (0, l0)), (1, vR (0, l1))] [vR (20, l0), vI (0 : Int32), vR (20, l1)] M3
  refine eg_iconst dX0_copyFrom_33 ic_0 ?_
  refine eg_iconst dX0_copyFrom_34 ic_5 ?_
  refine en_copy dX0_copyFrom_35 ml_0_25 (anC_20 hl1) (anC_20 hl0) (by decide) (Nat.le_of_ble_eq_true rfl) hd (fun M4 eM4 => ?_)
  have h := h M4 eM4
  exact eg_vreturn dX0_copyFrom_38 rfl h
theorem dX1_clear_0 : decode cX1_clear 0 = .ok (.aload_n 0, 1) := by decide +kernel
theorem dX1_clear_1 : decode cX1_clear 1 = .ok (.iconst 0, 1) := by decide +kernel
theorem dX1_clear_2 : decode cX1_clear 2 = .ok (.putfield 7, 3) := by decide +kernel
theorem dX1_clear_5 : decode cX1_clear 5 = .ok (.aload_n 0, 1) := by decide +kernel
theorem dX1_clear_6 : decode cX1_clear 6 = .ok (.iconst 0, 1) := by decide +kernel
theorem dX1_clear_7 : decode cX1_clear 7 = .ok (.putfield 13, 3) := by decide +kernel
theorem dX1_clear_10 : decode cX1_clear 10 = .ok (.aload_n 0, 1) := by decide +kernel
theorem dX1_clear_11 : decode cX1_clear 11 = .ok (.iconst 0, 1) := by decide +kernel
theorem dX1_clear_12 : decode cX1_clear 12 = .ok (.putfield 16, 3) := by decide +kernel
theorem dX1_clear_15 : decode cX1_clear 15 = .ok (.aload_n 0, 1) := by decide +kernel
theorem dX1_clear_16 : decode cX1_clear 16 = .ok (.iconst 0, 1) := by decide +kernel
theorem dX1_clear_17 : decode cX1_clear 17 = .ok (.putfield 19, 3) := by decide +kernel
theorem dX1_clear_20 : decode cX1_clear 20 = .ok (.return_, 1) := by decide +kernel
set_option maxRecDepth 10000 in
theorem vX1_clear_0 {κ : eg_K} {d : Nat} {post : eg_H → Prop} (M : eg_H) {l0 : Nat} (hl0 : l0 < 10) (h : (∀ M1 : eg_H, M1 = (sI M (1, l0) 3 (0 : Int32)) → (∀ M2 : eg_H, M2 = (sI M1 (1, l0) 4 (0 : Int32)) → (∀ M3 : eg_H, M3 = (sI M2 (1, l0) 5 (0 : Int32)) → (∀ M4 : eg_H, M4 = (sI M3 (1, l0) 6 (0 : Int32)) → post M4))))) : eg_W κ gC mtX1_clear d (eQV κ gC post) 0 [(0, vR (1, l0))] [] M := by
  refine eg_aload_n 0 dX1_clear_0 rfl rfl ?_
  refine eg_iconst dX1_clear_1 ic_0 ?_
  refine en_putI dX1_clear_2 fl_1_7 rfl rfl (obC_1 hl0) (fun M1 eM1 => ?_)
  have h := h M1 eM1
  refine eg_aload_n 0 dX1_clear_5 rfl rfl ?_
  refine eg_iconst dX1_clear_6 ic_0 ?_
  refine en_putI dX1_clear_7 fl_1_13 rfl rfl (obC_1 hl0) (fun M2 eM2 => ?_)
  have h := h M2 eM2
  refine eg_aload_n 0 dX1_clear_10 rfl rfl ?_
  refine eg_iconst dX1_clear_11 ic_0 ?_
  refine en_putI dX1_clear_12 fl_1_16 rfl rfl (obC_1 hl0) (fun M3 eM3 => ?_)
  have h := h M3 eM3
  refine eg_aload_n 0 dX1_clear_15 rfl rfl ?_
  refine eg_iconst dX1_clear_16 ic_0 ?_
  refine en_putI dX1_clear_17 fl_1_19 rfl rfl (obC_1 hl0) (fun M4 eM4 => ?_)
  have h := h M4 eM4
  exact eg_vreturn dX1_clear_20 rfl h
theorem dX1_copyFrom_0 : decode cX1_copyFrom 0 = .ok (.aload_n 0, 1) := by decide +kernel
theorem dX1_copyFrom_1 : decode cX1_copyFrom 1 = .ok (.aload_n 1, 1) := by decide +kernel
theorem dX1_copyFrom_2 : decode cX1_copyFrom 2 = .ok (.getfield 22, 3) := by decide +kernel
theorem dX1_copyFrom_5 : decode cX1_copyFrom 5 = .ok (.putfield 22, 3) := by decide +kernel
theorem dX1_copyFrom_8 : decode cX1_copyFrom 8 = .ok (.aload_n 0, 1) := by decide +kernel
theorem dX1_copyFrom_9 : decode cX1_copyFrom 9 = .ok (.aload_n 1, 1) := by decide +kernel
theorem dX1_copyFrom_10 : decode cX1_copyFrom 10 = .ok (.getfield 25, 3) := by decide +kernel
theorem dX1_copyFrom_13 : decode cX1_copyFrom 13 = .ok (.putfield 25, 3) := by decide +kernel
theorem dX1_copyFrom_16 : decode cX1_copyFrom 16 = .ok (.aload_n 0, 1) := by decide +kernel
theorem dX1_copyFrom_17 : decode cX1_copyFrom 17 = .ok (.aload_n 1, 1) := by decide +kernel
theorem dX1_copyFrom_18 : decode cX1_copyFrom 18 = .ok (.getfield 28, 3) := by decide +kernel
theorem dX1_copyFrom_21 : decode cX1_copyFrom 21 = .ok (.putfield 28, 3) := by decide +kernel
theorem dX1_copyFrom_24 : decode cX1_copyFrom 24 = .ok (.aload_n 0, 1) := by decide +kernel
theorem dX1_copyFrom_25 : decode cX1_copyFrom 25 = .ok (.aload_n 1, 1) := by decide +kernel
theorem dX1_copyFrom_26 : decode cX1_copyFrom 26 = .ok (.getfield 7, 3) := by decide +kernel
theorem dX1_copyFrom_29 : decode cX1_copyFrom 29 = .ok (.putfield 7, 3) := by decide +kernel
theorem dX1_copyFrom_32 : decode cX1_copyFrom 32 = .ok (.aload_n 0, 1) := by decide +kernel
theorem dX1_copyFrom_33 : decode cX1_copyFrom 33 = .ok (.aload_n 1, 1) := by decide +kernel
theorem dX1_copyFrom_34 : decode cX1_copyFrom 34 = .ok (.getfield 13, 3) := by decide +kernel
theorem dX1_copyFrom_37 : decode cX1_copyFrom 37 = .ok (.putfield 13, 3) := by decide +kernel
theorem dX1_copyFrom_40 : decode cX1_copyFrom 40 = .ok (.aload_n 0, 1) := by decide +kernel
theorem dX1_copyFrom_41 : decode cX1_copyFrom 41 = .ok (.aload_n 1, 1) := by decide +kernel
theorem dX1_copyFrom_42 : decode cX1_copyFrom 42 = .ok (.getfield 16, 3) := by decide +kernel
theorem dX1_copyFrom_45 : decode cX1_copyFrom 45 = .ok (.putfield 16, 3) := by decide +kernel
theorem dX1_copyFrom_48 : decode cX1_copyFrom 48 = .ok (.aload_n 0, 1) := by decide +kernel
theorem dX1_copyFrom_49 : decode cX1_copyFrom 49 = .ok (.aload_n 1, 1) := by decide +kernel
theorem dX1_copyFrom_50 : decode cX1_copyFrom 50 = .ok (.getfield 19, 3) := by decide +kernel
theorem dX1_copyFrom_53 : decode cX1_copyFrom 53 = .ok (.putfield 19, 3) := by decide +kernel
theorem dX1_copyFrom_56 : decode cX1_copyFrom 56 = .ok (.return_, 1) := by decide +kernel
set_option maxRecDepth 10000 in
theorem vX1_copyFrom_0 {κ : eg_K} {d : Nat} {post : eg_H → Prop} (M : eg_H) {l0 : Nat} (hl0 : l0 < 10) {l1 : Nat} (hl1 : l1 < 10) (h : (∀ M1 : eg_H, M1 = (sI M (1, l0) 0 (M.1 (1, l1) 0)) → (∀ M2 : eg_H, M2 = (sI M1 (1, l0) 1 (M1.1 (1, l1) 1)) → (∀ M3 : eg_H, M3 = (sI M2 (1, l0) 2 (M2.1 (1, l1) 2)) → (∀ M4 : eg_H, M4 = (sI M3 (1, l0) 3 (M3.1 (1, l1) 3)) → (∀ M5 : eg_H, M5 = (sI M4 (1, l0) 4 (M4.1 (1, l1) 4)) → (∀ M6 : eg_H, M6 = (sI M5 (1, l0) 5 (M5.1 (1, l1) 5)) → (∀ M7 : eg_H, M7 = (sI M6 (1, l0) 6 (M6.1 (1, l1) 6)) → post M7)))))))) : eg_W κ gC mtX1_copyFrom d (eQV κ gC post) 0 [(0, vR (1, l0)), (1, vR (1, l1))] [] M := by
  refine eg_aload_n 0 dX1_copyFrom_0 rfl rfl ?_
  refine eg_aload_n 1 dX1_copyFrom_1 rfl rfl ?_
  refine eg_getI dX1_copyFrom_2 fl_1_22 rfl trivial (obC_1 hl1) ?_
  refine en_putI dX1_copyFrom_5 fl_1_22 rfl rfl (obC_1 hl0) (fun M1 eM1 => ?_)
  have h := h M1 eM1
  refine eg_aload_n 0 dX1_copyFrom_8 rfl rfl ?_
  refine eg_aload_n 1 dX1_copyFrom_9 rfl rfl ?_
  refine eg_getI dX1_copyFrom_10 fl_1_25 rfl trivial (obC_1 hl1) ?_
  refine en_putI dX1_copyFrom_13 fl_1_25 rfl rfl (obC_1 hl0) (fun M2 eM2 => ?_)
  have h := h M2 eM2
  refine eg_aload_n 0 dX1_copyFrom_16 rfl rfl ?_
  refine eg_aload_n 1 dX1_copyFrom_17 rfl rfl ?_
  refine eg_getI dX1_copyFrom_18 fl_1_28 rfl trivial (obC_1 hl1) ?_
  refine en_putI dX1_copyFrom_21 fl_1_28 rfl rfl (obC_1 hl0) (fun M3 eM3 => ?_)
  have h := h M3 eM3
  refine eg_aload_n 0 dX1_copyFrom_24 rfl rfl ?_
  refine eg_aload_n 1 dX1_copyFrom_25 rfl rfl ?_
  refine eg_getI dX1_copyFrom_26 fl_1_7 rfl trivial (obC_1 hl1) ?_
  refine en_putI dX1_copyFrom_29 fl_1_7 rfl rfl (obC_1 hl0) (fun M4 eM4 => ?_)
  have h := h M4 eM4
  refine eg_aload_n 0 dX1_copyFrom_32 rfl rfl ?_
  refine eg_aload_n 1 dX1_copyFrom_33 rfl rfl ?_
  refine eg_getI dX1_copyFrom_34 fl_1_13 rfl trivial (obC_1 hl1) ?_
  refine en_putI dX1_copyFrom_37 fl_1_13 rfl rfl (obC_1 hl0) (fun M5 eM5 => ?_)
  have h := h M5 eM5
  refine eg_aload_n 0 dX1_copyFrom_40 rfl rfl ?_
  refine eg_aload_n 1 dX1_copyFrom_41 rfl rfl ?_
  refine eg_getI dX1_copyFrom_42 fl_1_16 rfl trivial (obC_1 hl1) ?_
  refine en_putI dX1_copyFrom_45 fl_1_16 rfl rfl (obC_1 hl0) (fun M6 eM6 => ?_)
  have h := h M6 eM6
  refine eg_aload_n 0 dX1_copyFrom_48 rfl rfl ?_
  refine eg_aload_n 1 dX1_copyFrom_49 rfl rfl ?_
  refine eg_getI dX1_copyFrom_50 fl_1_19 rfl trivial (obC_1 hl1) ?_
  refine en_putI dX1_copyFrom_53 fl_1_19 rfl rfl (obC_1 hl0) (fun M7 eM7 => ?_)
  have h := h M7 eM7
  exact eg_vreturn dX1_copyFrom_56 rfl h
theorem dX2_begin_0 : decode cX2_begin 0 = .ok (.aload_n 0, 1) := by decide +kernel
theorem dX2_begin_1 : decode cX2_begin 1 = .ok (.iconst 0, 1) := by decide +kernel
theorem dX2_begin_2 : decode cX2_begin 2 = .ok (.putfield 15, 3) := by decide +kernel
theorem dX2_begin_5 : decode cX2_begin 5 = .ok (.aload_n 1, 1) := by decide +kernel
theorem dX2_begin_6 : decode cX2_begin 6 = .ok (.getfield 19, 3) := by decide +kernel
theorem dX2_begin_9 : decode cX2_begin 9 = .ok (.iconst 0, 1) := by decide +kernel
theorem dX2_begin_10 : decode cX2_begin 10 = .ok (.aload_n 0, 1) := by decide +kernel
theorem dX2_begin_11 : decode cX2_begin 11 = .ok (.getfield 9, 3) := by decide +kernel
theorem dX2_begin_14 : decode cX2_begin 14 = .ok (.iconst 0, 1) := by decide +kernel
theorem dX2_begin_15 : decode cX2_begin 15 = .ok (.iconst 5, 1) := by decide +kernel
theorem dX2_begin_16 : decode cX2_begin 16 = .ok (.invokestatic 22, 3) := by decide +kernel
theorem dX2_begin_19 : decode cX2_begin 19 = .ok (.aload_n 0, 1) := by decide +kernel
theorem dX2_begin_20 : decode cX2_begin 20 = .ok (.iconst (-1), 1) := by decide +kernel
theorem dX2_begin_21 : decode cX2_begin 21 = .ok (.putfield 28, 3) := by decide +kernel
theorem dX2_begin_24 : decode cX2_begin 24 = .ok (.aload_n 0, 1) := by decide +kernel
theorem dX2_begin_25 : decode cX2_begin 25 = .ok (.iconst 0, 1) := by decide +kernel
theorem dX2_begin_26 : decode cX2_begin 26 = .ok (.putfield 31, 3) := by decide +kernel
theorem dX2_begin_29 : decode cX2_begin 29 = .ok (.aload_n 0, 1) := by decide +kernel
theorem dX2_begin_30 : decode cX2_begin 30 = .ok (.iconst 0, 1) := by decide +kernel
theorem dX2_begin_31 : decode cX2_begin 31 = .ok (.putfield 34, 3) := by decide +kernel
theorem dX2_begin_34 : decode cX2_begin 34 = .ok (.aload_n 0, 1) := by decide +kernel
theorem dX2_begin_35 : decode cX2_begin 35 = .ok (.iconst 0, 1) := by decide +kernel
theorem dX2_begin_36 : decode cX2_begin 36 = .ok (.putfield 37, 3) := by decide +kernel
theorem dX2_begin_39 : decode cX2_begin 39 = .ok (.aload_n 0, 1) := by decide +kernel
theorem dX2_begin_40 : decode cX2_begin 40 = .ok (.iconst 0, 1) := by decide +kernel
theorem dX2_begin_41 : decode cX2_begin 41 = .ok (.putfield 40, 3) := by decide +kernel
theorem dX2_begin_44 : decode cX2_begin 44 = .ok (.aload_n 0, 1) := by decide +kernel
theorem dX2_begin_45 : decode cX2_begin 45 = .ok (.iconst 0, 1) := by decide +kernel
theorem dX2_begin_46 : decode cX2_begin 46 = .ok (.putfield 43, 3) := by decide +kernel
theorem dX2_begin_49 : decode cX2_begin 49 = .ok (.aload_n 0, 1) := by decide +kernel
theorem dX2_begin_50 : decode cX2_begin 50 = .ok (.iconst 0, 1) := by decide +kernel
theorem dX2_begin_51 : decode cX2_begin 51 = .ok (.putfield 46, 3) := by decide +kernel
theorem dX2_begin_54 : decode cX2_begin 54 = .ok (.aload_n 0, 1) := by decide +kernel
theorem dX2_begin_55 : decode cX2_begin 55 = .ok (.aload_n 1, 1) := by decide +kernel
theorem dX2_begin_56 : decode cX2_begin 56 = .ok (.invokevirtual 49, 3) := by decide +kernel
theorem dX2_begin_59 : decode cX2_begin 59 = .ok (.return_, 1) := by decide +kernel
set_option maxRecDepth 10000 in
theorem vX2_begin_0 {κ : eg_K} {d : Nat} (hd : 1 ≤ d) {post : eg_H → Prop} (M : eg_H) {l0 : Nat} (hl0 : l0 < 60) {l1 : Nat} (hl1 : l1 < 30) (h : (∀ M1 : eg_H, M1 = (sI M (2, l0) 0 (0 : Int32)) → (∀ M2 : eg_H, M2 = (sC M1 (20, l1) (22, l0) (0 : Int32).toNatClampNeg (0 : Int32).toNatClampNeg (5 : Int32).toNatClampNeg) → (∀ M3 : eg_H, M3 = (sI M2 (2, l0) 6 (-1 : Int32)) → (∀ M4 : eg_H, M4 = (sI M3 (2, l0) 7 (0 : Int32)) → (∀ M5 : eg_H, M5 = (sI M4 (2, l0) 8 (0 : Int32)) → (∀ M6 : eg_H, M6 = (sI M5 (2, l0) 9 (0 : Int32)) → (∀ M7 : eg_H, M7 = (sI M6 (2, l0) 10 (0 : Int32)) → (∀ M8 : eg_H, M8 = (sI M7 (2, l0) 11 (0 : Int32)) → (∀ M9 : eg_H, M9 = (sI M8 (2, l0) 12 (0 : Int32)) → eCV κ gC mtX2_clearPlate d [vR (2, l0), vR (0, l1)] M9 (fun M10 => post M10))))))))))) : eg_W κ gC mtX2_begin d (eQV κ gC post) 0 [(0, vR (2, l0)), (1, vR (0, l1))] [] M := by
  refine eg_aload_n 0 dX2_begin_0 rfl rfl ?_
  refine eg_iconst dX2_begin_1 ic_0 ?_
  refine en_putI dX2_begin_2 fl_2_15 rfl rfl (obC_2 hl0) (fun M1 eM1 => ?_)
  have h := h M1 eM1
  refine eg_aload_n 1 dX2_begin_5 rfl rfl ?_
  refine eg_getR dX2_begin_6 fl_2_19 rfl rfl (obC_0 hl1) ?_
  show eg_W κ gC mtX2_begin d (eQV κ gC post) 9 [(0, vR (2, l0)), (1, vR (0, l1))] [vR (20, l1)] M1
  refine eg_iconst dX2_begin_9 ic_0 ?_
  refine eg_aload_n 0 dX2_begin_10 rfl rfl ?_
  refine eg_getR dX2_begin_11 fl_2_9 rfl rfl (obC_2 hl0) ?_
  show eg_W κ gC mtX2_begin d (eQV κ gC post) 14 [(0, vR (2, l0)), (1, vR (0, l1))] [vR (22, l0), vI (0 : Int32), vR (20, l1)] M1
  refine eg_iconst dX2_begin_14 ic_0 ?_
  refine eg_iconst dX2_begin_15 ic_5 ?_
  refine en_copy dX2_begin_16 ml_2_22 (anC_20 hl1) (anC_22 hl0) (by decide) (Nat.le_of_ble_eq_true rfl) hd (fun M2 eM2 => ?_)
  have h := h M2 eM2
  refine eg_aload_n 0 dX2_begin_19 rfl rfl ?_
  refine eg_iconst dX2_begin_20 ic_m1 ?_
  refine en_putI dX2_begin_21 fl_2_28 rfl rfl (obC_2 hl0) (fun M3 eM3 => ?_)
  have h := h M3 eM3
  refine eg_aload_n 0 dX2_begin_24 rfl rfl ?_
  refine eg_iconst dX2_begin_25 ic_0 ?_
  refine en_putI dX2_begin_26 fl_2_31 rfl rfl (obC_2 hl0) (fun M4 eM4 => ?_)
  have h := h M4 eM4
  refine eg_aload_n 0 dX2_begin_29 rfl rfl ?_
  refine eg_iconst dX2_begin_30 ic_0 ?_
  refine en_putI dX2_begin_31 fl_2_34 rfl rfl (obC_2 hl0) (fun M5 eM5 => ?_)
  have h := h M5 eM5
  refine eg_aload_n 0 dX2_begin_34 rfl rfl ?_
  refine eg_iconst dX2_begin_35 ic_0 ?_
  refine en_putI dX2_begin_36 fl_2_37 rfl rfl (obC_2 hl0) (fun M6 eM6 => ?_)
  have h := h M6 eM6
  refine eg_aload_n 0 dX2_begin_39 rfl rfl ?_
  refine eg_iconst dX2_begin_40 ic_0 ?_
  refine en_putI dX2_begin_41 fl_2_40 rfl rfl (obC_2 hl0) (fun M7 eM7 => ?_)
  have h := h M7 eM7
  refine eg_aload_n 0 dX2_begin_44 rfl rfl ?_
  refine eg_iconst dX2_begin_45 ic_0 ?_
  refine en_putI dX2_begin_46 fl_2_43 rfl rfl (obC_2 hl0) (fun M8 eM8 => ?_)
  have h := h M8 eM8
  refine eg_aload_n 0 dX2_begin_49 rfl rfl ?_
  refine eg_iconst dX2_begin_50 ic_0 ?_
  refine en_putI dX2_begin_51 fl_2_46 rfl rfl (obC_2 hl0) (fun M9 eM9 => ?_)
  have h := h M9 eM9
  refine eg_aload_n 0 dX2_begin_54 rfl rfl ?_
  refine eg_aload_n 1 dX2_begin_55 rfl rfl ?_
  obtain ⟨q11, hq11, h⟩ := h
  refine eg_callVV (av := [vR (0, l1)]) (st := []) dX2_begin_56 ml_2_49 rfl rfl (obC_2 hl0) (by decide) rfl (Nat.le_of_ble_eq_true rfl) (eg_dd hd) hq11 (fun M10 hp => ?_)
  have h := h M10 hp
  exact eg_vreturn dX2_begin_59 rfl h
theorem dX2_clearPlate_0 : decode cX2_clearPlate 0 = .ok (.aload_n 0, 1) := by decide +kernel
theorem dX2_clearPlate_1 : decode cX2_clearPlate 1 = .ok (.iconst (-1), 1) := by decide +kernel
theorem dX2_clearPlate_2 : decode cX2_clearPlate 2 = .ok (.putfield 53, 3) := by decide +kernel
theorem dX2_clearPlate_5 : decode cX2_clearPlate 5 = .ok (.aload_n 0, 1) := by decide +kernel
theorem dX2_clearPlate_6 : decode cX2_clearPlate 6 = .ok (.aload_n 1, 1) := by decide +kernel
theorem dX2_clearPlate_7 : decode cX2_clearPlate 7 = .ok (.getfield 56, 3) := by decide +kernel
theorem dX2_clearPlate_10 : decode cX2_clearPlate 10 = .ok (.putfield 59, 3) := by decide +kernel
theorem dX2_clearPlate_13 : decode cX2_clearPlate 13 = .ok (.aload_n 0, 1) := by decide +kernel
theorem dX2_clearPlate_14 : decode cX2_clearPlate 14 = .ok (.iconst 0, 1) := by decide +kernel
theorem dX2_clearPlate_15 : decode cX2_clearPlate 15 = .ok (.putfield 62, 3) := by decide +kernel
theorem dX2_clearPlate_18 : decode cX2_clearPlate 18 = .ok (.aload_n 0, 1) := by decide +kernel
theorem dX2_clearPlate_19 : decode cX2_clearPlate 19 = .ok (.iconst 0, 1) := by decide +kernel
theorem dX2_clearPlate_20 : decode cX2_clearPlate 20 = .ok (.putfield 65, 3) := by decide +kernel
theorem dX2_clearPlate_23 : decode cX2_clearPlate 23 = .ok (.return_, 1) := by decide +kernel
set_option maxRecDepth 10000 in
theorem vX2_clearPlate_0 {κ : eg_K} {d : Nat} {post : eg_H → Prop} (M : eg_H) {l0 : Nat} (hl0 : l0 < 60) {l1 : Nat} (hl1 : l1 < 30) (h : (∀ M1 : eg_H, M1 = (sI M (2, l0) 1 (-1 : Int32)) → (∀ M2 : eg_H, M2 = (sI M1 (2, l0) 2 (M1.1 (0, l1) 2)) → (∀ M3 : eg_H, M3 = (sI M2 (2, l0) 4 (0 : Int32)) → (∀ M4 : eg_H, M4 = (sI M3 (2, l0) 5 (0 : Int32)) → post M4))))) : eg_W κ gC mtX2_clearPlate d (eQV κ gC post) 0 [(0, vR (2, l0)), (1, vR (0, l1))] [] M := by
  refine eg_aload_n 0 dX2_clearPlate_0 rfl rfl ?_
  refine eg_iconst dX2_clearPlate_1 ic_m1 ?_
  refine en_putI dX2_clearPlate_2 fl_2_53 rfl rfl (obC_2 hl0) (fun M1 eM1 => ?_)
  have h := h M1 eM1
  refine eg_aload_n 0 dX2_clearPlate_5 rfl rfl ?_
  refine eg_aload_n 1 dX2_clearPlate_6 rfl rfl ?_
  refine eg_getI dX2_clearPlate_7 fl_2_56 rfl trivial (obC_0 hl1) ?_
  refine en_putI dX2_clearPlate_10 fl_2_59 rfl rfl (obC_2 hl0) (fun M2 eM2 => ?_)
  have h := h M2 eM2
  refine eg_aload_n 0 dX2_clearPlate_13 rfl rfl ?_
  refine eg_iconst dX2_clearPlate_14 ic_0 ?_
  refine en_putI dX2_clearPlate_15 fl_2_62 rfl rfl (obC_2 hl0) (fun M3 eM3 => ?_)
  have h := h M3 eM3
  refine eg_aload_n 0 dX2_clearPlate_18 rfl rfl ?_
  refine eg_iconst dX2_clearPlate_19 ic_0 ?_
  refine en_putZ dX2_clearPlate_20 fl_2_65 rfl rfl (Or.inl rfl) (obC_2 hl0) (fun M4 eM4 => ?_)
  have h := h M4 eM4
  exact eg_vreturn dX2_clearPlate_23 rfl h
theorem dX2_copyFrom_0 : decode cX2_copyFrom 0 = .ok (.aload_n 0, 1) := by decide +kernel
theorem dX2_copyFrom_1 : decode cX2_copyFrom 1 = .ok (.aload_n 1, 1) := by decide +kernel
theorem dX2_copyFrom_2 : decode cX2_copyFrom 2 = .ok (.getfield 15, 3) := by decide +kernel
theorem dX2_copyFrom_5 : decode cX2_copyFrom 5 = .ok (.putfield 15, 3) := by decide +kernel
theorem dX2_copyFrom_8 : decode cX2_copyFrom 8 = .ok (.aload_n 0, 1) := by decide +kernel
theorem dX2_copyFrom_9 : decode cX2_copyFrom 9 = .ok (.aload_n 1, 1) := by decide +kernel
theorem dX2_copyFrom_10 : decode cX2_copyFrom 10 = .ok (.getfield 53, 3) := by decide +kernel
theorem dX2_copyFrom_13 : decode cX2_copyFrom 13 = .ok (.putfield 53, 3) := by decide +kernel
theorem dX2_copyFrom_16 : decode cX2_copyFrom 16 = .ok (.aload_n 0, 1) := by decide +kernel
theorem dX2_copyFrom_17 : decode cX2_copyFrom 17 = .ok (.aload_n 1, 1) := by decide +kernel
theorem dX2_copyFrom_18 : decode cX2_copyFrom 18 = .ok (.getfield 59, 3) := by decide +kernel
theorem dX2_copyFrom_21 : decode cX2_copyFrom 21 = .ok (.putfield 59, 3) := by decide +kernel
theorem dX2_copyFrom_24 : decode cX2_copyFrom 24 = .ok (.aload_n 1, 1) := by decide +kernel
theorem dX2_copyFrom_25 : decode cX2_copyFrom 25 = .ok (.getfield 9, 3) := by decide +kernel
theorem dX2_copyFrom_28 : decode cX2_copyFrom 28 = .ok (.iconst 0, 1) := by decide +kernel
theorem dX2_copyFrom_29 : decode cX2_copyFrom 29 = .ok (.aload_n 0, 1) := by decide +kernel
theorem dX2_copyFrom_30 : decode cX2_copyFrom 30 = .ok (.getfield 9, 3) := by decide +kernel
theorem dX2_copyFrom_33 : decode cX2_copyFrom 33 = .ok (.iconst 0, 1) := by decide +kernel
theorem dX2_copyFrom_34 : decode cX2_copyFrom 34 = .ok (.iconst 5, 1) := by decide +kernel
theorem dX2_copyFrom_35 : decode cX2_copyFrom 35 = .ok (.invokestatic 22, 3) := by decide +kernel
theorem dX2_copyFrom_38 : decode cX2_copyFrom 38 = .ok (.aload_n 0, 1) := by decide +kernel
theorem dX2_copyFrom_39 : decode cX2_copyFrom 39 = .ok (.aload_n 1, 1) := by decide +kernel
theorem dX2_copyFrom_40 : decode cX2_copyFrom 40 = .ok (.getfield 62, 3) := by decide +kernel
theorem dX2_copyFrom_43 : decode cX2_copyFrom 43 = .ok (.putfield 62, 3) := by decide +kernel
theorem dX2_copyFrom_46 : decode cX2_copyFrom 46 = .ok (.aload_n 0, 1) := by decide +kernel
theorem dX2_copyFrom_47 : decode cX2_copyFrom 47 = .ok (.aload_n 1, 1) := by decide +kernel
theorem dX2_copyFrom_48 : decode cX2_copyFrom 48 = .ok (.getfield 65, 3) := by decide +kernel
theorem dX2_copyFrom_51 : decode cX2_copyFrom 51 = .ok (.putfield 65, 3) := by decide +kernel
theorem dX2_copyFrom_54 : decode cX2_copyFrom 54 = .ok (.aload_n 0, 1) := by decide +kernel
theorem dX2_copyFrom_55 : decode cX2_copyFrom 55 = .ok (.aload_n 1, 1) := by decide +kernel
theorem dX2_copyFrom_56 : decode cX2_copyFrom 56 = .ok (.getfield 28, 3) := by decide +kernel
theorem dX2_copyFrom_59 : decode cX2_copyFrom 59 = .ok (.putfield 28, 3) := by decide +kernel
theorem dX2_copyFrom_62 : decode cX2_copyFrom 62 = .ok (.aload_n 0, 1) := by decide +kernel
theorem dX2_copyFrom_63 : decode cX2_copyFrom 63 = .ok (.aload_n 1, 1) := by decide +kernel
theorem dX2_copyFrom_64 : decode cX2_copyFrom 64 = .ok (.getfield 31, 3) := by decide +kernel
theorem dX2_copyFrom_67 : decode cX2_copyFrom 67 = .ok (.putfield 31, 3) := by decide +kernel
theorem dX2_copyFrom_70 : decode cX2_copyFrom 70 = .ok (.aload_n 0, 1) := by decide +kernel
theorem dX2_copyFrom_71 : decode cX2_copyFrom 71 = .ok (.aload_n 1, 1) := by decide +kernel
theorem dX2_copyFrom_72 : decode cX2_copyFrom 72 = .ok (.getfield 34, 3) := by decide +kernel
theorem dX2_copyFrom_75 : decode cX2_copyFrom 75 = .ok (.putfield 34, 3) := by decide +kernel
theorem dX2_copyFrom_78 : decode cX2_copyFrom 78 = .ok (.aload_n 0, 1) := by decide +kernel
theorem dX2_copyFrom_79 : decode cX2_copyFrom 79 = .ok (.aload_n 1, 1) := by decide +kernel
theorem dX2_copyFrom_80 : decode cX2_copyFrom 80 = .ok (.getfield 37, 3) := by decide +kernel
theorem dX2_copyFrom_83 : decode cX2_copyFrom 83 = .ok (.putfield 37, 3) := by decide +kernel
theorem dX2_copyFrom_86 : decode cX2_copyFrom 86 = .ok (.aload_n 0, 1) := by decide +kernel
theorem dX2_copyFrom_87 : decode cX2_copyFrom 87 = .ok (.aload_n 1, 1) := by decide +kernel
theorem dX2_copyFrom_88 : decode cX2_copyFrom 88 = .ok (.getfield 40, 3) := by decide +kernel
theorem dX2_copyFrom_91 : decode cX2_copyFrom 91 = .ok (.putfield 40, 3) := by decide +kernel
theorem dX2_copyFrom_94 : decode cX2_copyFrom 94 = .ok (.aload_n 0, 1) := by decide +kernel
theorem dX2_copyFrom_95 : decode cX2_copyFrom 95 = .ok (.aload_n 1, 1) := by decide +kernel
theorem dX2_copyFrom_96 : decode cX2_copyFrom 96 = .ok (.getfield 43, 3) := by decide +kernel
theorem dX2_copyFrom_99 : decode cX2_copyFrom 99 = .ok (.putfield 43, 3) := by decide +kernel
theorem dX2_copyFrom_102 : decode cX2_copyFrom 102 = .ok (.aload_n 0, 1) := by decide +kernel
theorem dX2_copyFrom_103 : decode cX2_copyFrom 103 = .ok (.aload_n 1, 1) := by decide +kernel
theorem dX2_copyFrom_104 : decode cX2_copyFrom 104 = .ok (.getfield 46, 3) := by decide +kernel
theorem dX2_copyFrom_107 : decode cX2_copyFrom 107 = .ok (.putfield 46, 3) := by decide +kernel
theorem dX2_copyFrom_110 : decode cX2_copyFrom 110 = .ok (.return_, 1) := by decide +kernel
set_option maxRecDepth 10000 in
theorem vX2_copyFrom_0 {κ : eg_K} {d : Nat} (hd : 1 ≤ d) {post : eg_H → Prop} (M : eg_H) {l0 : Nat} (hl0 : l0 < 60) {l1 : Nat} (hl1 : l1 < 60) (h : (∀ M1 : eg_H, M1 = (sI M (2, l0) 0 (M.1 (2, l1) 0)) → (∀ M2 : eg_H, M2 = (sI M1 (2, l0) 1 (M1.1 (2, l1) 1)) → (∀ M3 : eg_H, M3 = (sI M2 (2, l0) 2 (M2.1 (2, l1) 2)) → (∀ M4 : eg_H, M4 = (sC M3 (22, l1) (22, l0) (0 : Int32).toNatClampNeg (0 : Int32).toNatClampNeg (5 : Int32).toNatClampNeg) → (∀ M5 : eg_H, M5 = (sI M4 (2, l0) 4 (M4.1 (2, l1) 4)) → (((M5.1 (2, l1) 5) = 0 ∨ (M5.1 (2, l1) 5) = 1) ∧ (∀ M6 : eg_H, M6 = (sI M5 (2, l0) 5 (M5.1 (2, l1) 5)) → (∀ M8 : eg_H, M8 = (sI M6 (2, l0) 6 (M6.1 (2, l1) 6)) → (∀ M9 : eg_H, M9 = (sI M8 (2, l0) 7 (M8.1 (2, l1) 7)) → (∀ M10 : eg_H, M10 = (sI M9 (2, l0) 8 (M9.1 (2, l1) 8)) → (∀ M11 : eg_H, M11 = (sI M10 (2, l0) 9 (M10.1 (2, l1) 9)) → (∀ M12 : eg_H, M12 = (sI M11 (2, l0) 10 (M11.1 (2, l1) 10)) → (∀ M13 : eg_H, M13 = (sI M12 (2, l0) 11 (M12.1 (2, l1) 11)) → (∀ M14 : eg_H, M14 = (sI M13 (2, l0) 12 (M13.1 (2, l1) 12)) → post M14))))))))))))))) : eg_W κ gC mtX2_copyFrom d (eQV κ gC post) 0 [(0, vR (2, l0)), (1, vR (2, l1))] [] M := by
  refine eg_aload_n 0 dX2_copyFrom_0 rfl rfl ?_
  refine eg_aload_n 1 dX2_copyFrom_1 rfl rfl ?_
  refine eg_getI dX2_copyFrom_2 fl_2_15 rfl trivial (obC_2 hl1) ?_
  refine en_putI dX2_copyFrom_5 fl_2_15 rfl rfl (obC_2 hl0) (fun M1 eM1 => ?_)
  have h := h M1 eM1
  refine eg_aload_n 0 dX2_copyFrom_8 rfl rfl ?_
  refine eg_aload_n 1 dX2_copyFrom_9 rfl rfl ?_
  refine eg_getI dX2_copyFrom_10 fl_2_53 rfl trivial (obC_2 hl1) ?_
  refine en_putI dX2_copyFrom_13 fl_2_53 rfl rfl (obC_2 hl0) (fun M2 eM2 => ?_)
  have h := h M2 eM2
  refine eg_aload_n 0 dX2_copyFrom_16 rfl rfl ?_
  refine eg_aload_n 1 dX2_copyFrom_17 rfl rfl ?_
  refine eg_getI dX2_copyFrom_18 fl_2_59 rfl trivial (obC_2 hl1) ?_
  refine en_putI dX2_copyFrom_21 fl_2_59 rfl rfl (obC_2 hl0) (fun M3 eM3 => ?_)
  have h := h M3 eM3
  refine eg_aload_n 1 dX2_copyFrom_24 rfl rfl ?_
  refine eg_getR dX2_copyFrom_25 fl_2_9 rfl rfl (obC_2 hl1) ?_
  show eg_W κ gC mtX2_copyFrom d (eQV κ gC post) 28 [(0, vR (2, l0)), (1, vR (2, l1))] [vR (22, l1)] M3
  refine eg_iconst dX2_copyFrom_28 ic_0 ?_
  refine eg_aload_n 0 dX2_copyFrom_29 rfl rfl ?_
  refine eg_getR dX2_copyFrom_30 fl_2_9 rfl rfl (obC_2 hl0) ?_
  show eg_W κ gC mtX2_copyFrom d (eQV κ gC post) 33 [(0, vR (2, l0)), (1, vR (2, l1))] [vR (22, l0), vI (0 : Int32), vR (22, l1)] M3
  refine eg_iconst dX2_copyFrom_33 ic_0 ?_
  refine eg_iconst dX2_copyFrom_34 ic_5 ?_
  refine en_copy dX2_copyFrom_35 ml_2_22 (anC_22 hl1) (anC_22 hl0) (by decide) (Nat.le_of_ble_eq_true rfl) hd (fun M4 eM4 => ?_)
  have h := h M4 eM4
  refine eg_aload_n 0 dX2_copyFrom_38 rfl rfl ?_
  refine eg_aload_n 1 dX2_copyFrom_39 rfl rfl ?_
  refine eg_getI dX2_copyFrom_40 fl_2_62 rfl trivial (obC_2 hl1) ?_
  refine en_putI dX2_copyFrom_43 fl_2_62 rfl rfl (obC_2 hl0) (fun M5 eM5 => ?_)
  have h := h M5 eM5
  refine eg_aload_n 0 dX2_copyFrom_46 rfl rfl ?_
  refine eg_aload_n 1 dX2_copyFrom_47 rfl rfl ?_
  refine eg_getI dX2_copyFrom_48 fl_2_65 rfl trivial (obC_2 hl1) ?_
  obtain ⟨g7, h⟩ := h
  refine en_putZ dX2_copyFrom_51 fl_2_65 rfl rfl g7 (obC_2 hl0) (fun M6 eM6 => ?_)
  have h := h M6 eM6
  refine eg_aload_n 0 dX2_copyFrom_54 rfl rfl ?_
  refine eg_aload_n 1 dX2_copyFrom_55 rfl rfl ?_
  refine eg_getI dX2_copyFrom_56 fl_2_28 rfl trivial (obC_2 hl1) ?_
  refine en_putI dX2_copyFrom_59 fl_2_28 rfl rfl (obC_2 hl0) (fun M8 eM8 => ?_)
  have h := h M8 eM8
  refine eg_aload_n 0 dX2_copyFrom_62 rfl rfl ?_
  refine eg_aload_n 1 dX2_copyFrom_63 rfl rfl ?_
  refine eg_getI dX2_copyFrom_64 fl_2_31 rfl trivial (obC_2 hl1) ?_
  refine en_putI dX2_copyFrom_67 fl_2_31 rfl rfl (obC_2 hl0) (fun M9 eM9 => ?_)
  have h := h M9 eM9
  refine eg_aload_n 0 dX2_copyFrom_70 rfl rfl ?_
  refine eg_aload_n 1 dX2_copyFrom_71 rfl rfl ?_
  refine eg_getI dX2_copyFrom_72 fl_2_34 rfl trivial (obC_2 hl1) ?_
  refine en_putI dX2_copyFrom_75 fl_2_34 rfl rfl (obC_2 hl0) (fun M10 eM10 => ?_)
  have h := h M10 eM10
  refine eg_aload_n 0 dX2_copyFrom_78 rfl rfl ?_
  refine eg_aload_n 1 dX2_copyFrom_79 rfl rfl ?_
  refine eg_getI dX2_copyFrom_80 fl_2_37 rfl trivial (obC_2 hl1) ?_
  refine en_putI dX2_copyFrom_83 fl_2_37 rfl rfl (obC_2 hl0) (fun M11 eM11 => ?_)
  have h := h M11 eM11
  refine eg_aload_n 0 dX2_copyFrom_86 rfl rfl ?_
  refine eg_aload_n 1 dX2_copyFrom_87 rfl rfl ?_
  refine eg_getI dX2_copyFrom_88 fl_2_40 rfl trivial (obC_2 hl1) ?_
  refine en_putI dX2_copyFrom_91 fl_2_40 rfl rfl (obC_2 hl0) (fun M12 eM12 => ?_)
  have h := h M12 eM12
  refine eg_aload_n 0 dX2_copyFrom_94 rfl rfl ?_
  refine eg_aload_n 1 dX2_copyFrom_95 rfl rfl ?_
  refine eg_getI dX2_copyFrom_96 fl_2_43 rfl trivial (obC_2 hl1) ?_
  refine en_putI dX2_copyFrom_99 fl_2_43 rfl rfl (obC_2 hl0) (fun M13 eM13 => ?_)
  have h := h M13 eM13
  refine eg_aload_n 0 dX2_copyFrom_102 rfl rfl ?_
  refine eg_aload_n 1 dX2_copyFrom_103 rfl rfl ?_
  refine eg_getI dX2_copyFrom_104 fl_2_46 rfl trivial (obC_2 hl1) ?_
  refine en_putI dX2_copyFrom_107 fl_2_46 rfl rfl (obC_2 hl0) (fun M14 eM14 => ?_)
  have h := h M14 eM14
  exact eg_vreturn dX2_copyFrom_110 rfl h
theorem dX2_wantsLeft_0 : decode cX2_wantsLeft 0 = .ok (.iconst 0, 1) := by decide +kernel
theorem dX2_wantsLeft_1 : decode cX2_wantsLeft 1 = .ok (.istore_n 1, 1) := by decide +kernel
theorem dX2_wantsLeft_2 : decode cX2_wantsLeft 2 = .ok (.iconst 0, 1) := by decide +kernel
theorem dX2_wantsLeft_3 : decode cX2_wantsLeft 3 = .ok (.istore_n 2, 1) := by decide +kernel
theorem dX2_wantsLeft_4 : decode cX2_wantsLeft 4 = .ok (.iload_n 2, 1) := by decide +kernel
theorem dX2_wantsLeft_5 : decode cX2_wantsLeft 5 = .ok (.iconst 5, 1) := by decide +kernel
theorem dX2_wantsLeft_6 : decode cX2_wantsLeft 6 = .ok (.if_icmp .ge 18, 3) := by decide +kernel
theorem dX2_wantsLeft_9 : decode cX2_wantsLeft 9 = .ok (.iload_n 1, 1) := by decide +kernel
theorem dX2_wantsLeft_10 : decode cX2_wantsLeft 10 = .ok (.aload_n 0, 1) := by decide +kernel
theorem dX2_wantsLeft_11 : decode cX2_wantsLeft 11 = .ok (.getfield 9, 3) := by decide +kernel
theorem dX2_wantsLeft_14 : decode cX2_wantsLeft 14 = .ok (.iload_n 2, 1) := by decide +kernel
theorem dX2_wantsLeft_15 : decode cX2_wantsLeft 15 = .ok (.iaload, 1) := by decide +kernel
theorem dX2_wantsLeft_16 : decode cX2_wantsLeft 16 = .ok (.iadd, 1) := by decide +kernel
theorem dX2_wantsLeft_17 : decode cX2_wantsLeft 17 = .ok (.istore_n 1, 1) := by decide +kernel
theorem dX2_wantsLeft_18 : decode cX2_wantsLeft 18 = .ok (.iinc 2 1, 3) := by decide +kernel
theorem dX2_wantsLeft_21 : decode cX2_wantsLeft 21 = .ok (.goto (-17), 3) := by decide +kernel
theorem dX2_wantsLeft_24 : decode cX2_wantsLeft 24 = .ok (.iload_n 1, 1) := by decide +kernel
theorem dX2_wantsLeft_25 : decode cX2_wantsLeft 25 = .ok (.ireturn, 1) := by decide +kernel
set_option maxRecDepth 10000 in
theorem vX2_wantsLeft_0 {κ : eg_K} {d : Nat} {post : Int32 → eg_H → Prop} (M : eg_H) {l0 : Nat} (hl0 : l0 < 60) (h : eg_W κ gC mtX2_wantsLeft d (eQI κ gC post) 4 [(0, vR (2, l0)), (1, vI (0 : Int32)), (2, vI (0 : Int32))] [] M) : eg_W κ gC mtX2_wantsLeft d (eQI κ gC post) 0 [(0, vR (2, l0))] [] M := by
  refine eg_iconst dX2_wantsLeft_0 ic_0 ?_
  refine eg_istore_n dX2_wantsLeft_1 rfl (by decide) (ls1 := [(1, vI (0 : Int32)), (0, vR (2, l0))]) rfl ?_
  refine eg_iconst dX2_wantsLeft_2 ic_0 ?_
  refine eg_istore_n dX2_wantsLeft_3 rfl (by decide) (ls1 := [(2, vI (0 : Int32)), (1, vI (0 : Int32)), (0, vR (2, l0))]) rfl ?_
  refine eg_sub [2, 1, 0] rfl ?_
  exact h
set_option maxRecDepth 10000 in
theorem vX2_wantsLeft_4 {κ : eg_K} {d : Nat} {post : Int32 → eg_H → Prop} (M : eg_H) {l0 : Nat} (hl0 : l0 < 60) (l1 : Int32) (l2 : Int32) (h : ((5 : Int32) ≤ l2 → post l1 M) ∧ ((¬ (5 : Int32) ≤ l2) → (vp_in l2 5 ∧ (∀ x3 : Int32, x3 = (l1 + (M.1 (22, l0) l2.toNatClampNeg)) → (∀ x4 : Int32, x4 = (l2 + (1 : Int32)) → eg_W κ gC mtX2_wantsLeft d (eQI κ gC post) 4 [(0, vR (2, l0)), (1, vI x3), (2, vI x4)] [] M))))) : eg_W κ gC mtX2_wantsLeft d (eQI κ gC post) 4 [(0, vR (2, l0)), (1, vI l1), (2, vI l2)] [] M := by
  refine eg_iload_n 2 dX2_wantsLeft_4 rfl rfl ?_
  refine eg_iconst dX2_wantsLeft_5 ic_5 ?_
  refine eg_icmp_ge (tgt := 24) dX2_wantsLeft_6 rfl (fun c1 => ?_) (fun c1 => ?_)
  · have h := h.1 c1
    refine eg_iload_n 1 dX2_wantsLeft_24 rfl rfl ?_
    exact eg_ireturn dX2_wantsLeft_25 rfl h
  · have h := h.2 c1
    refine eg_iload_n 1 dX2_wantsLeft_9 rfl rfl ?_
    refine eg_aload_n 0 dX2_wantsLeft_10 rfl rfl ?_
    refine eg_getR dX2_wantsLeft_11 fl_2_9 rfl rfl (obC_2 hl0) ?_
    show eg_W κ gC mtX2_wantsLeft d (eQI κ gC post) 14 [(0, vR (2, l0)), (1, vI l1), (2, vI l2)] [vR (22, l0), vI l1] M
    refine eg_iload_n 2 dX2_wantsLeft_14 rfl rfl ?_
    obtain ⟨g2, h⟩ := h
    refine eg_iaload dX2_wantsLeft_15 (arC_22 hl0 g2) ?_
    refine eg_iadd dX2_wantsLeft_16 ?_
    refine en_istore_n (f := fun x3 => [(1, vI x3), (0, vR (2, l0)), (2, vI l2)]) dX2_wantsLeft_17 rfl (by decide) rfl (fun x3 ex3 => ?_)
    have h := h x3 ex3
    refine en_iinc (f := fun x4 => [(2, vI x4), (1, vI x3), (0, vR (2, l0))]) 2 dX2_wantsLeft_18 rfl rfl (by decide) rfl (fun x4 ex4 => ?_)
    have h := h x4 ex4
    refine eg_goto (tgt := 4) dX2_wantsLeft_21 rfl ?_
    refine eg_sub [2, 1, 0] rfl ?_
    exact h
theorem dX2_goWithout_0 : decode cX2_goWithout 0 = .ok (.aload_n 0, 1) := by decide +kernel
theorem dX2_goWithout_1 : decode cX2_goWithout 1 = .ok (.getfield 9, 3) := by decide +kernel
theorem dX2_goWithout_4 : decode cX2_goWithout 4 = .ok (.iload_n 1, 1) := by decide +kernel
theorem dX2_goWithout_5 : decode cX2_goWithout 5 = .ok (.iconst 0, 1) := by decide +kernel
theorem dX2_goWithout_6 : decode cX2_goWithout 6 = .ok (.iastore, 1) := by decide +kernel
theorem dX2_goWithout_7 : decode cX2_goWithout 7 = .ok (.aload_n 0, 1) := by decide +kernel
theorem dX2_goWithout_8 : decode cX2_goWithout 8 = .ok (.dup, 1) := by decide +kernel
theorem dX2_goWithout_9 : decode cX2_goWithout 9 = .ok (.getfield 43, 3) := by decide +kernel
theorem dX2_goWithout_12 : decode cX2_goWithout 12 = .ok (.iconst 1, 1) := by decide +kernel
theorem dX2_goWithout_13 : decode cX2_goWithout 13 = .ok (.iadd, 1) := by decide +kernel
theorem dX2_goWithout_14 : decode cX2_goWithout 14 = .ok (.putfield 43, 3) := by decide +kernel
theorem dX2_goWithout_17 : decode cX2_goWithout 17 = .ok (.return_, 1) := by decide +kernel
set_option maxRecDepth 10000 in
theorem vX2_goWithout_0 {κ : eg_K} {d : Nat} {post : eg_H → Prop} (M : eg_H) {l0 : Nat} (hl0 : l0 < 60) (l1 : Int32) (h : (vp_in l1 5 ∧ (∀ M2 : eg_H, M2 = (sI M (22, l0) l1.toNatClampNeg (0 : Int32)) → (∀ M3 : eg_H, M3 = (sI M2 (2, l0) 11 ((M2.1 (2, l0) 11) + (1 : Int32))) → post M3)))) : eg_W κ gC mtX2_goWithout d (eQV κ gC post) 0 [(0, vR (2, l0)), (1, vI l1)] [] M := by
  refine eg_aload_n 0 dX2_goWithout_0 rfl rfl ?_
  refine eg_getR dX2_goWithout_1 fl_2_9 rfl rfl (obC_2 hl0) ?_
  show eg_W κ gC mtX2_goWithout d (eQV κ gC post) 4 [(0, vR (2, l0)), (1, vI l1)] [vR (22, l0)] M
  refine eg_iload_n 1 dX2_goWithout_4 rfl rfl ?_
  refine eg_iconst dX2_goWithout_5 ic_0 ?_
  obtain ⟨g1, h⟩ := h
  refine en_iastore dX2_goWithout_6 (arC_22 hl0 g1) (fun M2 eM2 => ?_)
  have h := h M2 eM2
  refine eg_aload_n 0 dX2_goWithout_7 rfl rfl ?_
  refine eg_dup dX2_goWithout_8 rfl ?_
  refine eg_getI dX2_goWithout_9 fl_2_43 rfl trivial (obC_2 hl0) ?_
  refine eg_iconst dX2_goWithout_12 ic_1 ?_
  refine eg_iadd dX2_goWithout_13 ?_
  refine en_putI dX2_goWithout_14 fl_2_43 rfl rfl (obC_2 hl0) (fun M3 eM3 => ?_)
  have h := h M3 eM3
  exact eg_vreturn dX2_goWithout_17 rfl h
theorem dX3_clear_0 : decode cX3_clear 0 = .ok (.aload_n 0, 1) := by decide +kernel
theorem dX3_clear_1 : decode cX3_clear 1 = .ok (.iconst 0, 1) := by decide +kernel
theorem dX3_clear_2 : decode cX3_clear 2 = .ok (.putfield 28, 3) := by decide +kernel
theorem dX3_clear_5 : decode cX3_clear 5 = .ok (.aload_n 0, 1) := by decide +kernel
theorem dX3_clear_6 : decode cX3_clear 6 = .ok (.iconst 0, 1) := by decide +kernel
theorem dX3_clear_7 : decode cX3_clear 7 = .ok (.putfield 32, 3) := by decide +kernel
theorem dX3_clear_10 : decode cX3_clear 10 = .ok (.return_, 1) := by decide +kernel
set_option maxRecDepth 10000 in
theorem vX3_clear_0 {κ : eg_K} {d : Nat} {post : eg_H → Prop} (M : eg_H) {l0 : Nat} (hl0 : l0 < 2) (h : (∀ M1 : eg_H, M1 = (sI M (3, l0) 3 (0 : Int32)) → (∀ M2 : eg_H, M2 = (sI M1 (3, l0) 4 (0 : Int32)) → post M2))) : eg_W κ gC mtX3_clear d (eQV κ gC post) 0 [(0, vR (3, l0))] [] M := by
  refine eg_aload_n 0 dX3_clear_0 rfl rfl ?_
  refine eg_iconst dX3_clear_1 ic_0 ?_
  refine en_putI dX3_clear_2 fl_3_28 rfl rfl (obC_3 hl0) (fun M1 eM1 => ?_)
  have h := h M1 eM1
  refine eg_aload_n 0 dX3_clear_5 rfl rfl ?_
  refine eg_iconst dX3_clear_6 ic_0 ?_
  refine en_putI dX3_clear_7 fl_3_32 rfl rfl (obC_3 hl0) (fun M2 eM2 => ?_)
  have h := h M2 eM2
  exact eg_vreturn dX3_clear_10 rfl h
theorem dX3_copyFrom_0 : decode cX3_copyFrom 0 = .ok (.aload_n 1, 1) := by decide +kernel
theorem dX3_copyFrom_1 : decode cX3_copyFrom 1 = .ok (.getfield 9, 3) := by decide +kernel
theorem dX3_copyFrom_4 : decode cX3_copyFrom 4 = .ok (.iconst 0, 1) := by decide +kernel
theorem dX3_copyFrom_5 : decode cX3_copyFrom 5 = .ok (.aload_n 0, 1) := by decide +kernel
theorem dX3_copyFrom_6 : decode cX3_copyFrom 6 = .ok (.getfield 9, 3) := by decide +kernel
theorem dX3_copyFrom_9 : decode cX3_copyFrom 9 = .ok (.iconst 0, 1) := by decide +kernel
theorem dX3_copyFrom_10 : decode cX3_copyFrom 10 = .ok (.bipush 64, 2) := by decide +kernel
theorem dX3_copyFrom_12 : decode cX3_copyFrom 12 = .ok (.invokestatic 35, 3) := by decide +kernel
theorem dX3_copyFrom_15 : decode cX3_copyFrom 15 = .ok (.aload_n 1, 1) := by decide +kernel
theorem dX3_copyFrom_16 : decode cX3_copyFrom 16 = .ok (.getfield 15, 3) := by decide +kernel
theorem dX3_copyFrom_19 : decode cX3_copyFrom 19 = .ok (.iconst 0, 1) := by decide +kernel
theorem dX3_copyFrom_20 : decode cX3_copyFrom 20 = .ok (.aload_n 0, 1) := by decide +kernel
theorem dX3_copyFrom_21 : decode cX3_copyFrom 21 = .ok (.getfield 15, 3) := by decide +kernel
theorem dX3_copyFrom_24 : decode cX3_copyFrom 24 = .ok (.iconst 0, 1) := by decide +kernel
theorem dX3_copyFrom_25 : decode cX3_copyFrom 25 = .ok (.bipush 7, 2) := by decide +kernel
theorem dX3_copyFrom_27 : decode cX3_copyFrom 27 = .ok (.invokestatic 35, 3) := by decide +kernel
theorem dX3_copyFrom_30 : decode cX3_copyFrom 30 = .ok (.aload_n 1, 1) := by decide +kernel
theorem dX3_copyFrom_31 : decode cX3_copyFrom 31 = .ok (.getfield 18, 3) := by decide +kernel
theorem dX3_copyFrom_34 : decode cX3_copyFrom 34 = .ok (.iconst 0, 1) := by decide +kernel
theorem dX3_copyFrom_35 : decode cX3_copyFrom 35 = .ok (.aload_n 0, 1) := by decide +kernel
theorem dX3_copyFrom_36 : decode cX3_copyFrom 36 = .ok (.getfield 18, 3) := by decide +kernel
theorem dX3_copyFrom_39 : decode cX3_copyFrom 39 = .ok (.iconst 0, 1) := by decide +kernel
theorem dX3_copyFrom_40 : decode cX3_copyFrom 40 = .ok (.bipush 7, 2) := by decide +kernel
theorem dX3_copyFrom_42 : decode cX3_copyFrom 42 = .ok (.invokestatic 35, 3) := by decide +kernel
theorem dX3_copyFrom_45 : decode cX3_copyFrom 45 = .ok (.aload_n 0, 1) := by decide +kernel
theorem dX3_copyFrom_46 : decode cX3_copyFrom 46 = .ok (.aload_n 1, 1) := by decide +kernel
theorem dX3_copyFrom_47 : decode cX3_copyFrom 47 = .ok (.getfield 28, 3) := by decide +kernel
theorem dX3_copyFrom_50 : decode cX3_copyFrom 50 = .ok (.putfield 28, 3) := by decide +kernel
theorem dX3_copyFrom_53 : decode cX3_copyFrom 53 = .ok (.aload_n 0, 1) := by decide +kernel
theorem dX3_copyFrom_54 : decode cX3_copyFrom 54 = .ok (.aload_n 1, 1) := by decide +kernel
theorem dX3_copyFrom_55 : decode cX3_copyFrom 55 = .ok (.getfield 32, 3) := by decide +kernel
theorem dX3_copyFrom_58 : decode cX3_copyFrom 58 = .ok (.putfield 32, 3) := by decide +kernel
theorem dX3_copyFrom_61 : decode cX3_copyFrom 61 = .ok (.return_, 1) := by decide +kernel
set_option maxRecDepth 10000 in
theorem vX3_copyFrom_0 {κ : eg_K} {d : Nat} (hd : 1 ≤ d) {post : eg_H → Prop} (M : eg_H) {l0 : Nat} (hl0 : l0 < 2) {l1 : Nat} (hl1 : l1 < 2) (h : (∀ M1 : eg_H, M1 = (sC M (23, l1) (23, l0) (0 : Int32).toNatClampNeg (0 : Int32).toNatClampNeg (64 : Int32).toNatClampNeg) → (∀ M2 : eg_H, M2 = (sC M1 (24, l1) (24, l0) (0 : Int32).toNatClampNeg (0 : Int32).toNatClampNeg (7 : Int32).toNatClampNeg) → (∀ M3 : eg_H, M3 = (sC M2 (25, l1) (25, l0) (0 : Int32).toNatClampNeg (0 : Int32).toNatClampNeg (7 : Int32).toNatClampNeg) → (∀ M4 : eg_H, M4 = (sI M3 (3, l0) 3 (M3.1 (3, l1) 3)) → (∀ M5 : eg_H, M5 = (sI M4 (3, l0) 4 (M4.1 (3, l1) 4)) → post M5)))))) : eg_W κ gC mtX3_copyFrom d (eQV κ gC post) 0 [(0, vR (3, l0)), (1, vR (3, l1))] [] M := by
  refine eg_aload_n 1 dX3_copyFrom_0 rfl rfl ?_
  refine eg_getR dX3_copyFrom_1 fl_3_9 rfl rfl (obC_3 hl1) ?_
  show eg_W κ gC mtX3_copyFrom d (eQV κ gC post) 4 [(0, vR (3, l0)), (1, vR (3, l1))] [vR (23, l1)] M
  refine eg_iconst dX3_copyFrom_4 ic_0 ?_
  refine eg_aload_n 0 dX3_copyFrom_5 rfl rfl ?_
  refine eg_getR dX3_copyFrom_6 fl_3_9 rfl rfl (obC_3 hl0) ?_
  show eg_W κ gC mtX3_copyFrom d (eQV κ gC post) 9 [(0, vR (3, l0)), (1, vR (3, l1))] [vR (23, l0), vI (0 : Int32), vR (23, l1)] M
  refine eg_iconst dX3_copyFrom_9 ic_0 ?_
  refine eg_bipush dX3_copyFrom_10 bp_64 ?_
  refine en_copy dX3_copyFrom_12 ml_3_35 (anC_23 hl1) (anC_23 hl0) (by decide) (Nat.le_of_ble_eq_true rfl) hd (fun M1 eM1 => ?_)
  have h := h M1 eM1
  refine eg_aload_n 1 dX3_copyFrom_15 rfl rfl ?_
  refine eg_getR dX3_copyFrom_16 fl_3_15 rfl rfl (obC_3 hl1) ?_
  show eg_W κ gC mtX3_copyFrom d (eQV κ gC post) 19 [(0, vR (3, l0)), (1, vR (3, l1))] [vR (24, l1)] M1
  refine eg_iconst dX3_copyFrom_19 ic_0 ?_
  refine eg_aload_n 0 dX3_copyFrom_20 rfl rfl ?_
  refine eg_getR dX3_copyFrom_21 fl_3_15 rfl rfl (obC_3 hl0) ?_
  show eg_W κ gC mtX3_copyFrom d (eQV κ gC post) 24 [(0, vR (3, l0)), (1, vR (3, l1))] [vR (24, l0), vI (0 : Int32), vR (24, l1)] M1
  refine eg_iconst dX3_copyFrom_24 ic_0 ?_
  refine eg_bipush dX3_copyFrom_25 bp_7 ?_
  refine en_copy dX3_copyFrom_27 ml_3_35 (anC_24 hl1) (anC_24 hl0) (by decide) (Nat.le_of_ble_eq_true rfl) hd (fun M2 eM2 => ?_)
  have h := h M2 eM2
  refine eg_aload_n 1 dX3_copyFrom_30 rfl rfl ?_
  refine eg_getR dX3_copyFrom_31 fl_3_18 rfl rfl (obC_3 hl1) ?_
  show eg_W κ gC mtX3_copyFrom d (eQV κ gC post) 34 [(0, vR (3, l0)), (1, vR (3, l1))] [vR (25, l1)] M2
  refine eg_iconst dX3_copyFrom_34 ic_0 ?_
  refine eg_aload_n 0 dX3_copyFrom_35 rfl rfl ?_
  refine eg_getR dX3_copyFrom_36 fl_3_18 rfl rfl (obC_3 hl0) ?_
  show eg_W κ gC mtX3_copyFrom d (eQV κ gC post) 39 [(0, vR (3, l0)), (1, vR (3, l1))] [vR (25, l0), vI (0 : Int32), vR (25, l1)] M2
  refine eg_iconst dX3_copyFrom_39 ic_0 ?_
  refine eg_bipush dX3_copyFrom_40 bp_7 ?_
  refine en_copy dX3_copyFrom_42 ml_3_35 (anC_25 hl1) (anC_25 hl0) (by decide) (Nat.le_of_ble_eq_true rfl) hd (fun M3 eM3 => ?_)
  have h := h M3 eM3
  refine eg_aload_n 0 dX3_copyFrom_45 rfl rfl ?_
  refine eg_aload_n 1 dX3_copyFrom_46 rfl rfl ?_
  refine eg_getI dX3_copyFrom_47 fl_3_28 rfl trivial (obC_3 hl1) ?_
  refine en_putI dX3_copyFrom_50 fl_3_28 rfl rfl (obC_3 hl0) (fun M4 eM4 => ?_)
  have h := h M4 eM4
  refine eg_aload_n 0 dX3_copyFrom_53 rfl rfl ?_
  refine eg_aload_n 1 dX3_copyFrom_54 rfl rfl ?_
  refine eg_getI dX3_copyFrom_55 fl_3_32 rfl trivial (obC_3 hl1) ?_
  refine en_putI dX3_copyFrom_58 fl_3_32 rfl rfl (obC_3 hl0) (fun M5 eM5 => ?_)
  have h := h M5 eM5
  exact eg_vreturn dX3_copyFrom_61 rfl h
theorem dX3_addKnot_0 : decode cX3_addKnot 0 = .ok (.aload_n 0, 1) := by decide +kernel
theorem dX3_addKnot_1 : decode cX3_addKnot 1 = .ok (.getfield 28, 3) := by decide +kernel
theorem dX3_addKnot_4 : decode cX3_addKnot 4 = .ok (.bipush 64, 2) := by decide +kernel
theorem dX3_addKnot_6 : decode cX3_addKnot 6 = .ok (.if_icmp .ge 23, 3) := by decide +kernel
theorem dX3_addKnot_9 : decode cX3_addKnot 9 = .ok (.aload_n 0, 1) := by decide +kernel
theorem dX3_addKnot_10 : decode cX3_addKnot 10 = .ok (.getfield 9, 3) := by decide +kernel
theorem dX3_addKnot_13 : decode cX3_addKnot 13 = .ok (.aload_n 0, 1) := by decide +kernel
theorem dX3_addKnot_14 : decode cX3_addKnot 14 = .ok (.getfield 28, 3) := by decide +kernel
theorem dX3_addKnot_17 : decode cX3_addKnot 17 = .ok (.iload_n 1, 1) := by decide +kernel
theorem dX3_addKnot_18 : decode cX3_addKnot 18 = .ok (.iastore, 1) := by decide +kernel
theorem dX3_addKnot_19 : decode cX3_addKnot 19 = .ok (.aload_n 0, 1) := by decide +kernel
theorem dX3_addKnot_20 : decode cX3_addKnot 20 = .ok (.dup, 1) := by decide +kernel
theorem dX3_addKnot_21 : decode cX3_addKnot 21 = .ok (.getfield 28, 3) := by decide +kernel
theorem dX3_addKnot_24 : decode cX3_addKnot 24 = .ok (.iconst 1, 1) := by decide +kernel
theorem dX3_addKnot_25 : decode cX3_addKnot 25 = .ok (.iadd, 1) := by decide +kernel
theorem dX3_addKnot_26 : decode cX3_addKnot 26 = .ok (.putfield 28, 3) := by decide +kernel
theorem dX3_addKnot_29 : decode cX3_addKnot 29 = .ok (.return_, 1) := by decide +kernel
set_option maxRecDepth 10000 in
theorem vX3_addKnot_0 {κ : eg_K} {d : Nat} {post : eg_H → Prop} (M : eg_H) {l0 : Nat} (hl0 : l0 < 2) (l1 : Int32) (h : ((64 : Int32) ≤ (M.1 (3, l0) 3) → post M) ∧ ((¬ (64 : Int32) ≤ (M.1 (3, l0) 3)) → (vp_in (M.1 (3, l0) 3) 64 ∧ (∀ M3 : eg_H, M3 = (sI M (23, l0) (M.1 (3, l0) 3).toNatClampNeg l1) → (∀ M4 : eg_H, M4 = (sI M3 (3, l0) 3 ((M3.1 (3, l0) 3) + (1 : Int32))) → post M4))))) : eg_W κ gC mtX3_addKnot d (eQV κ gC post) 0 [(0, vR (3, l0)), (1, vI l1)] [] M := by
  refine eg_aload_n 0 dX3_addKnot_0 rfl rfl ?_
  refine eg_getI dX3_addKnot_1 fl_3_28 rfl trivial (obC_3 hl0) ?_
  refine eg_bipush dX3_addKnot_4 bp_64 ?_
  refine eg_icmp_ge (tgt := 29) dX3_addKnot_6 rfl (fun c1 => ?_) (fun c1 => ?_)
  · have h := h.1 c1
    exact eg_vreturn dX3_addKnot_29 rfl h
  · have h := h.2 c1
    refine eg_aload_n 0 dX3_addKnot_9 rfl rfl ?_
    refine eg_getR dX3_addKnot_10 fl_3_9 rfl rfl (obC_3 hl0) ?_
    show eg_W κ gC mtX3_addKnot d (eQV κ gC post) 13 [(0, vR (3, l0)), (1, vI l1)] [vR (23, l0)] M
    refine eg_aload_n 0 dX3_addKnot_13 rfl rfl ?_
    refine eg_getI dX3_addKnot_14 fl_3_28 rfl trivial (obC_3 hl0) ?_
    refine eg_iload_n 1 dX3_addKnot_17 rfl rfl ?_
    obtain ⟨g2, h⟩ := h
    refine en_iastore dX3_addKnot_18 (arC_23 hl0 g2) (fun M3 eM3 => ?_)
    have h := h M3 eM3
    refine eg_aload_n 0 dX3_addKnot_19 rfl rfl ?_
    refine eg_dup dX3_addKnot_20 rfl ?_
    refine eg_getI dX3_addKnot_21 fl_3_28 rfl trivial (obC_3 hl0) ?_
    refine eg_iconst dX3_addKnot_24 ic_1 ?_
    refine eg_iadd dX3_addKnot_25 ?_
    refine en_putI dX3_addKnot_26 fl_3_28 rfl rfl (obC_3 hl0) (fun M4 eM4 => ?_)
    have h := h M4 eM4
    exact eg_vreturn dX3_addKnot_29 rfl h
theorem dX3_addLaw_0 : decode cX3_addLaw 0 = .ok (.aload_n 0, 1) := by decide +kernel
theorem dX3_addLaw_1 : decode cX3_addLaw 1 = .ok (.getfield 32, 3) := by decide +kernel
theorem dX3_addLaw_4 : decode cX3_addLaw 4 = .ok (.bipush 7, 2) := by decide +kernel
theorem dX3_addLaw_6 : decode cX3_addLaw 6 = .ok (.if_icmp .lt 5, 3) := by decide +kernel
theorem dX3_addLaw_9 : decode cX3_addLaw 9 = .ok (.iconst (-1), 1) := by decide +kernel
theorem dX3_addLaw_10 : decode cX3_addLaw 10 = .ok (.ireturn, 1) := by decide +kernel
theorem dX3_addLaw_11 : decode cX3_addLaw 11 = .ok (.aload_n 0, 1) := by decide +kernel
theorem dX3_addLaw_12 : decode cX3_addLaw 12 = .ok (.getfield 15, 3) := by decide +kernel
theorem dX3_addLaw_15 : decode cX3_addLaw 15 = .ok (.aload_n 0, 1) := by decide +kernel
theorem dX3_addLaw_16 : decode cX3_addLaw 16 = .ok (.getfield 32, 3) := by decide +kernel
theorem dX3_addLaw_19 : decode cX3_addLaw 19 = .ok (.iload_n 1, 1) := by decide +kernel
theorem dX3_addLaw_20 : decode cX3_addLaw 20 = .ok (.iastore, 1) := by decide +kernel
theorem dX3_addLaw_21 : decode cX3_addLaw 21 = .ok (.aload_n 0, 1) := by decide +kernel
theorem dX3_addLaw_22 : decode cX3_addLaw 22 = .ok (.getfield 18, 3) := by decide +kernel
theorem dX3_addLaw_25 : decode cX3_addLaw 25 = .ok (.aload_n 0, 1) := by decide +kernel
theorem dX3_addLaw_26 : decode cX3_addLaw 26 = .ok (.getfield 32, 3) := by decide +kernel
theorem dX3_addLaw_29 : decode cX3_addLaw 29 = .ok (.aload_n 0, 1) := by decide +kernel
theorem dX3_addLaw_30 : decode cX3_addLaw 30 = .ok (.getfield 28, 3) := by decide +kernel
theorem dX3_addLaw_33 : decode cX3_addLaw 33 = .ok (.iastore, 1) := by decide +kernel
theorem dX3_addLaw_34 : decode cX3_addLaw 34 = .ok (.aload_n 0, 1) := by decide +kernel
theorem dX3_addLaw_35 : decode cX3_addLaw 35 = .ok (.dup, 1) := by decide +kernel
theorem dX3_addLaw_36 : decode cX3_addLaw 36 = .ok (.getfield 32, 3) := by decide +kernel
theorem dX3_addLaw_39 : decode cX3_addLaw 39 = .ok (.iconst 1, 1) := by decide +kernel
theorem dX3_addLaw_40 : decode cX3_addLaw 40 = .ok (.iadd, 1) := by decide +kernel
theorem dX3_addLaw_41 : decode cX3_addLaw 41 = .ok (.putfield 32, 3) := by decide +kernel
theorem dX3_addLaw_44 : decode cX3_addLaw 44 = .ok (.aload_n 0, 1) := by decide +kernel
theorem dX3_addLaw_45 : decode cX3_addLaw 45 = .ok (.getfield 32, 3) := by decide +kernel
theorem dX3_addLaw_48 : decode cX3_addLaw 48 = .ok (.iconst 1, 1) := by decide +kernel
theorem dX3_addLaw_49 : decode cX3_addLaw 49 = .ok (.isub, 1) := by decide +kernel
theorem dX3_addLaw_50 : decode cX3_addLaw 50 = .ok (.ireturn, 1) := by decide +kernel
set_option maxRecDepth 10000 in
theorem vX3_addLaw_0 {κ : eg_K} {d : Nat} {post : Int32 → eg_H → Prop} (M : eg_H) {l0 : Nat} (hl0 : l0 < 2) (l1 : Int32) (h : ((M.1 (3, l0) 4) < (7 : Int32) → (vp_in (M.1 (3, l0) 4) 7 ∧ (∀ M3 : eg_H, M3 = (sI M (24, l0) (M.1 (3, l0) 4).toNatClampNeg l1) → (vp_in (M3.1 (3, l0) 4) 7 ∧ (∀ M5 : eg_H, M5 = (sI M3 (25, l0) (M3.1 (3, l0) 4).toNatClampNeg (M3.1 (3, l0) 3)) → (∀ M6 : eg_H, M6 = (sI M5 (3, l0) 4 ((M5.1 (3, l0) 4) + (1 : Int32))) → post ((M6.1 (3, l0) 4) - (1 : Int32)) M6)))))) ∧ ((¬ (M.1 (3, l0) 4) < (7 : Int32)) → post (-1 : Int32) M)) : eg_W κ gC mtX3_addLaw d (eQI κ gC post) 0 [(0, vR (3, l0)), (1, vI l1)] [] M := by
  refine eg_aload_n 0 dX3_addLaw_0 rfl rfl ?_
  refine eg_getI dX3_addLaw_1 fl_3_32 rfl trivial (obC_3 hl0) ?_
  refine eg_bipush dX3_addLaw_4 bp_7 ?_
  refine eg_icmp_lt (tgt := 11) dX3_addLaw_6 rfl (fun c1 => ?_) (fun c1 => ?_)
  · have h := h.1 c1
    refine eg_aload_n 0 dX3_addLaw_11 rfl rfl ?_
    refine eg_getR dX3_addLaw_12 fl_3_15 rfl rfl (obC_3 hl0) ?_
    show eg_W κ gC mtX3_addLaw d (eQI κ gC post) 15 [(0, vR (3, l0)), (1, vI l1)] [vR (24, l0)] M
    refine eg_aload_n 0 dX3_addLaw_15 rfl rfl ?_
    refine eg_getI dX3_addLaw_16 fl_3_32 rfl trivial (obC_3 hl0) ?_
    refine eg_iload_n 1 dX3_addLaw_19 rfl rfl ?_
    obtain ⟨g2, h⟩ := h
    refine en_iastore dX3_addLaw_20 (arC_24 hl0 g2) (fun M3 eM3 => ?_)
    have h := h M3 eM3
    refine eg_aload_n 0 dX3_addLaw_21 rfl rfl ?_
    refine eg_getR dX3_addLaw_22 fl_3_18 rfl rfl (obC_3 hl0) ?_
    show eg_W κ gC mtX3_addLaw d (eQI κ gC post) 25 [(0, vR (3, l0)), (1, vI l1)] [vR (25, l0)] M3
    refine eg_aload_n 0 dX3_addLaw_25 rfl rfl ?_
    refine eg_getI dX3_addLaw_26 fl_3_32 rfl trivial (obC_3 hl0) ?_
    refine eg_aload_n 0 dX3_addLaw_29 rfl rfl ?_
    refine eg_getI dX3_addLaw_30 fl_3_28 rfl trivial (obC_3 hl0) ?_
    obtain ⟨g4, h⟩ := h
    refine en_iastore dX3_addLaw_33 (arC_25 hl0 g4) (fun M5 eM5 => ?_)
    have h := h M5 eM5
    refine eg_aload_n 0 dX3_addLaw_34 rfl rfl ?_
    refine eg_dup dX3_addLaw_35 rfl ?_
    refine eg_getI dX3_addLaw_36 fl_3_32 rfl trivial (obC_3 hl0) ?_
    refine eg_iconst dX3_addLaw_39 ic_1 ?_
    refine eg_iadd dX3_addLaw_40 ?_
    refine en_putI dX3_addLaw_41 fl_3_32 rfl rfl (obC_3 hl0) (fun M6 eM6 => ?_)
    have h := h M6 eM6
    refine eg_aload_n 0 dX3_addLaw_44 rfl rfl ?_
    refine eg_getI dX3_addLaw_45 fl_3_32 rfl trivial (obC_3 hl0) ?_
    refine eg_iconst dX3_addLaw_48 ic_1 ?_
    refine eg_isub dX3_addLaw_49 ?_
    exact eg_ireturn dX3_addLaw_50 rfl h
  · have h := h.2 c1
    refine eg_iconst dX3_addLaw_9 ic_m1 ?_
    exact eg_ireturn dX3_addLaw_10 rfl h
theorem dX3_setName_0 : decode cX3_setName 0 = .ok (.iload_n 1, 1) := by decide +kernel
theorem dX3_setName_1 : decode cX3_setName 1 = .ok (.bipush 16, 2) := by decide +kernel
theorem dX3_setName_3 : decode cX3_setName 3 = .ok (.if_icmp .lt 19, 3) := by decide +kernel
theorem dX3_setName_6 : decode cX3_setName 6 = .ok (.iload_n 1, 1) := by decide +kernel
theorem dX3_setName_7 : decode cX3_setName 7 = .ok (.bipush 23, 2) := by decide +kernel
theorem dX3_setName_9 : decode cX3_setName 9 = .ok (.if_icmp .gt 13, 3) := by decide +kernel
theorem dX3_setName_12 : decode cX3_setName 12 = .ok (.aload_n 0, 1) := by decide +kernel
theorem dX3_setName_13 : decode cX3_setName 13 = .ok (.getfield 21, 3) := by decide +kernel
theorem dX3_setName_16 : decode cX3_setName 16 = .ok (.iload_n 1, 1) := by decide +kernel
theorem dX3_setName_17 : decode cX3_setName 17 = .ok (.bipush 16, 2) := by decide +kernel
theorem dX3_setName_19 : decode cX3_setName 19 = .ok (.isub, 1) := by decide +kernel
theorem dX3_setName_20 : decode cX3_setName 20 = .ok (.lload_n 2, 1) := by decide +kernel
theorem dX3_setName_21 : decode cX3_setName 21 = .ok (.lastore, 1) := by decide +kernel
theorem dX3_setName_22 : decode cX3_setName 22 = .ok (.return_, 1) := by decide +kernel
set_option maxRecDepth 10000 in
theorem vX3_setName_0 {κ : eg_K} {d : Nat} {post : eg_H → Prop} (M : eg_H) {l0 : Nat} (hl0 : l0 < 2) (l1 : Int32) (l2 : Int64) (h : (l1 < (16 : Int32) → post M) ∧ ((¬ l1 < (16 : Int32)) → ((23 : Int32) < l1 → post M) ∧ ((¬ (23 : Int32) < l1) → (vp_in (l1 - (16 : Int32)) 8 ∧ (∀ M4 : eg_H, M4 = (sL M (26, l0) (l1 - (16 : Int32)).toNatClampNeg l2) → post M4))))) : eg_W κ gC mtX3_setName d (eQV κ gC post) 0 [(0, vR (3, l0)), (1, vI l1), (2, vL l2)] [] M := by
  refine eg_iload_n 1 dX3_setName_0 rfl rfl ?_
  refine eg_bipush dX3_setName_1 bp_16 ?_
  refine eg_icmp_lt (tgt := 22) dX3_setName_3 rfl (fun c1 => ?_) (fun c1 => ?_)
  · have h := h.1 c1
    exact eg_vreturn dX3_setName_22 rfl h
  · have h := h.2 c1
    refine eg_iload_n 1 dX3_setName_6 rfl rfl ?_
    refine eg_bipush dX3_setName_7 bp_23 ?_
    refine eg_icmp_gt (tgt := 22) dX3_setName_9 rfl (fun c2 => ?_) (fun c2 => ?_)
    · have h := h.1 c2
      exact eg_vreturn dX3_setName_22 rfl h
    · have h := h.2 c2
      refine eg_aload_n 0 dX3_setName_12 rfl rfl ?_
      refine eg_getR dX3_setName_13 fl_3_21 rfl rfl (obC_3 hl0) ?_
      show eg_W κ gC mtX3_setName d (eQV κ gC post) 16 [(0, vR (3, l0)), (1, vI l1), (2, vL l2)] [vR (26, l0)] M
      refine eg_iload_n 1 dX3_setName_16 rfl rfl ?_
      refine eg_bipush dX3_setName_17 bp_16 ?_
      refine eg_isub dX3_setName_19 ?_
      refine eg_lload_n 2 dX3_setName_20 rfl rfl ?_
      obtain ⟨g3, h⟩ := h
      refine en_lastore dX3_setName_21 (arC_26 hl0 g3) (fun M4 eM4 => ?_)
      have h := h M4 eM4
      exact eg_vreturn dX3_setName_22 rfl h
theorem dX3_value_0 : decode cX3_value 0 = .ok (.iload_n 1, 1) := by decide +kernel
theorem dX3_value_1 : decode cX3_value 1 = .ok (.ifCond .lt 11, 3) := by decide +kernel
theorem dX3_value_4 : decode cX3_value 4 = .ok (.iload_n 1, 1) := by decide +kernel
theorem dX3_value_5 : decode cX3_value 5 = .ok (.aload_n 0, 1) := by decide +kernel
theorem dX3_value_6 : decode cX3_value 6 = .ok (.getfield 32, 3) := by decide +kernel
theorem dX3_value_9 : decode cX3_value 9 = .ok (.if_icmp .lt 7, 3) := by decide +kernel
theorem dX3_value_12 : decode cX3_value 12 = .ok (.ldc2_w 41, 3) := by decide +kernel
theorem dX3_value_15 : decode cX3_value 15 = .ok (.lreturn, 1) := by decide +kernel
theorem dX3_value_16 : decode cX3_value 16 = .ok (.iconst 0, 1) := by decide +kernel
theorem dX3_value_17 : decode cX3_value 17 = .ok (.istore_n 2, 1) := by decide +kernel
theorem dX3_value_18 : decode cX3_value 18 = .ok (.aload_n 0, 1) := by decide +kernel
theorem dX3_value_19 : decode cX3_value 19 = .ok (.getfield 15, 3) := by decide +kernel
theorem dX3_value_22 : decode cX3_value 22 = .ok (.iload_n 1, 1) := by decide +kernel
theorem dX3_value_23 : decode cX3_value 23 = .ok (.iaload, 1) := by decide +kernel
theorem dX3_value_24 : decode cX3_value 24 = .ok (.istore_n 3, 1) := by decide +kernel
theorem dX3_value_25 : decode cX3_value 25 = .ok (.iload_n 3, 1) := by decide +kernel
theorem dX3_value_26 : decode cX3_value 26 = .ok (.aload_n 0, 1) := by decide +kernel
theorem dX3_value_27 : decode cX3_value 27 = .ok (.getfield 18, 3) := by decide +kernel
theorem dX3_value_30 : decode cX3_value 30 = .ok (.iload_n 1, 1) := by decide +kernel
theorem dX3_value_31 : decode cX3_value 31 = .ok (.iaload, 1) := by decide +kernel
theorem dX3_value_32 : decode cX3_value 32 = .ok (.if_icmp .ge 194, 3) := by decide +kernel
theorem dX3_value_35 : decode cX3_value 35 = .ok (.iload_n 3, 1) := by decide +kernel
theorem dX3_value_36 : decode cX3_value 36 = .ok (.bipush 64, 2) := by decide +kernel
theorem dX3_value_38 : decode cX3_value 38 = .ok (.if_icmp .ge 188, 3) := by decide +kernel
theorem dX3_value_41 : decode cX3_value 41 = .ok (.aload_n 0, 1) := by decide +kernel
theorem dX3_value_42 : decode cX3_value 42 = .ok (.getfield 9, 3) := by decide +kernel
theorem dX3_value_45 : decode cX3_value 45 = .ok (.iload_n 3, 1) := by decide +kernel
theorem dX3_value_46 : decode cX3_value 46 = .ok (.iaload, 1) := by decide +kernel
theorem dX3_value_47 : decode cX3_value 47 = .ok (.istore 4, 2) := by decide +kernel
theorem dX3_value_49 : decode cX3_value 49 = .ok (.iload 4, 2) := by decide +kernel
theorem dX3_value_51 : decode cX3_value 51 = .ok (.sipush 10000, 3) := by decide +kernel
theorem dX3_value_54 : decode cX3_value 54 = .ok (.isub, 1) := by decide +kernel
theorem dX3_value_55 : decode cX3_value 55 = .ok (.istore 5, 2) := by decide +kernel
theorem dX3_value_57 : decode cX3_value 57 = .ok (.iload_n 2, 1) := by decide +kernel
theorem dX3_value_58 : decode cX3_value 58 = .ok (.bipush 64, 2) := by decide +kernel
theorem dX3_value_60 : decode cX3_value 60 = .ok (.if_icmp .lt 7, 3) := by decide +kernel
theorem dX3_value_63 : decode cX3_value 63 = .ok (.ldc2_w 41, 3) := by decide +kernel
theorem dX3_value_66 : decode cX3_value 66 = .ok (.lreturn, 1) := by decide +kernel
theorem dX3_value_67 : decode cX3_value 67 = .ok (.iload 4, 2) := by decide +kernel
theorem dX3_value_69 : decode cX3_value 69 = .ok (.sipush 10000, 3) := by decide +kernel
theorem dX3_value_72 : decode cX3_value 72 = .ok (.if_icmp .ge 18, 3) := by decide +kernel
theorem dX3_value_75 : decode cX3_value 75 = .ok (.aload_n 0, 1) := by decide +kernel
theorem dX3_value_76 : decode cX3_value 76 = .ok (.getfield 25, 3) := by decide +kernel
theorem dX3_value_79 : decode cX3_value 79 = .ok (.iload_n 2, 1) := by decide +kernel
theorem dX3_value_80 : decode cX3_value 80 = .ok (.iload 4, 2) := by decide +kernel
theorem dX3_value_82 : decode cX3_value 82 = .ok (.i2l, 1) := by decide +kernel
theorem dX3_value_83 : decode cX3_value 83 = .ok (.lastore, 1) := by decide +kernel
theorem dX3_value_84 : decode cX3_value 84 = .ok (.iinc 2 1, 3) := by decide +kernel
theorem dX3_value_87 : decode cX3_value 87 = .ok (.goto 133, 3) := by decide +kernel
theorem dX3_value_90 : decode cX3_value 90 = .ok (.iload 5, 2) := by decide +kernel
theorem dX3_value_92 : decode cX3_value 92 = .ok (.bipush 16, 2) := by decide +kernel
theorem dX3_value_94 : decode cX3_value 94 = .ok (.if_icmp .lt 32, 3) := by decide +kernel
theorem dX3_value_97 : decode cX3_value 97 = .ok (.iload 5, 2) := by decide +kernel
theorem dX3_value_99 : decode cX3_value 99 = .ok (.bipush 23, 2) := by decide +kernel
theorem dX3_value_101 : decode cX3_value 101 = .ok (.if_icmp .gt 25, 3) := by decide +kernel
theorem dX3_value_104 : decode cX3_value 104 = .ok (.aload_n 0, 1) := by decide +kernel
theorem dX3_value_105 : decode cX3_value 105 = .ok (.getfield 25, 3) := by decide +kernel
theorem dX3_value_108 : decode cX3_value 108 = .ok (.iload_n 2, 1) := by decide +kernel
theorem dX3_value_109 : decode cX3_value 109 = .ok (.aload_n 0, 1) := by decide +kernel
theorem dX3_value_110 : decode cX3_value 110 = .ok (.getfield 21, 3) := by decide +kernel
theorem dX3_value_113 : decode cX3_value 113 = .ok (.iload 5, 2) := by decide +kernel
theorem dX3_value_115 : decode cX3_value 115 = .ok (.bipush 16, 2) := by decide +kernel
theorem dX3_value_117 : decode cX3_value 117 = .ok (.isub, 1) := by decide +kernel
theorem dX3_value_118 : decode cX3_value 118 = .ok (.laload, 1) := by decide +kernel
theorem dX3_value_119 : decode cX3_value 119 = .ok (.lastore, 1) := by decide +kernel
theorem dX3_value_120 : decode cX3_value 120 = .ok (.iinc 2 1, 3) := by decide +kernel
theorem dX3_value_123 : decode cX3_value 123 = .ok (.goto 97, 3) := by decide +kernel
theorem dX3_value_126 : decode cX3_value 126 = .ok (.iload 5, 2) := by decide +kernel
theorem dX3_value_128 : decode cX3_value 128 = .ok (.bipush 15, 2) := by decide +kernel
theorem dX3_value_130 : decode cX3_value 130 = .ok (.if_icmp .ne 36, 3) := by decide +kernel
theorem dX3_value_133 : decode cX3_value 133 = .ok (.iload_n 2, 1) := by decide +kernel
theorem dX3_value_134 : decode cX3_value 134 = .ok (.ifCond .le 32, 3) := by decide +kernel
theorem dX3_value_137 : decode cX3_value 137 = .ok (.aload_n 0, 1) := by decide +kernel
theorem dX3_value_138 : decode cX3_value 138 = .ok (.getfield 25, 3) := by decide +kernel
theorem dX3_value_141 : decode cX3_value 141 = .ok (.iload_n 2, 1) := by decide +kernel
theorem dX3_value_142 : decode cX3_value 142 = .ok (.iconst 1, 1) := by decide +kernel
theorem dX3_value_143 : decode cX3_value 143 = .ok (.isub, 1) := by decide +kernel
theorem dX3_value_144 : decode cX3_value 144 = .ok (.aload_n 0, 1) := by decide +kernel
theorem dX3_value_145 : decode cX3_value 145 = .ok (.getfield 25, 3) := by decide +kernel
theorem dX3_value_148 : decode cX3_value 148 = .ok (.iload_n 2, 1) := by decide +kernel
theorem dX3_value_149 : decode cX3_value 149 = .ok (.iconst 1, 1) := by decide +kernel
theorem dX3_value_150 : decode cX3_value 150 = .ok (.isub, 1) := by decide +kernel
theorem dX3_value_151 : decode cX3_value 151 = .ok (.laload, 1) := by decide +kernel
theorem dX3_value_152 : decode cX3_value 152 = .ok (.lconst 0, 1) := by decide +kernel
theorem dX3_value_153 : decode cX3_value 153 = .ok (.lcmp, 1) := by decide +kernel
theorem dX3_value_154 : decode cX3_value 154 = .ok (.ifCond .ne 7, 3) := by decide +kernel
theorem dX3_value_157 : decode cX3_value 157 = .ok (.lconst 1, 1) := by decide +kernel
theorem dX3_value_158 : decode cX3_value 158 = .ok (.goto 4, 3) := by decide +kernel
theorem dX3_value_161 : decode cX3_value 161 = .ok (.lconst 0, 1) := by decide +kernel
theorem dX3_value_162 : decode cX3_value 162 = .ok (.lastore, 1) := by decide +kernel
theorem dX3_value_163 : decode cX3_value 163 = .ok (.goto 57, 3) := by decide +kernel
theorem dX3_value_166 : decode cX3_value 166 = .ok (.iload_n 2, 1) := by decide +kernel
theorem dX3_value_167 : decode cX3_value 167 = .ok (.iconst 1, 1) := by decide +kernel
theorem dX3_value_168 : decode cX3_value 168 = .ok (.if_icmp .le 52, 3) := by decide +kernel
theorem dX3_value_171 : decode cX3_value 171 = .ok (.iinc 2 (-1), 3) := by decide +kernel
theorem dX3_value_174 : decode cX3_value 174 = .ok (.aload_n 0, 1) := by decide +kernel
theorem dX3_value_175 : decode cX3_value 175 = .ok (.getfield 25, 3) := by decide +kernel
theorem dX3_value_178 : decode cX3_value 178 = .ok (.iload_n 2, 1) := by decide +kernel
theorem dX3_value_179 : decode cX3_value 179 = .ok (.iconst 1, 1) := by decide +kernel
theorem dX3_value_180 : decode cX3_value 180 = .ok (.isub, 1) := by decide +kernel
theorem dX3_value_181 : decode cX3_value 181 = .ok (.iload 5, 2) := by decide +kernel
theorem dX3_value_183 : decode cX3_value 183 = .ok (.aload_n 0, 1) := by decide +kernel
theorem dX3_value_184 : decode cX3_value 184 = .ok (.getfield 25, 3) := by decide +kernel
theorem dX3_value_187 : decode cX3_value 187 = .ok (.iload_n 2, 1) := by decide +kernel
theorem dX3_value_188 : decode cX3_value 188 = .ok (.iconst 1, 1) := by decide +kernel
theorem dX3_value_189 : decode cX3_value 189 = .ok (.isub, 1) := by decide +kernel
theorem dX3_value_190 : decode cX3_value 190 = .ok (.laload, 1) := by decide +kernel
theorem dX3_value_191 : decode cX3_value 191 = .ok (.aload_n 0, 1) := by decide +kernel
theorem dX3_value_192 : decode cX3_value 192 = .ok (.getfield 25, 3) := by decide +kernel
theorem dX3_value_195 : decode cX3_value 195 = .ok (.iload_n 2, 1) := by decide +kernel
theorem dX3_value_196 : decode cX3_value 196 = .ok (.laload, 1) := by decide +kernel
theorem dX3_value_197 : decode cX3_value 197 = .ok (.invokestatic 43, 3) := by decide +kernel
theorem dX3_value_200 : decode cX3_value 200 = .ok (.lastore, 1) := by decide +kernel
theorem dX3_value_201 : decode cX3_value 201 = .ok (.aload_n 0, 1) := by decide +kernel
theorem dX3_value_202 : decode cX3_value 202 = .ok (.getfield 25, 3) := by decide +kernel
theorem dX3_value_205 : decode cX3_value 205 = .ok (.iload_n 2, 1) := by decide +kernel
theorem dX3_value_206 : decode cX3_value 206 = .ok (.iconst 1, 1) := by decide +kernel
theorem dX3_value_207 : decode cX3_value 207 = .ok (.isub, 1) := by decide +kernel
theorem dX3_value_208 : decode cX3_value 208 = .ok (.laload, 1) := by decide +kernel
theorem dX3_value_209 : decode cX3_value 209 = .ok (.ldc2_w 41, 3) := by decide +kernel
theorem dX3_value_212 : decode cX3_value 212 = .ok (.lcmp, 1) := by decide +kernel
theorem dX3_value_213 : decode cX3_value 213 = .ok (.ifCond .ne 7, 3) := by decide +kernel
theorem dX3_value_216 : decode cX3_value 216 = .ok (.ldc2_w 41, 3) := by decide +kernel
theorem dX3_value_219 : decode cX3_value 219 = .ok (.lreturn, 1) := by decide +kernel
theorem dX3_value_220 : decode cX3_value 220 = .ok (.iinc 3 1, 3) := by decide +kernel
theorem dX3_value_223 : decode cX3_value 223 = .ok (.goto (-198), 3) := by decide +kernel
theorem dX3_value_226 : decode cX3_value 226 = .ok (.iload_n 2, 1) := by decide +kernel
theorem dX3_value_227 : decode cX3_value 227 = .ok (.iconst 1, 1) := by decide +kernel
theorem dX3_value_228 : decode cX3_value 228 = .ok (.if_icmp .ne 12, 3) := by decide +kernel
theorem dX3_value_231 : decode cX3_value 231 = .ok (.aload_n 0, 1) := by decide +kernel
theorem dX3_value_232 : decode cX3_value 232 = .ok (.getfield 25, 3) := by decide +kernel
theorem dX3_value_235 : decode cX3_value 235 = .ok (.iconst 0, 1) := by decide +kernel
theorem dX3_value_236 : decode cX3_value 236 = .ok (.laload, 1) := by decide +kernel
theorem dX3_value_237 : decode cX3_value 237 = .ok (.goto 6, 3) := by decide +kernel
theorem dX3_value_240 : decode cX3_value 240 = .ok (.ldc2_w 41, 3) := by decide +kernel
theorem dX3_value_243 : decode cX3_value 243 = .ok (.lreturn, 1) := by decide +kernel
set_option maxRecDepth 10000 in
theorem vX3_value_0 {κ : eg_K} {d : Nat} {post : Int64 → eg_H → Prop} (M : eg_H) {l0 : Nat} (hl0 : l0 < 2) (l1 : Int32) (h : (l1 < 0 → post (-9223372036854775808 : Int64) M) ∧ ((¬ l1 < 0) → (l1 < (M.1 (3, l0) 4) → (vp_in l1 7 ∧ (∀ x4 : Int32, x4 = (M.1 (24, l0) l1.toNatClampNeg) → eg_W κ gC mtX3_value d (eQL κ gC post) 25 [(0, vR (3, l0)), (1, vI l1), (2, vI (0 : Int32)), (3, vI x4)] [] M))) ∧ ((¬ l1 < (M.1 (3, l0) 4)) → post (-9223372036854775808 : Int64) M))) : eg_W κ gC mtX3_value d (eQL κ gC post) 0 [(0, vR (3, l0)), (1, vI l1)] [] M := by
  refine eg_iload_n 1 dX3_value_0 rfl rfl ?_
  refine eg_if_lt (tgt := 12) dX3_value_1 rfl (fun c1 => ?_) (fun c1 => ?_)
  · have h := h.1 c1
    refine eg_ldc2 dX3_value_12 kc_3_41 ?_
    exact eg_lreturn dX3_value_15 rfl h
  · have h := h.2 c1
    refine eg_iload_n 1 dX3_value_4 rfl rfl ?_
    refine eg_aload_n 0 dX3_value_5 rfl rfl ?_
    refine eg_getI dX3_value_6 fl_3_32 rfl trivial (obC_3 hl0) ?_
    refine eg_icmp_lt (tgt := 16) dX3_value_9 rfl (fun c2 => ?_) (fun c2 => ?_)
    · have h := h.1 c2
      refine eg_iconst dX3_value_16 ic_0 ?_
      refine eg_istore_n dX3_value_17 rfl (by decide) (ls1 := [(2, vI (0 : Int32)), (0, vR (3, l0)), (1, vI l1)]) rfl ?_
      refine eg_aload_n 1 dX3_value_18 rfl rfl ?_
      refine eg_getR dX3_value_19 fl_3_15 rfl rfl (obC_3 hl0) ?_
      show eg_W κ gC mtX3_value d (eQL κ gC post) 22 [(2, vI (0 : Int32)), (0, vR (3, l0)), (1, vI l1)] [vR (24, l0)] M
      refine eg_iload_n 2 dX3_value_22 rfl rfl ?_
      obtain ⟨g3, h⟩ := h
      refine eg_iaload dX3_value_23 (arC_24 hl0 g3) ?_
      refine en_istore_n (f := fun x4 => [(3, vI x4), (2, vI (0 : Int32)), (0, vR (3, l0)), (1, vI l1)]) dX3_value_24 rfl (by decide) rfl (fun x4 ex4 => ?_)
      have h := h x4 ex4
      refine eg_sub [2, 3, 1, 0] rfl ?_
      exact h
    · have h := h.2 c2
      refine eg_ldc2 dX3_value_12 kc_3_41 ?_
      exact eg_lreturn dX3_value_15 rfl h
set_option maxRecDepth 10000 in
theorem vX3_value_25 {κ : eg_K} {d : Nat} {post : Int64 → eg_H → Prop} (M : eg_H) {l0 : Nat} (hl0 : l0 < 2) (l1 : Int32) (l2 : Int32) (l3 : Int32) (h : (vp_in l1 7 ∧ ((M.1 (25, l0) l1.toNatClampNeg) ≤ l3 → ((l2 = (1 : Int32) → vp_in (0 : Int32) 64) ∧ (∀ x4 : Int64, x4 = ((if (¬ l2 = (1 : Int32)) then (-9223372036854775808 : Int64) else (M.2.1 (27, l0) (0 : Int32).toNatClampNeg))) → post x4 M))) ∧ ((¬ (M.1 (25, l0) l1.toNatClampNeg) ≤ l3) → ((64 : Int32) ≤ l3 → ((l2 = (1 : Int32) → vp_in (0 : Int32) 64) ∧ (∀ x9 : Int64, x9 = ((if (¬ l2 = (1 : Int32)) then (-9223372036854775808 : Int64) else (M.2.1 (27, l0) (0 : Int32).toNatClampNeg))) → post x9 M))) ∧ ((¬ (64 : Int32) ≤ l3) → (vp_in l3 64 ∧ (∀ x13 : Int32, x13 = (M.1 (23, l0) l3.toNatClampNeg) → (∀ x14 : Int32, x14 = (x13 - (10000 : Int32)) → (l2 < (64 : Int32) → ((10000 : Int32) ≤ x13 → (x14 < (16 : Int32) → eg_W κ gC mtX3_value d (eQL κ gC post) 126 [(0, vR (3, l0)), (1, vI l1), (2, vI l2), (3, vI l3), (5, vI x14)] [] M) ∧ ((¬ x14 < (16 : Int32)) → ((23 : Int32) < x14 → eg_W κ gC mtX3_value d (eQL κ gC post) 126 [(0, vR (3, l0)), (1, vI l1), (2, vI l2), (3, vI l3), (5, vI x14)] [] M) ∧ ((¬ (23 : Int32) < x14) → (vp_in (x14 - (16 : Int32)) 8 ∧ (vp_in l2 64 ∧ (∀ M21 : eg_H, M21 = (sL M (27, l0) l2.toNatClampNeg (M.2.1 (26, l0) (x14 - (16 : Int32)).toNatClampNeg)) → (∀ x22 : Int32, x22 = (l2 + (1 : Int32)) → (∀ x23 : Int32, x23 = (l3 + (1 : Int32)) → eg_W κ gC mtX3_value d (eQL κ gC post) 25 [(0, vR (3, l0)), (1, vI l1), (2, vI x22), (3, vI x23)] [] M21)))))))) ∧ ((¬ (10000 : Int32) ≤ x13) → (vp_in l2 64 ∧ (∀ M25 : eg_H, M25 = (sL M (27, l0) l2.toNatClampNeg (x13.toInt64)) → (∀ x26 : Int32, x26 = (l2 + (1 : Int32)) → (∀ x27 : Int32, x27 = (l3 + (1 : Int32)) → eg_W κ gC mtX3_value d (eQL κ gC post) 25 [(0, vR (3, l0)), (1, vI l1), (2, vI x26), (3, vI x27)] [] M25)))))) ∧ ((¬ l2 < (64 : Int32)) → post (-9223372036854775808 : Int64) M)))))))) : eg_W κ gC mtX3_value d (eQL κ gC post) 25 [(0, vR (3, l0)), (1, vI l1), (2, vI l2), (3, vI l3)] [] M := by
  refine eg_iload_n 3 dX3_value_25 rfl rfl ?_
  refine eg_aload_n 0 dX3_value_26 rfl rfl ?_
  refine eg_getR dX3_value_27 fl_3_18 rfl rfl (obC_3 hl0) ?_
  show eg_W κ gC mtX3_value d (eQL κ gC post) 30 [(0, vR (3, l0)), (1, vI l1), (2, vI l2), (3, vI l3)] [vR (25, l0), vI l3] M
  refine eg_iload_n 1 dX3_value_30 rfl rfl ?_
  obtain ⟨g1, h⟩ := h
  refine eg_iaload dX3_value_31 (arC_25 hl0 g1) ?_
  refine eg_icmp_ge (tgt := 226) dX3_value_32 rfl (fun c2 => ?_) (fun c2 => ?_)
  · have h := h.1 c2
    refine eg_iload_n 2 dX3_value_226 rfl rfl ?_
    refine eg_iconst dX3_value_227 ic_1 ?_
    obtain ⟨g3, h⟩ := h
    have J : ∀ x4 : Int64, x4 = (if (¬ l2 = (1 : Int32)) then (-9223372036854775808 : Int64) else (M.2.1 (27, l0) (0 : Int32).toNatClampNeg)) → eg_W κ gC mtX3_value d (eQL κ gC post) 243 [(0, vR (3, l0)), (1, vI l1), (2, vI l2), (3, vI l3)] [vL x4] M := by
      intro x4 ex4
      have h := h x4 ex4
      exact eg_lreturn dX3_value_243 rfl h
    clear h
    refine eg_icmp_ne (tgt := 240) dX3_value_228 rfl (fun c5 => ?_) (fun c5 => ?_)
    · refine eg_ldc2 dX3_value_240 kc_3_41 ?_
      exact J _ (by rw [if_pos c5])
    · have c6 : ¬ (¬ l2 = (1 : Int32)) := fun z => z c5
      refine eg_aload_n 0 dX3_value_231 rfl rfl ?_
      refine eg_getR dX3_value_232 fl_3_25 rfl rfl (obC_3 hl0) ?_
      show eg_W κ gC mtX3_value d (eQL κ gC post) 235 [(0, vR (3, l0)), (1, vI l1), (2, vI l2), (3, vI l3)] [vR (27, l0)] M
      refine eg_iconst dX3_value_235 ic_0 ?_
      refine eg_laload dX3_value_236 (arC_27 hl0 (g3 (show l2 = (1 : Int32) from by first | exact c6 | exact Classical.not_not.mp c6))) ?_
      refine eg_goto (tgt := 243) dX3_value_237 rfl ?_
      exact J _ (by rw [if_neg c6])
  · have h := h.2 c2
    refine eg_iload_n 3 dX3_value_35 rfl rfl ?_
    refine eg_bipush dX3_value_36 bp_64 ?_
    refine eg_icmp_ge (tgt := 226) dX3_value_38 rfl (fun c7 => ?_) (fun c7 => ?_)
    · have h := h.1 c7
      refine eg_iload_n 2 dX3_value_226 rfl rfl ?_
      refine eg_iconst dX3_value_227 ic_1 ?_
      obtain ⟨g8, h⟩ := h
      have J : ∀ x9 : Int64, x9 = (if (¬ l2 = (1 : Int32)) then (-9223372036854775808 : Int64) else (M.2.1 (27, l0) (0 : Int32).toNatClampNeg)) → eg_W κ gC mtX3_value d (eQL κ gC post) 243 [(0, vR (3, l0)), (1, vI l1), (2, vI l2), (3, vI l3)] [vL x9] M := by
        intro x9 ex9
        have h := h x9 ex9
        exact eg_lreturn dX3_value_243 rfl h
      clear h
      refine eg_icmp_ne (tgt := 240) dX3_value_228 rfl (fun c10 => ?_) (fun c10 => ?_)
      · refine eg_ldc2 dX3_value_240 kc_3_41 ?_
        exact J _ (by rw [if_pos c10])
      · have c11 : ¬ (¬ l2 = (1 : Int32)) := fun z => z c10
        refine eg_aload_n 0 dX3_value_231 rfl rfl ?_
        refine eg_getR dX3_value_232 fl_3_25 rfl rfl (obC_3 hl0) ?_
        show eg_W κ gC mtX3_value d (eQL κ gC post) 235 [(0, vR (3, l0)), (1, vI l1), (2, vI l2), (3, vI l3)] [vR (27, l0)] M
        refine eg_iconst dX3_value_235 ic_0 ?_
        refine eg_laload dX3_value_236 (arC_27 hl0 (g8 (show l2 = (1 : Int32) from by first | exact c11 | exact Classical.not_not.mp c11))) ?_
        refine eg_goto (tgt := 243) dX3_value_237 rfl ?_
        exact J _ (by rw [if_neg c11])
    · have h := h.2 c7
      refine eg_aload_n 0 dX3_value_41 rfl rfl ?_
      refine eg_getR dX3_value_42 fl_3_9 rfl rfl (obC_3 hl0) ?_
      show eg_W κ gC mtX3_value d (eQL κ gC post) 45 [(0, vR (3, l0)), (1, vI l1), (2, vI l2), (3, vI l3)] [vR (23, l0)] M
      refine eg_iload_n 3 dX3_value_45 rfl rfl ?_
      obtain ⟨g12, h⟩ := h
      refine eg_iaload dX3_value_46 (arC_23 hl0 g12) ?_
      refine en_istore (f := fun x13 => [(4, vI x13), (0, vR (3, l0)), (1, vI l1), (2, vI l2), (3, vI l3)]) dX3_value_47 (by decide) rfl (fun x13 ex13 => ?_)
      have h := h x13 ex13
      refine eg_iload 0 dX3_value_49 rfl ?_
      refine eg_sipush dX3_value_51 sp_10000 ?_
      refine eg_isub dX3_value_54 ?_
      refine en_istore (f := fun x14 => [(5, vI x14), (4, vI x13), (0, vR (3, l0)), (1, vI l1), (2, vI l2), (3, vI l3)]) dX3_value_55 (by decide) rfl (fun x14 ex14 => ?_)
      have h := h x14 ex14
      refine eg_iload_n 4 dX3_value_57 rfl rfl ?_
      refine eg_bipush dX3_value_58 bp_64 ?_
      refine eg_icmp_lt (tgt := 67) dX3_value_60 rfl (fun c15 => ?_) (fun c15 => ?_)
      · have h := h.1 c15
        refine eg_iload 1 dX3_value_67 rfl ?_
        refine eg_sipush dX3_value_69 sp_10000 ?_
        refine eg_icmp_ge (tgt := 90) dX3_value_72 rfl (fun c16 => ?_) (fun c16 => ?_)
        · have h := h.1 c16
          refine eg_iload 0 dX3_value_90 rfl ?_
          refine eg_bipush dX3_value_92 bp_16 ?_
          refine eg_icmp_lt (tgt := 126) dX3_value_94 rfl (fun c17 => ?_) (fun c17 => ?_)
          · have h := h.1 c17
            refine eg_sub [2, 3, 4, 5, 0] rfl ?_
            exact h
          · have h := h.2 c17
            refine eg_iload 0 dX3_value_97 rfl ?_
            refine eg_bipush dX3_value_99 bp_23 ?_
            refine eg_icmp_gt (tgt := 126) dX3_value_101 rfl (fun c18 => ?_) (fun c18 => ?_)
            · have h := h.1 c18
              refine eg_sub [2, 3, 4, 5, 0] rfl ?_
              exact h
            · have h := h.2 c18
              refine eg_aload_n 2 dX3_value_104 rfl rfl ?_
              refine eg_getR dX3_value_105 fl_3_25 rfl rfl (obC_3 hl0) ?_
              show eg_W κ gC mtX3_value d (eQL κ gC post) 108 [(5, vI x14), (4, vI x13), (0, vR (3, l0)), (1, vI l1), (2, vI l2), (3, vI l3)] [vR (27, l0)] M
              refine eg_iload_n 4 dX3_value_108 rfl rfl ?_
              refine eg_aload_n 2 dX3_value_109 rfl rfl ?_
              refine eg_getR dX3_value_110 fl_3_21 rfl rfl (obC_3 hl0) ?_
              show eg_W κ gC mtX3_value d (eQL κ gC post) 113 [(5, vI x14), (4, vI x13), (0, vR (3, l0)), (1, vI l1), (2, vI l2), (3, vI l3)] [vR (26, l0), vI l2, vR (27, l0)] M
              refine eg_iload 0 dX3_value_113 rfl ?_
              refine eg_bipush dX3_value_115 bp_16 ?_
              refine eg_isub dX3_value_117 ?_
              obtain ⟨g19, h⟩ := h
              refine eg_laload dX3_value_118 (arC_26 hl0 g19) ?_
              obtain ⟨g20, h⟩ := h
              refine en_lastore dX3_value_119 (arC_27 hl0 g20) (fun M21 eM21 => ?_)
              have h := h M21 eM21
              refine en_iinc (f := fun x22 => [(2, vI x22), (5, vI x14), (4, vI x13), (0, vR (3, l0)), (1, vI l1), (3, vI l3)]) 4 dX3_value_120 rfl rfl (by decide) rfl (fun x22 ex22 => ?_)
              have h := h x22 ex22
              refine eg_goto (tgt := 220) dX3_value_123 rfl ?_
              refine en_iinc (f := fun x23 => [(3, vI x23), (2, vI x22), (5, vI x14), (4, vI x13), (0, vR (3, l0)), (1, vI l1)]) 5 dX3_value_220 rfl rfl (by decide) rfl (fun x23 ex23 => ?_)
              have h := h x23 ex23
              refine eg_goto (tgt := 25) dX3_value_223 rfl ?_
              refine eg_sub [4, 5, 1, 0] rfl ?_
              exact h
        · have h := h.2 c16
          refine eg_aload_n 2 dX3_value_75 rfl rfl ?_
          refine eg_getR dX3_value_76 fl_3_25 rfl rfl (obC_3 hl0) ?_
          show eg_W κ gC mtX3_value d (eQL κ gC post) 79 [(5, vI x14), (4, vI x13), (0, vR (3, l0)), (1, vI l1), (2, vI l2), (3, vI l3)] [vR (27, l0)] M
          refine eg_iload_n 4 dX3_value_79 rfl rfl ?_
          refine eg_iload 1 dX3_value_80 rfl ?_
          refine eg_i2l dX3_value_82 ?_
          obtain ⟨g24, h⟩ := h
          refine en_lastore dX3_value_83 (arC_27 hl0 g24) (fun M25 eM25 => ?_)
          have h := h M25 eM25
          refine en_iinc (f := fun x26 => [(2, vI x26), (5, vI x14), (4, vI x13), (0, vR (3, l0)), (1, vI l1), (3, vI l3)]) 4 dX3_value_84 rfl rfl (by decide) rfl (fun x26 ex26 => ?_)
          have h := h x26 ex26
          refine eg_goto (tgt := 220) dX3_value_87 rfl ?_
          refine en_iinc (f := fun x27 => [(3, vI x27), (2, vI x26), (5, vI x14), (4, vI x13), (0, vR (3, l0)), (1, vI l1)]) 5 dX3_value_220 rfl rfl (by decide) rfl (fun x27 ex27 => ?_)
          have h := h x27 ex27
          refine eg_goto (tgt := 25) dX3_value_223 rfl ?_
          refine eg_sub [4, 5, 1, 0] rfl ?_
          exact h
      · have h := h.2 c15
        refine eg_ldc2 dX3_value_63 kc_3_41 ?_
        exact eg_lreturn dX3_value_66 rfl h
set_option maxRecDepth 10000 in
theorem vX3_value_126 {κ : eg_K} {d : Nat} {post : Int64 → eg_H → Prop} (M : eg_H) {l0 : Nat} (hl0 : l0 < 2) (l1 : Int32) (l2 : Int32) (l3 : Int32) (l5 : Int32) (h : ((¬ l5 = (15 : Int32)) → eg_W κ gC mtX3_value d (eQL κ gC post) 166 [(0, vR (3, l0)), (1, vI l1), (2, vI l2), (3, vI l3), (5, vI l5)] [] M) ∧ (l5 = (15 : Int32) → (l2 ≤ 0 → eg_W κ gC mtX3_value d (eQL κ gC post) 166 [(0, vR (3, l0)), (1, vI l1), (2, vI l2), (3, vI l3), (5, vI l5)] [] M) ∧ ((¬ l2 ≤ 0) → (vp_in (l2 - (1 : Int32)) 64 ∧ (∀ x4 : Int64, x4 = ((if (¬ (lg_cmp (M.2.1 (27, l0) (l2 - (1 : Int32)).toNatClampNeg) (0 : Int64)) = 0) then (0 : Int64) else (1 : Int64))) → (∀ M5 : eg_H, M5 = (sL M (27, l0) (l2 - (1 : Int32)).toNatClampNeg x4) → (∀ x6 : Int32, x6 = (l3 + (1 : Int32)) → eg_W κ gC mtX3_value d (eQL κ gC post) 25 [(0, vR (3, l0)), (1, vI l1), (2, vI l2), (3, vI x6)] [] M5))))))) : eg_W κ gC mtX3_value d (eQL κ gC post) 126 [(0, vR (3, l0)), (1, vI l1), (2, vI l2), (3, vI l3), (5, vI l5)] [] M := by
  refine eg_iload 4 dX3_value_126 rfl ?_
  refine eg_bipush dX3_value_128 bp_15 ?_
  refine eg_icmp_ne (tgt := 166) dX3_value_130 rfl (fun c1 => ?_) (fun c1 => ?_)
  · have h := h.1 c1
    exact h
  · have h := h.2 c1
    refine eg_iload_n 2 dX3_value_133 rfl rfl ?_
    refine eg_if_le (tgt := 166) dX3_value_134 rfl (fun c2 => ?_) (fun c2 => ?_)
    · have h := h.1 c2
      exact h
    · have h := h.2 c2
      refine eg_aload_n 0 dX3_value_137 rfl rfl ?_
      refine eg_getR dX3_value_138 fl_3_25 rfl rfl (obC_3 hl0) ?_
      show eg_W κ gC mtX3_value d (eQL κ gC post) 141 [(0, vR (3, l0)), (1, vI l1), (2, vI l2), (3, vI l3), (5, vI l5)] [vR (27, l0)] M
      refine eg_iload_n 2 dX3_value_141 rfl rfl ?_
      refine eg_iconst dX3_value_142 ic_1 ?_
      refine eg_isub dX3_value_143 ?_
      refine eg_aload_n 0 dX3_value_144 rfl rfl ?_
      refine eg_getR dX3_value_145 fl_3_25 rfl rfl (obC_3 hl0) ?_
      show eg_W κ gC mtX3_value d (eQL κ gC post) 148 [(0, vR (3, l0)), (1, vI l1), (2, vI l2), (3, vI l3), (5, vI l5)] [vR (27, l0), vI (l2 - (1 : Int32)), vR (27, l0)] M
      refine eg_iload_n 2 dX3_value_148 rfl rfl ?_
      refine eg_iconst dX3_value_149 ic_1 ?_
      refine eg_isub dX3_value_150 ?_
      obtain ⟨g3, h⟩ := h
      refine eg_laload dX3_value_151 (arC_27 hl0 g3) ?_
      refine eg_lconst dX3_value_152 lc_0 ?_
      refine eg_lcmp dX3_value_153 ?_
      have J : ∀ x4 : Int64, x4 = (if (¬ (lg_cmp (M.2.1 (27, l0) (l2 - (1 : Int32)).toNatClampNeg) (0 : Int64)) = 0) then (0 : Int64) else (1 : Int64)) → eg_W κ gC mtX3_value d (eQL κ gC post) 162 [(0, vR (3, l0)), (1, vI l1), (2, vI l2), (3, vI l3), (5, vI l5)] [vL x4, vI (l2 - (1 : Int32)), vR (27, l0)] M := by
        intro x4 ex4
        have h := h x4 ex4
        refine en_lastore dX3_value_162 (arC_27 hl0 g3) (fun M5 eM5 => ?_)
        have h := h M5 eM5
        refine eg_goto (tgt := 220) dX3_value_163 rfl ?_
        refine en_iinc (f := fun x6 => [(3, vI x6), (0, vR (3, l0)), (1, vI l1), (2, vI l2), (5, vI l5)]) 3 dX3_value_220 rfl rfl (by decide) rfl (fun x6 ex6 => ?_)
        have h := h x6 ex6
        refine eg_goto (tgt := 25) dX3_value_223 rfl ?_
        refine eg_sub [1, 2, 3, 0] rfl ?_
        exact h
      clear h
      refine eg_if_ne (tgt := 161) dX3_value_154 rfl (fun c7 => ?_) (fun c7 => ?_)
      · refine eg_lconst dX3_value_161 lc_0 ?_
        exact J _ (by rw [if_pos c7])
      · have c8 : ¬ (¬ (lg_cmp (M.2.1 (27, l0) (l2 - (1 : Int32)).toNatClampNeg) (0 : Int64)) = 0) := fun z => z c7
        refine eg_lconst dX3_value_157 lc_1 ?_
        refine eg_goto (tgt := 162) dX3_value_158 rfl ?_
        exact J _ (by rw [if_neg c8])
set_option maxRecDepth 10000 in
theorem vX3_value_166 {κ : eg_K} {d : Nat} (hd : 1 ≤ d) {post : Int64 → eg_H → Prop} (M : eg_H) {l0 : Nat} (hl0 : l0 < 2) (l1 : Int32) (l2 : Int32) (l3 : Int32) (l5 : Int32) (h : (l2 ≤ (1 : Int32) → (∀ x2 : Int32, x2 = (l3 + (1 : Int32)) → eg_W κ gC mtX3_value d (eQL κ gC post) 25 [(0, vR (3, l0)), (1, vI l1), (2, vI l2), (3, vI x2)] [] M)) ∧ ((¬ l2 ≤ (1 : Int32)) → (∀ x3 : Int32, x3 = (l2 + (-1 : Int32)) → (vp_in (x3 - (1 : Int32)) 64 ∧ (vp_in x3 64 ∧ eCL κ gC mtX3_combined d [vI l5, vL (M.2.1 (27, l0) (x3 - (1 : Int32)).toNatClampNeg), vL (M.2.1 (27, l0) x3.toNatClampNeg)] M (fun x6 M7 => (∀ M9 : eg_H, M9 = (sL M7 (27, l0) (x3 - (1 : Int32)).toNatClampNeg x6) → ((¬ (lg_cmp (M9.2.1 (27, l0) (x3 - (1 : Int32)).toNatClampNeg) (-9223372036854775808 : Int64)) = 0) → (∀ x11 : Int32, x11 = (l3 + (1 : Int32)) → eg_W κ gC mtX3_value d (eQL κ gC post) 25 [(0, vR (3, l0)), (1, vI l1), (2, vI x3), (3, vI x11)] [] M9)) ∧ ((lg_cmp (M9.2.1 (27, l0) (x3 - (1 : Int32)).toNatClampNeg) (-9223372036854775808 : Int64)) = 0 → post (-9223372036854775808 : Int64) M9)))))))) : eg_W κ gC mtX3_value d (eQL κ gC post) 166 [(0, vR (3, l0)), (1, vI l1), (2, vI l2), (3, vI l3), (5, vI l5)] [] M := by
  refine eg_iload_n 2 dX3_value_166 rfl rfl ?_
  refine eg_iconst dX3_value_167 ic_1 ?_
  refine eg_icmp_le (tgt := 220) dX3_value_168 rfl (fun c1 => ?_) (fun c1 => ?_)
  · have h := h.1 c1
    refine en_iinc (f := fun x2 => [(3, vI x2), (0, vR (3, l0)), (1, vI l1), (2, vI l2), (5, vI l5)]) 3 dX3_value_220 rfl rfl (by decide) rfl (fun x2 ex2 => ?_)
    have h := h x2 ex2
    refine eg_goto (tgt := 25) dX3_value_223 rfl ?_
    refine eg_sub [1, 2, 3, 0] rfl ?_
    exact h
  · have h := h.2 c1
    refine en_iinc (f := fun x3 => [(2, vI x3), (0, vR (3, l0)), (1, vI l1), (3, vI l3), (5, vI l5)]) 2 dX3_value_171 rfl rfl (by decide) rfl (fun x3 ex3 => ?_)
    have h := h x3 ex3
    refine eg_aload_n 1 dX3_value_174 rfl rfl ?_
    refine eg_getR dX3_value_175 fl_3_25 rfl rfl (obC_3 hl0) ?_
    show eg_W κ gC mtX3_value d (eQL κ gC post) 178 [(2, vI x3), (0, vR (3, l0)), (1, vI l1), (3, vI l3), (5, vI l5)] [vR (27, l0)] M
    refine eg_iload_n 0 dX3_value_178 rfl rfl ?_
    refine eg_iconst dX3_value_179 ic_1 ?_
    refine eg_isub dX3_value_180 ?_
    refine eg_iload 4 dX3_value_181 rfl ?_
    refine eg_aload_n 1 dX3_value_183 rfl rfl ?_
    refine eg_getR dX3_value_184 fl_3_25 rfl rfl (obC_3 hl0) ?_
    show eg_W κ gC mtX3_value d (eQL κ gC post) 187 [(2, vI x3), (0, vR (3, l0)), (1, vI l1), (3, vI l3), (5, vI l5)] [vR (27, l0), vI l5, vI (x3 - (1 : Int32)), vR (27, l0)] M
    refine eg_iload_n 0 dX3_value_187 rfl rfl ?_
    refine eg_iconst dX3_value_188 ic_1 ?_
    refine eg_isub dX3_value_189 ?_
    obtain ⟨g4, h⟩ := h
    refine eg_laload dX3_value_190 (arC_27 hl0 g4) ?_
    refine eg_aload_n 1 dX3_value_191 rfl rfl ?_
    refine eg_getR dX3_value_192 fl_3_25 rfl rfl (obC_3 hl0) ?_
    show eg_W κ gC mtX3_value d (eQL κ gC post) 195 [(2, vI x3), (0, vR (3, l0)), (1, vI l1), (3, vI l3), (5, vI l5)] [vR (27, l0), vL (M.2.1 (27, l0) (x3 - (1 : Int32)).toNatClampNeg), vI l5, vI (x3 - (1 : Int32)), vR (27, l0)] M
    refine eg_iload_n 0 dX3_value_195 rfl rfl ?_
    obtain ⟨g5, h⟩ := h
    refine eg_laload dX3_value_196 (arC_27 hl0 g5) ?_
    obtain ⟨q8, hq8, h⟩ := h
    refine eg_callSL (av := [vI l5, vL (M.2.1 (27, l0) (x3 - (1 : Int32)).toNatClampNeg), vL (M.2.1 (27, l0) x3.toNatClampNeg)]) (st := [vI (x3 - (1 : Int32)), vR (27, l0)]) dX3_value_197 ml_3_43 rfl rfl (Nat.le_of_ble_eq_true rfl) (eg_dd hd) hq8 (fun x6 M7 hp => ?_)
    have h := h x6 M7 hp
    refine en_lastore dX3_value_200 (arC_27 hl0 g4) (fun M9 eM9 => ?_)
    have h := h M9 eM9
    refine eg_aload_n 1 dX3_value_201 rfl rfl ?_
    refine eg_getR dX3_value_202 fl_3_25 rfl rfl (obC_3 hl0) ?_
    show eg_W κ gC mtX3_value d (eQL κ gC post) 205 [(2, vI x3), (0, vR (3, l0)), (1, vI l1), (3, vI l3), (5, vI l5)] [vR (27, l0)] M9
    refine eg_iload_n 0 dX3_value_205 rfl rfl ?_
    refine eg_iconst dX3_value_206 ic_1 ?_
    refine eg_isub dX3_value_207 ?_
    refine eg_laload dX3_value_208 (arC_27 hl0 g4) ?_
    refine eg_ldc2 dX3_value_209 kc_3_41 ?_
    refine eg_lcmp dX3_value_212 ?_
    refine eg_if_ne (tgt := 220) dX3_value_213 rfl (fun c10 => ?_) (fun c10 => ?_)
    · have h := h.1 c10
      refine en_iinc (f := fun x11 => [(3, vI x11), (2, vI x3), (0, vR (3, l0)), (1, vI l1), (5, vI l5)]) 3 dX3_value_220 rfl rfl (by decide) rfl (fun x11 ex11 => ?_)
      have h := h x11 ex11
      refine eg_goto (tgt := 25) dX3_value_223 rfl ?_
      refine eg_sub [2, 3, 1, 0] rfl ?_
      exact h
    · have h := h.2 c10
      refine eg_ldc2 dX3_value_216 kc_3_41 ?_
      exact eg_lreturn dX3_value_219 rfl h
theorem dX3_combined_0 : decode cX3_combined 0 = .ok (.iload_n 0, 1) := by decide +kernel
theorem dX3_combined_1 : decode cX3_combined 1 = .ok (.tableswitch 291 13 33 #[99, 117, 291, 291, 291, 291, 291, 291, 291, 291, 291, 207, 215, 223, 273, 135, 147, 159, 171, 183, 195], 99) := by decide +kernel
theorem dX3_combined_100 : decode cX3_combined 100 = .ok (.lload_n 1, 1) := by decide +kernel
theorem dX3_combined_101 : decode cX3_combined 101 = .ok (.lconst 0, 1) := by decide +kernel
theorem dX3_combined_102 : decode cX3_combined 102 = .ok (.lcmp, 1) := by decide +kernel
theorem dX3_combined_103 : decode cX3_combined 103 = .ok (.ifCond .ne 9, 3) := by decide +kernel
theorem dX3_combined_106 : decode cX3_combined 106 = .ok (.lload_n 3, 1) := by decide +kernel
theorem dX3_combined_107 : decode cX3_combined 107 = .ok (.lconst 0, 1) := by decide +kernel
theorem dX3_combined_108 : decode cX3_combined 108 = .ok (.lcmp, 1) := by decide +kernel
theorem dX3_combined_109 : decode cX3_combined 109 = .ok (.ifCond .eq 7, 3) := by decide +kernel
theorem dX3_combined_112 : decode cX3_combined 112 = .ok (.lconst 1, 1) := by decide +kernel
theorem dX3_combined_113 : decode cX3_combined 113 = .ok (.goto 4, 3) := by decide +kernel
theorem dX3_combined_116 : decode cX3_combined 116 = .ok (.lconst 0, 1) := by decide +kernel
theorem dX3_combined_117 : decode cX3_combined 117 = .ok (.lreturn, 1) := by decide +kernel
theorem dX3_combined_118 : decode cX3_combined 118 = .ok (.lload_n 1, 1) := by decide +kernel
theorem dX3_combined_119 : decode cX3_combined 119 = .ok (.lconst 0, 1) := by decide +kernel
theorem dX3_combined_120 : decode cX3_combined 120 = .ok (.lcmp, 1) := by decide +kernel
theorem dX3_combined_121 : decode cX3_combined 121 = .ok (.ifCond .eq 13, 3) := by decide +kernel
theorem dX3_combined_124 : decode cX3_combined 124 = .ok (.lload_n 3, 1) := by decide +kernel
theorem dX3_combined_125 : decode cX3_combined 125 = .ok (.lconst 0, 1) := by decide +kernel
theorem dX3_combined_126 : decode cX3_combined 126 = .ok (.lcmp, 1) := by decide +kernel
theorem dX3_combined_127 : decode cX3_combined 127 = .ok (.ifCond .eq 7, 3) := by decide +kernel
theorem dX3_combined_130 : decode cX3_combined 130 = .ok (.lconst 1, 1) := by decide +kernel
theorem dX3_combined_131 : decode cX3_combined 131 = .ok (.goto 4, 3) := by decide +kernel
theorem dX3_combined_134 : decode cX3_combined 134 = .ok (.lconst 0, 1) := by decide +kernel
theorem dX3_combined_135 : decode cX3_combined 135 = .ok (.lreturn, 1) := by decide +kernel
theorem dX3_combined_136 : decode cX3_combined 136 = .ok (.lload_n 1, 1) := by decide +kernel
theorem dX3_combined_137 : decode cX3_combined 137 = .ok (.lload_n 3, 1) := by decide +kernel
theorem dX3_combined_138 : decode cX3_combined 138 = .ok (.lcmp, 1) := by decide +kernel
theorem dX3_combined_139 : decode cX3_combined 139 = .ok (.ifCond .ge 7, 3) := by decide +kernel
theorem dX3_combined_142 : decode cX3_combined 142 = .ok (.lconst 1, 1) := by decide +kernel
theorem dX3_combined_143 : decode cX3_combined 143 = .ok (.goto 4, 3) := by decide +kernel
theorem dX3_combined_146 : decode cX3_combined 146 = .ok (.lconst 0, 1) := by decide +kernel
theorem dX3_combined_147 : decode cX3_combined 147 = .ok (.lreturn, 1) := by decide +kernel
theorem dX3_combined_148 : decode cX3_combined 148 = .ok (.lload_n 1, 1) := by decide +kernel
theorem dX3_combined_149 : decode cX3_combined 149 = .ok (.lload_n 3, 1) := by decide +kernel
theorem dX3_combined_150 : decode cX3_combined 150 = .ok (.lcmp, 1) := by decide +kernel
theorem dX3_combined_151 : decode cX3_combined 151 = .ok (.ifCond .gt 7, 3) := by decide +kernel
theorem dX3_combined_154 : decode cX3_combined 154 = .ok (.lconst 1, 1) := by decide +kernel
theorem dX3_combined_155 : decode cX3_combined 155 = .ok (.goto 4, 3) := by decide +kernel
theorem dX3_combined_158 : decode cX3_combined 158 = .ok (.lconst 0, 1) := by decide +kernel
theorem dX3_combined_159 : decode cX3_combined 159 = .ok (.lreturn, 1) := by decide +kernel
theorem dX3_combined_160 : decode cX3_combined 160 = .ok (.lload_n 1, 1) := by decide +kernel
theorem dX3_combined_161 : decode cX3_combined 161 = .ok (.lload_n 3, 1) := by decide +kernel
theorem dX3_combined_162 : decode cX3_combined 162 = .ok (.lcmp, 1) := by decide +kernel
theorem dX3_combined_163 : decode cX3_combined 163 = .ok (.ifCond .ne 7, 3) := by decide +kernel
theorem dX3_combined_166 : decode cX3_combined 166 = .ok (.lconst 1, 1) := by decide +kernel
theorem dX3_combined_167 : decode cX3_combined 167 = .ok (.goto 4, 3) := by decide +kernel
theorem dX3_combined_170 : decode cX3_combined 170 = .ok (.lconst 0, 1) := by decide +kernel
theorem dX3_combined_171 : decode cX3_combined 171 = .ok (.lreturn, 1) := by decide +kernel
theorem dX3_combined_172 : decode cX3_combined 172 = .ok (.lload_n 1, 1) := by decide +kernel
theorem dX3_combined_173 : decode cX3_combined 173 = .ok (.lload_n 3, 1) := by decide +kernel
theorem dX3_combined_174 : decode cX3_combined 174 = .ok (.lcmp, 1) := by decide +kernel
theorem dX3_combined_175 : decode cX3_combined 175 = .ok (.ifCond .eq 7, 3) := by decide +kernel
theorem dX3_combined_178 : decode cX3_combined 178 = .ok (.lconst 1, 1) := by decide +kernel
theorem dX3_combined_179 : decode cX3_combined 179 = .ok (.goto 4, 3) := by decide +kernel
theorem dX3_combined_182 : decode cX3_combined 182 = .ok (.lconst 0, 1) := by decide +kernel
theorem dX3_combined_183 : decode cX3_combined 183 = .ok (.lreturn, 1) := by decide +kernel
theorem dX3_combined_184 : decode cX3_combined 184 = .ok (.lload_n 1, 1) := by decide +kernel
theorem dX3_combined_185 : decode cX3_combined 185 = .ok (.lload_n 3, 1) := by decide +kernel
theorem dX3_combined_186 : decode cX3_combined 186 = .ok (.lcmp, 1) := by decide +kernel
theorem dX3_combined_187 : decode cX3_combined 187 = .ok (.ifCond .lt 7, 3) := by decide +kernel
theorem dX3_combined_190 : decode cX3_combined 190 = .ok (.lconst 1, 1) := by decide +kernel
theorem dX3_combined_191 : decode cX3_combined 191 = .ok (.goto 4, 3) := by decide +kernel
theorem dX3_combined_194 : decode cX3_combined 194 = .ok (.lconst 0, 1) := by decide +kernel
theorem dX3_combined_195 : decode cX3_combined 195 = .ok (.lreturn, 1) := by decide +kernel
theorem dX3_combined_196 : decode cX3_combined 196 = .ok (.lload_n 1, 1) := by decide +kernel
theorem dX3_combined_197 : decode cX3_combined 197 = .ok (.lload_n 3, 1) := by decide +kernel
theorem dX3_combined_198 : decode cX3_combined 198 = .ok (.lcmp, 1) := by decide +kernel
theorem dX3_combined_199 : decode cX3_combined 199 = .ok (.ifCond .le 7, 3) := by decide +kernel
theorem dX3_combined_202 : decode cX3_combined 202 = .ok (.lconst 1, 1) := by decide +kernel
theorem dX3_combined_203 : decode cX3_combined 203 = .ok (.goto 4, 3) := by decide +kernel
theorem dX3_combined_206 : decode cX3_combined 206 = .ok (.lconst 0, 1) := by decide +kernel
theorem dX3_combined_207 : decode cX3_combined 207 = .ok (.lreturn, 1) := by decide +kernel
theorem dX3_combined_208 : decode cX3_combined 208 = .ok (.lload_n 1, 1) := by decide +kernel
theorem dX3_combined_209 : decode cX3_combined 209 = .ok (.lload_n 3, 1) := by decide +kernel
theorem dX3_combined_210 : decode cX3_combined 210 = .ok (.ladd, 1) := by decide +kernel
theorem dX3_combined_211 : decode cX3_combined 211 = .ok (.lstore 5, 2) := by decide +kernel
theorem dX3_combined_213 : decode cX3_combined 213 = .ok (.goto 83, 3) := by decide +kernel
theorem dX3_combined_216 : decode cX3_combined 216 = .ok (.lload_n 1, 1) := by decide +kernel
theorem dX3_combined_217 : decode cX3_combined 217 = .ok (.lload_n 3, 1) := by decide +kernel
theorem dX3_combined_218 : decode cX3_combined 218 = .ok (.lsub, 1) := by decide +kernel
theorem dX3_combined_219 : decode cX3_combined 219 = .ok (.lstore 5, 2) := by decide +kernel
theorem dX3_combined_221 : decode cX3_combined 221 = .ok (.goto 75, 3) := by decide +kernel
theorem dX3_combined_224 : decode cX3_combined 224 = .ok (.lload_n 1, 1) := by decide +kernel
theorem dX3_combined_225 : decode cX3_combined 225 = .ok (.lconst 0, 1) := by decide +kernel
theorem dX3_combined_226 : decode cX3_combined 226 = .ok (.lcmp, 1) := by decide +kernel
theorem dX3_combined_227 : decode cX3_combined 227 = .ok (.ifCond .eq 39, 3) := by decide +kernel
theorem dX3_combined_230 : decode cX3_combined 230 = .ok (.lload_n 3, 1) := by decide +kernel
theorem dX3_combined_231 : decode cX3_combined 231 = .ok (.lconst 0, 1) := by decide +kernel
theorem dX3_combined_232 : decode cX3_combined 232 = .ok (.lcmp, 1) := by decide +kernel
theorem dX3_combined_233 : decode cX3_combined 233 = .ok (.ifCond .ge 8, 3) := by decide +kernel
theorem dX3_combined_236 : decode cX3_combined 236 = .ok (.lload_n 3, 1) := by decide +kernel
theorem dX3_combined_237 : decode cX3_combined 237 = .ok (.lneg, 1) := by decide +kernel
theorem dX3_combined_238 : decode cX3_combined 238 = .ok (.goto 4, 3) := by decide +kernel
theorem dX3_combined_241 : decode cX3_combined 241 = .ok (.lload_n 3, 1) := by decide +kernel
theorem dX3_combined_242 : decode cX3_combined 242 = .ok (.ldc2_w 47, 3) := by decide +kernel
theorem dX3_combined_245 : decode cX3_combined 245 = .ok (.lload_n 1, 1) := by decide +kernel
theorem dX3_combined_246 : decode cX3_combined 246 = .ok (.lconst 0, 1) := by decide +kernel
theorem dX3_combined_247 : decode cX3_combined 247 = .ok (.lcmp, 1) := by decide +kernel
theorem dX3_combined_248 : decode cX3_combined 248 = .ok (.ifCond .ge 8, 3) := by decide +kernel
theorem dX3_combined_251 : decode cX3_combined 251 = .ok (.lload_n 1, 1) := by decide +kernel
theorem dX3_combined_252 : decode cX3_combined 252 = .ok (.lneg, 1) := by decide +kernel
theorem dX3_combined_253 : decode cX3_combined 253 = .ok (.goto 4, 3) := by decide +kernel
theorem dX3_combined_256 : decode cX3_combined 256 = .ok (.lload_n 1, 1) := by decide +kernel
theorem dX3_combined_257 : decode cX3_combined 257 = .ok (.ldiv, 1) := by decide +kernel
theorem dX3_combined_258 : decode cX3_combined 258 = .ok (.lcmp, 1) := by decide +kernel
theorem dX3_combined_259 : decode cX3_combined 259 = .ok (.ifCond .le 7, 3) := by decide +kernel
theorem dX3_combined_262 : decode cX3_combined 262 = .ok (.ldc2_w 41, 3) := by decide +kernel
theorem dX3_combined_265 : decode cX3_combined 265 = .ok (.lreturn, 1) := by decide +kernel
theorem dX3_combined_266 : decode cX3_combined 266 = .ok (.lload_n 1, 1) := by decide +kernel
theorem dX3_combined_267 : decode cX3_combined 267 = .ok (.lload_n 3, 1) := by decide +kernel
theorem dX3_combined_268 : decode cX3_combined 268 = .ok (.lmul, 1) := by decide +kernel
theorem dX3_combined_269 : decode cX3_combined 269 = .ok (.lstore 5, 2) := by decide +kernel
theorem dX3_combined_271 : decode cX3_combined 271 = .ok (.goto 25, 3) := by decide +kernel
theorem dX3_combined_274 : decode cX3_combined 274 = .ok (.lload_n 3, 1) := by decide +kernel
theorem dX3_combined_275 : decode cX3_combined 275 = .ok (.lconst 0, 1) := by decide +kernel
theorem dX3_combined_276 : decode cX3_combined 276 = .ok (.lcmp, 1) := by decide +kernel
theorem dX3_combined_277 : decode cX3_combined 277 = .ok (.ifCond .ne 7, 3) := by decide +kernel
theorem dX3_combined_280 : decode cX3_combined 280 = .ok (.ldc2_w 41, 3) := by decide +kernel
theorem dX3_combined_283 : decode cX3_combined 283 = .ok (.lreturn, 1) := by decide +kernel
theorem dX3_combined_284 : decode cX3_combined 284 = .ok (.lload_n 1, 1) := by decide +kernel
theorem dX3_combined_285 : decode cX3_combined 285 = .ok (.lload_n 3, 1) := by decide +kernel
theorem dX3_combined_286 : decode cX3_combined 286 = .ok (.ldiv, 1) := by decide +kernel
theorem dX3_combined_287 : decode cX3_combined 287 = .ok (.lstore 5, 2) := by decide +kernel
theorem dX3_combined_289 : decode cX3_combined 289 = .ok (.goto 7, 3) := by decide +kernel
theorem dX3_combined_292 : decode cX3_combined 292 = .ok (.ldc2_w 41, 3) := by decide +kernel
theorem dX3_combined_295 : decode cX3_combined 295 = .ok (.lreturn, 1) := by decide +kernel
theorem dX3_combined_296 : decode cX3_combined 296 = .ok (.lload 5, 2) := by decide +kernel
theorem dX3_combined_298 : decode cX3_combined 298 = .ok (.ldc2_w 47, 3) := by decide +kernel
theorem dX3_combined_301 : decode cX3_combined 301 = .ok (.lcmp, 1) := by decide +kernel
theorem dX3_combined_302 : decode cX3_combined 302 = .ok (.ifCond .gt 12, 3) := by decide +kernel
theorem dX3_combined_305 : decode cX3_combined 305 = .ok (.lload 5, 2) := by decide +kernel
theorem dX3_combined_307 : decode cX3_combined 307 = .ok (.ldc2_w 49, 3) := by decide +kernel
theorem dX3_combined_310 : decode cX3_combined 310 = .ok (.lcmp, 1) := by decide +kernel
theorem dX3_combined_311 : decode cX3_combined 311 = .ok (.ifCond .ge 9, 3) := by decide +kernel
theorem dX3_combined_314 : decode cX3_combined 314 = .ok (.ldc2_w 41, 3) := by decide +kernel
theorem dX3_combined_317 : decode cX3_combined 317 = .ok (.goto 5, 3) := by decide +kernel
theorem dX3_combined_320 : decode cX3_combined 320 = .ok (.lload 5, 2) := by decide +kernel
theorem dX3_combined_322 : decode cX3_combined 322 = .ok (.lreturn, 1) := by decide +kernel
set_option maxRecDepth 10000 in
theorem vX3_combined_0 {κ : eg_K} {d : Nat} {post : Int64 → eg_H → Prop} (M : eg_H) (l0 : Int32) (l1 : Int64) (l3 : Int64) (h : ((¬ l0 = (13 : Int32)) → (¬ l0 = (14 : Int32)) → (¬ l0 = (24 : Int32)) → (¬ l0 = (25 : Int32)) → (¬ l0 = (26 : Int32)) → (¬ l0 = (27 : Int32)) → (¬ l0 = (28 : Int32)) → (¬ l0 = (29 : Int32)) → (¬ l0 = (30 : Int32)) → (¬ l0 = (31 : Int32)) → (¬ l0 = (32 : Int32)) → (¬ l0 = (33 : Int32)) → eg_W κ gC mtX3_combined d (eQL κ gC post) 292 [] [] M) ∧ (l0 = (13 : Int32) → (∀ x1 : Int64, x1 = ((if (¬ (lg_cmp l1 (0 : Int64)) = 0) then (1 : Int64) else (if (lg_cmp l3 (0 : Int64)) = 0 then (0 : Int64) else (1 : Int64)))) → post x1 M)) ∧ (l0 = (14 : Int32) → (∀ x5 : Int64, x5 = ((if (lg_cmp l1 (0 : Int64)) = 0 then (0 : Int64) else (if (lg_cmp l3 (0 : Int64)) = 0 then (0 : Int64) else (1 : Int64)))) → post x5 M)) ∧ (l0 = (24 : Int32) → (∀ x8 : Int64, x8 = (l1 + l3) → eg_W κ gC mtX3_combined d (eQL κ gC post) 296 [(5, vL x8)] [] M)) ∧ (l0 = (25 : Int32) → (∀ x9 : Int64, x9 = (l1 - l3) → eg_W κ gC mtX3_combined d (eQL κ gC post) 296 [(5, vL x9)] [] M)) ∧ (l0 = (26 : Int32) → ((lg_cmp l1 (0 : Int64)) = 0 → eg_W κ gC mtX3_combined d (eQL κ gC post) 266 [(1, vL l1), (3, vL l3)] [] M) ∧ ((¬ (lg_cmp l1 (0 : Int64)) = 0) → (∀ x11 : Int64, x11 = ((if 0 ≤ (lg_cmp l3 (0 : Int64)) then l3 else (-l3))) → (∀ x12 : Int64, x12 = ((if 0 ≤ (lg_cmp l1 (0 : Int64)) then l1 else (-l1))) → ((¬ x12 = 0) ∧ ((lg_cmp x11 ((1000000000000 : Int64) / x12)) ≤ 0 → eg_W κ gC mtX3_combined d (eQL κ gC post) 266 [(1, vL l1), (3, vL l3)] [] M) ∧ ((¬ (lg_cmp x11 ((1000000000000 : Int64) / x12)) ≤ 0) → post (-9223372036854775808 : Int64) M)))))) ∧ (l0 = (27 : Int32) → ((¬ (lg_cmp l3 (0 : Int64)) = 0) → ((¬ l3 = 0) ∧ (∀ x19 : Int64, x19 = (l1 / l3) → eg_W κ gC mtX3_combined d (eQL κ gC post) 296 [(5, vL x19)] [] M))) ∧ ((lg_cmp l3 (0 : Int64)) = 0 → post (-9223372036854775808 : Int64) M)) ∧ (l0 = (28 : Int32) → (∀ x20 : Int64, x20 = ((if 0 ≤ (lg_cmp l1 l3) then (0 : Int64) else (1 : Int64))) → post x20 M)) ∧ (l0 = (29 : Int32) → (∀ x22 : Int64, x22 = ((if 0 < (lg_cmp l1 l3) then (0 : Int64) else (1 : Int64))) → post x22 M)) ∧ (l0 = (30 : Int32) → (∀ x24 : Int64, x24 = ((if (¬ (lg_cmp l1 l3) = 0) then (0 : Int64) else (1 : Int64))) → post x24 M)) ∧ (l0 = (31 : Int32) → (∀ x27 : Int64, x27 = ((if (lg_cmp l1 l3) = 0 then (0 : Int64) else (1 : Int64))) → post x27 M)) ∧ (l0 = (32 : Int32) → (∀ x29 : Int64, x29 = ((if (lg_cmp l1 l3) < 0 then (0 : Int64) else (1 : Int64))) → post x29 M)) ∧ (l0 = (33 : Int32) → (∀ x31 : Int64, x31 = ((if (lg_cmp l1 l3) ≤ 0 then (0 : Int64) else (1 : Int64))) → post x31 M))) : eg_W κ gC mtX3_combined d (eQL κ gC post) 0 [(0, vI l0), (1, vL l1), (3, vL l3)] [] M := by
  refine eg_iload_n 0 dX3_combined_0 rfl rfl ?_
  have J : (¬ l0 = (13 : Int32)) → (¬ l0 = (14 : Int32)) → (¬ l0 = (24 : Int32)) → (¬ l0 = (25 : Int32)) → (¬ l0 = (26 : Int32)) → (¬ l0 = (27 : Int32)) → (¬ l0 = (28 : Int32)) → (¬ l0 = (29 : Int32)) → (¬ l0 = (30 : Int32)) → (¬ l0 = (31 : Int32)) → (¬ l0 = (32 : Int32)) → (¬ l0 = (33 : Int32)) → eg_W κ gC mtX3_combined d (eQL κ gC post) 292 [(0, vI l0), (1, vL l1), (3, vL l3)] [] M := by
    intro c0_ c1_ c11_ c12_ c13_ c14_ c15_ c16_ c17_ c18_ c19_ c20_
    have h := h.1 c0_ c1_ c11_ c12_ c13_ c14_ c15_ c16_ c17_ c18_ c19_ c20_
    refine eg_sub [] rfl ?_
    exact h
  by_cases c0_ : l0 = (13 : Int32)
  · refine eg_tabI (tgt := 100) dX3_combined_1 (by rw [c0_]; decide) (by rw [c0_]; decide) (off := 99) (by rw [c0_]; rfl) rfl ?_
    have h := h.2.1 c0_
    refine eg_lload_n 1 dX3_combined_100 rfl rfl ?_
    refine eg_lconst dX3_combined_101 lc_0 ?_
    refine eg_lcmp dX3_combined_102 ?_
    have J : ∀ x1 : Int64, x1 = (if (¬ (lg_cmp l1 (0 : Int64)) = 0) then (1 : Int64) else (if (lg_cmp l3 (0 : Int64)) = 0 then (0 : Int64) else (1 : Int64))) → eg_W κ gC mtX3_combined d (eQL κ gC post) 117 [(0, vI l0), (1, vL l1), (3, vL l3)] [vL x1] M := by
      intro x1 ex1
      have h := h x1 ex1
      exact eg_lreturn dX3_combined_117 rfl h
    clear h
    refine eg_if_ne (tgt := 112) dX3_combined_103 rfl (fun c2 => ?_) (fun c2 => ?_)
    · refine eg_lconst dX3_combined_112 lc_1 ?_
      refine eg_goto (tgt := 117) dX3_combined_113 rfl ?_
      exact J _ (by rw [if_pos c2])
    · have c3 : ¬ (¬ (lg_cmp l1 (0 : Int64)) = 0) := fun z => z c2
      refine eg_lload_n 2 dX3_combined_106 rfl rfl ?_
      refine eg_lconst dX3_combined_107 lc_0 ?_
      refine eg_lcmp dX3_combined_108 ?_
      refine eg_if_eq (tgt := 116) dX3_combined_109 rfl (fun c4 => ?_) (fun c4 => ?_)
      · refine eg_lconst dX3_combined_116 lc_0 ?_
        exact J _ (by rw [if_neg c3, if_pos c4])
      · refine eg_lconst dX3_combined_112 lc_1 ?_
        refine eg_goto (tgt := 117) dX3_combined_113 rfl ?_
        exact J _ (by rw [if_neg c3, if_neg c4])
  by_cases c1_ : l0 = (14 : Int32)
  · refine eg_tabI (tgt := 118) dX3_combined_1 (by rw [c1_]; decide) (by rw [c1_]; decide) (off := 117) (by rw [c1_]; rfl) rfl ?_
    have h := h.2.2.1 c1_
    refine eg_lload_n 1 dX3_combined_118 rfl rfl ?_
    refine eg_lconst dX3_combined_119 lc_0 ?_
    refine eg_lcmp dX3_combined_120 ?_
    have J : ∀ x5 : Int64, x5 = (if (lg_cmp l1 (0 : Int64)) = 0 then (0 : Int64) else (if (lg_cmp l3 (0 : Int64)) = 0 then (0 : Int64) else (1 : Int64))) → eg_W κ gC mtX3_combined d (eQL κ gC post) 135 [(0, vI l0), (1, vL l1), (3, vL l3)] [vL x5] M := by
      intro x5 ex5
      have h := h x5 ex5
      exact eg_lreturn dX3_combined_135 rfl h
    clear h
    refine eg_if_eq (tgt := 134) dX3_combined_121 rfl (fun c6 => ?_) (fun c6 => ?_)
    · refine eg_lconst dX3_combined_134 lc_0 ?_
      exact J _ (by rw [if_pos c6])
    · refine eg_lload_n 2 dX3_combined_124 rfl rfl ?_
      refine eg_lconst dX3_combined_125 lc_0 ?_
      refine eg_lcmp dX3_combined_126 ?_
      refine eg_if_eq (tgt := 134) dX3_combined_127 rfl (fun c7 => ?_) (fun c7 => ?_)
      · refine eg_lconst dX3_combined_134 lc_0 ?_
        exact J _ (by rw [if_neg c6, if_pos c7])
      · refine eg_lconst dX3_combined_130 lc_1 ?_
        refine eg_goto (tgt := 135) dX3_combined_131 rfl ?_
        exact J _ (by rw [if_neg c6, if_neg c7])
  by_cases c2_ : l0 = (15 : Int32)
  · refine eg_tabI (tgt := 292) dX3_combined_1 (by rw [c2_]; decide) (by rw [c2_]; decide) (off := 291) (by rw [c2_]; rfl) rfl ?_
    exact J (by rw [c2_]; decide) (by rw [c2_]; decide) (by rw [c2_]; decide) (by rw [c2_]; decide) (by rw [c2_]; decide) (by rw [c2_]; decide) (by rw [c2_]; decide) (by rw [c2_]; decide) (by rw [c2_]; decide) (by rw [c2_]; decide) (by rw [c2_]; decide) (by rw [c2_]; decide)
  by_cases c3_ : l0 = (16 : Int32)
  · refine eg_tabI (tgt := 292) dX3_combined_1 (by rw [c3_]; decide) (by rw [c3_]; decide) (off := 291) (by rw [c3_]; rfl) rfl ?_
    exact J (by rw [c3_]; decide) (by rw [c3_]; decide) (by rw [c3_]; decide) (by rw [c3_]; decide) (by rw [c3_]; decide) (by rw [c3_]; decide) (by rw [c3_]; decide) (by rw [c3_]; decide) (by rw [c3_]; decide) (by rw [c3_]; decide) (by rw [c3_]; decide) (by rw [c3_]; decide)
  by_cases c4_ : l0 = (17 : Int32)
  · refine eg_tabI (tgt := 292) dX3_combined_1 (by rw [c4_]; decide) (by rw [c4_]; decide) (off := 291) (by rw [c4_]; rfl) rfl ?_
    exact J (by rw [c4_]; decide) (by rw [c4_]; decide) (by rw [c4_]; decide) (by rw [c4_]; decide) (by rw [c4_]; decide) (by rw [c4_]; decide) (by rw [c4_]; decide) (by rw [c4_]; decide) (by rw [c4_]; decide) (by rw [c4_]; decide) (by rw [c4_]; decide) (by rw [c4_]; decide)
  by_cases c5_ : l0 = (18 : Int32)
  · refine eg_tabI (tgt := 292) dX3_combined_1 (by rw [c5_]; decide) (by rw [c5_]; decide) (off := 291) (by rw [c5_]; rfl) rfl ?_
    exact J (by rw [c5_]; decide) (by rw [c5_]; decide) (by rw [c5_]; decide) (by rw [c5_]; decide) (by rw [c5_]; decide) (by rw [c5_]; decide) (by rw [c5_]; decide) (by rw [c5_]; decide) (by rw [c5_]; decide) (by rw [c5_]; decide) (by rw [c5_]; decide) (by rw [c5_]; decide)
  by_cases c6_ : l0 = (19 : Int32)
  · refine eg_tabI (tgt := 292) dX3_combined_1 (by rw [c6_]; decide) (by rw [c6_]; decide) (off := 291) (by rw [c6_]; rfl) rfl ?_
    exact J (by rw [c6_]; decide) (by rw [c6_]; decide) (by rw [c6_]; decide) (by rw [c6_]; decide) (by rw [c6_]; decide) (by rw [c6_]; decide) (by rw [c6_]; decide) (by rw [c6_]; decide) (by rw [c6_]; decide) (by rw [c6_]; decide) (by rw [c6_]; decide) (by rw [c6_]; decide)
  by_cases c7_ : l0 = (20 : Int32)
  · refine eg_tabI (tgt := 292) dX3_combined_1 (by rw [c7_]; decide) (by rw [c7_]; decide) (off := 291) (by rw [c7_]; rfl) rfl ?_
    exact J (by rw [c7_]; decide) (by rw [c7_]; decide) (by rw [c7_]; decide) (by rw [c7_]; decide) (by rw [c7_]; decide) (by rw [c7_]; decide) (by rw [c7_]; decide) (by rw [c7_]; decide) (by rw [c7_]; decide) (by rw [c7_]; decide) (by rw [c7_]; decide) (by rw [c7_]; decide)
  by_cases c8_ : l0 = (21 : Int32)
  · refine eg_tabI (tgt := 292) dX3_combined_1 (by rw [c8_]; decide) (by rw [c8_]; decide) (off := 291) (by rw [c8_]; rfl) rfl ?_
    exact J (by rw [c8_]; decide) (by rw [c8_]; decide) (by rw [c8_]; decide) (by rw [c8_]; decide) (by rw [c8_]; decide) (by rw [c8_]; decide) (by rw [c8_]; decide) (by rw [c8_]; decide) (by rw [c8_]; decide) (by rw [c8_]; decide) (by rw [c8_]; decide) (by rw [c8_]; decide)
  by_cases c9_ : l0 = (22 : Int32)
  · refine eg_tabI (tgt := 292) dX3_combined_1 (by rw [c9_]; decide) (by rw [c9_]; decide) (off := 291) (by rw [c9_]; rfl) rfl ?_
    exact J (by rw [c9_]; decide) (by rw [c9_]; decide) (by rw [c9_]; decide) (by rw [c9_]; decide) (by rw [c9_]; decide) (by rw [c9_]; decide) (by rw [c9_]; decide) (by rw [c9_]; decide) (by rw [c9_]; decide) (by rw [c9_]; decide) (by rw [c9_]; decide) (by rw [c9_]; decide)
  by_cases c10_ : l0 = (23 : Int32)
  · refine eg_tabI (tgt := 292) dX3_combined_1 (by rw [c10_]; decide) (by rw [c10_]; decide) (off := 291) (by rw [c10_]; rfl) rfl ?_
    exact J (by rw [c10_]; decide) (by rw [c10_]; decide) (by rw [c10_]; decide) (by rw [c10_]; decide) (by rw [c10_]; decide) (by rw [c10_]; decide) (by rw [c10_]; decide) (by rw [c10_]; decide) (by rw [c10_]; decide) (by rw [c10_]; decide) (by rw [c10_]; decide) (by rw [c10_]; decide)
  by_cases c11_ : l0 = (24 : Int32)
  · refine eg_tabI (tgt := 208) dX3_combined_1 (by rw [c11_]; decide) (by rw [c11_]; decide) (off := 207) (by rw [c11_]; rfl) rfl ?_
    have h := h.2.2.2.1 c11_
    refine eg_lload_n 1 dX3_combined_208 rfl rfl ?_
    refine eg_lload_n 2 dX3_combined_209 rfl rfl ?_
    refine eg_ladd dX3_combined_210 ?_
    refine en_lstore (f := fun x8 => [(5, vL x8), (0, vI l0), (1, vL l1), (3, vL l3)]) dX3_combined_211 (by decide) rfl (fun x8 ex8 => ?_)
    have h := h x8 ex8
    refine eg_goto (tgt := 296) dX3_combined_213 rfl ?_
    refine eg_sub [0] rfl ?_
    exact h
  by_cases c12_ : l0 = (25 : Int32)
  · refine eg_tabI (tgt := 216) dX3_combined_1 (by rw [c12_]; decide) (by rw [c12_]; decide) (off := 215) (by rw [c12_]; rfl) rfl ?_
    have h := h.2.2.2.2.1 c12_
    refine eg_lload_n 1 dX3_combined_216 rfl rfl ?_
    refine eg_lload_n 2 dX3_combined_217 rfl rfl ?_
    refine eg_lsub dX3_combined_218 ?_
    refine en_lstore (f := fun x9 => [(5, vL x9), (0, vI l0), (1, vL l1), (3, vL l3)]) dX3_combined_219 (by decide) rfl (fun x9 ex9 => ?_)
    have h := h x9 ex9
    refine eg_goto (tgt := 296) dX3_combined_221 rfl ?_
    refine eg_sub [0] rfl ?_
    exact h
  by_cases c13_ : l0 = (26 : Int32)
  · refine eg_tabI (tgt := 224) dX3_combined_1 (by rw [c13_]; decide) (by rw [c13_]; decide) (off := 223) (by rw [c13_]; rfl) rfl ?_
    have h := h.2.2.2.2.2.1 c13_
    refine eg_lload_n 1 dX3_combined_224 rfl rfl ?_
    refine eg_lconst dX3_combined_225 lc_0 ?_
    refine eg_lcmp dX3_combined_226 ?_
    refine eg_if_eq (tgt := 266) dX3_combined_227 rfl (fun c10 => ?_) (fun c10 => ?_)
    · have h := h.1 c10
      refine eg_sub [1, 2] rfl ?_
      exact h
    · have h := h.2 c10
      refine eg_lload_n 2 dX3_combined_230 rfl rfl ?_
      refine eg_lconst dX3_combined_231 lc_0 ?_
      refine eg_lcmp dX3_combined_232 ?_
      have J : ∀ x11 : Int64, x11 = (if 0 ≤ (lg_cmp l3 (0 : Int64)) then l3 else (-l3)) → eg_W κ gC mtX3_combined d (eQL κ gC post) 242 [(0, vI l0), (1, vL l1), (3, vL l3)] [vL x11] M := by
        intro x11 ex11
        have h := h x11 ex11
        refine eg_ldc2 dX3_combined_242 kc_3_47 ?_
        refine eg_lload_n 1 dX3_combined_245 rfl rfl ?_
        refine eg_lconst dX3_combined_246 lc_0 ?_
        refine eg_lcmp dX3_combined_247 ?_
        have J : ∀ x12 : Int64, x12 = (if 0 ≤ (lg_cmp l1 (0 : Int64)) then l1 else (-l1)) → eg_W κ gC mtX3_combined d (eQL κ gC post) 257 [(0, vI l0), (1, vL l1), (3, vL l3)] [vL x12, vL (1000000000000 : Int64), vL x11] M := by
          intro x12 ex12
          have h := h x12 ex12
          obtain ⟨g13, h⟩ := h
          refine eg_ldiv dX3_combined_257 g13 ?_
          refine eg_lcmp dX3_combined_258 ?_
          refine eg_if_le (tgt := 266) dX3_combined_259 rfl (fun c14 => ?_) (fun c14 => ?_)
          · have h := h.1 c14
            refine eg_sub [1, 2] rfl ?_
            exact h
          · have h := h.2 c14
            refine eg_ldc2 dX3_combined_262 kc_3_41 ?_
            exact eg_lreturn dX3_combined_265 rfl h
        clear h
        refine eg_if_ge (tgt := 256) dX3_combined_248 rfl (fun c15 => ?_) (fun c15 => ?_)
        · refine eg_lload_n 1 dX3_combined_256 rfl rfl ?_
          exact J _ (by rw [if_pos c15])
        · refine eg_lload_n 1 dX3_combined_251 rfl rfl ?_
          refine eg_lneg dX3_combined_252 ?_
          refine eg_goto (tgt := 257) dX3_combined_253 rfl ?_
          exact J _ (by rw [if_neg c15])
      clear h
      refine eg_if_ge (tgt := 241) dX3_combined_233 rfl (fun c16 => ?_) (fun c16 => ?_)
      · refine eg_lload_n 2 dX3_combined_241 rfl rfl ?_
        exact J _ (by rw [if_pos c16])
      · refine eg_lload_n 2 dX3_combined_236 rfl rfl ?_
        refine eg_lneg dX3_combined_237 ?_
        refine eg_goto (tgt := 242) dX3_combined_238 rfl ?_
        exact J _ (by rw [if_neg c16])
  by_cases c14_ : l0 = (27 : Int32)
  · refine eg_tabI (tgt := 274) dX3_combined_1 (by rw [c14_]; decide) (by rw [c14_]; decide) (off := 273) (by rw [c14_]; rfl) rfl ?_
    have h := h.2.2.2.2.2.2.1 c14_
    refine eg_lload_n 2 dX3_combined_274 rfl rfl ?_
    refine eg_lconst dX3_combined_275 lc_0 ?_
    refine eg_lcmp dX3_combined_276 ?_
    refine eg_if_ne (tgt := 284) dX3_combined_277 rfl (fun c17 => ?_) (fun c17 => ?_)
    · have h := h.1 c17
      refine eg_lload_n 1 dX3_combined_284 rfl rfl ?_
      refine eg_lload_n 2 dX3_combined_285 rfl rfl ?_
      obtain ⟨g18, h⟩ := h
      refine eg_ldiv dX3_combined_286 g18 ?_
      refine en_lstore (f := fun x19 => [(5, vL x19), (0, vI l0), (1, vL l1), (3, vL l3)]) dX3_combined_287 (by decide) rfl (fun x19 ex19 => ?_)
      have h := h x19 ex19
      refine eg_goto (tgt := 296) dX3_combined_289 rfl ?_
      refine eg_sub [0] rfl ?_
      exact h
    · have h := h.2 c17
      refine eg_ldc2 dX3_combined_280 kc_3_41 ?_
      exact eg_lreturn dX3_combined_283 rfl h
  by_cases c15_ : l0 = (28 : Int32)
  · refine eg_tabI (tgt := 136) dX3_combined_1 (by rw [c15_]; decide) (by rw [c15_]; decide) (off := 135) (by rw [c15_]; rfl) rfl ?_
    have h := h.2.2.2.2.2.2.2.1 c15_
    refine eg_lload_n 1 dX3_combined_136 rfl rfl ?_
    refine eg_lload_n 2 dX3_combined_137 rfl rfl ?_
    refine eg_lcmp dX3_combined_138 ?_
    have J : ∀ x20 : Int64, x20 = (if 0 ≤ (lg_cmp l1 l3) then (0 : Int64) else (1 : Int64)) → eg_W κ gC mtX3_combined d (eQL κ gC post) 147 [(0, vI l0), (1, vL l1), (3, vL l3)] [vL x20] M := by
      intro x20 ex20
      have h := h x20 ex20
      exact eg_lreturn dX3_combined_147 rfl h
    clear h
    refine eg_if_ge (tgt := 146) dX3_combined_139 rfl (fun c21 => ?_) (fun c21 => ?_)
    · refine eg_lconst dX3_combined_146 lc_0 ?_
      exact J _ (by rw [if_pos c21])
    · refine eg_lconst dX3_combined_142 lc_1 ?_
      refine eg_goto (tgt := 147) dX3_combined_143 rfl ?_
      exact J _ (by rw [if_neg c21])
  by_cases c16_ : l0 = (29 : Int32)
  · refine eg_tabI (tgt := 148) dX3_combined_1 (by rw [c16_]; decide) (by rw [c16_]; decide) (off := 147) (by rw [c16_]; rfl) rfl ?_
    have h := h.2.2.2.2.2.2.2.2.1 c16_
    refine eg_lload_n 1 dX3_combined_148 rfl rfl ?_
    refine eg_lload_n 2 dX3_combined_149 rfl rfl ?_
    refine eg_lcmp dX3_combined_150 ?_
    have J : ∀ x22 : Int64, x22 = (if 0 < (lg_cmp l1 l3) then (0 : Int64) else (1 : Int64)) → eg_W κ gC mtX3_combined d (eQL κ gC post) 159 [(0, vI l0), (1, vL l1), (3, vL l3)] [vL x22] M := by
      intro x22 ex22
      have h := h x22 ex22
      exact eg_lreturn dX3_combined_159 rfl h
    clear h
    refine eg_if_gt (tgt := 158) dX3_combined_151 rfl (fun c23 => ?_) (fun c23 => ?_)
    · refine eg_lconst dX3_combined_158 lc_0 ?_
      exact J _ (by rw [if_pos c23])
    · refine eg_lconst dX3_combined_154 lc_1 ?_
      refine eg_goto (tgt := 159) dX3_combined_155 rfl ?_
      exact J _ (by rw [if_neg c23])
  by_cases c17_ : l0 = (30 : Int32)
  · refine eg_tabI (tgt := 160) dX3_combined_1 (by rw [c17_]; decide) (by rw [c17_]; decide) (off := 159) (by rw [c17_]; rfl) rfl ?_
    have h := h.2.2.2.2.2.2.2.2.2.1 c17_
    refine eg_lload_n 1 dX3_combined_160 rfl rfl ?_
    refine eg_lload_n 2 dX3_combined_161 rfl rfl ?_
    refine eg_lcmp dX3_combined_162 ?_
    have J : ∀ x24 : Int64, x24 = (if (¬ (lg_cmp l1 l3) = 0) then (0 : Int64) else (1 : Int64)) → eg_W κ gC mtX3_combined d (eQL κ gC post) 171 [(0, vI l0), (1, vL l1), (3, vL l3)] [vL x24] M := by
      intro x24 ex24
      have h := h x24 ex24
      exact eg_lreturn dX3_combined_171 rfl h
    clear h
    refine eg_if_ne (tgt := 170) dX3_combined_163 rfl (fun c25 => ?_) (fun c25 => ?_)
    · refine eg_lconst dX3_combined_170 lc_0 ?_
      exact J _ (by rw [if_pos c25])
    · have c26 : ¬ (¬ (lg_cmp l1 l3) = 0) := fun z => z c25
      refine eg_lconst dX3_combined_166 lc_1 ?_
      refine eg_goto (tgt := 171) dX3_combined_167 rfl ?_
      exact J _ (by rw [if_neg c26])
  by_cases c18_ : l0 = (31 : Int32)
  · refine eg_tabI (tgt := 172) dX3_combined_1 (by rw [c18_]; decide) (by rw [c18_]; decide) (off := 171) (by rw [c18_]; rfl) rfl ?_
    have h := h.2.2.2.2.2.2.2.2.2.2.1 c18_
    refine eg_lload_n 1 dX3_combined_172 rfl rfl ?_
    refine eg_lload_n 2 dX3_combined_173 rfl rfl ?_
    refine eg_lcmp dX3_combined_174 ?_
    have J : ∀ x27 : Int64, x27 = (if (lg_cmp l1 l3) = 0 then (0 : Int64) else (1 : Int64)) → eg_W κ gC mtX3_combined d (eQL κ gC post) 183 [(0, vI l0), (1, vL l1), (3, vL l3)] [vL x27] M := by
      intro x27 ex27
      have h := h x27 ex27
      exact eg_lreturn dX3_combined_183 rfl h
    clear h
    refine eg_if_eq (tgt := 182) dX3_combined_175 rfl (fun c28 => ?_) (fun c28 => ?_)
    · refine eg_lconst dX3_combined_182 lc_0 ?_
      exact J _ (by rw [if_pos c28])
    · refine eg_lconst dX3_combined_178 lc_1 ?_
      refine eg_goto (tgt := 183) dX3_combined_179 rfl ?_
      exact J _ (by rw [if_neg c28])
  by_cases c19_ : l0 = (32 : Int32)
  · refine eg_tabI (tgt := 184) dX3_combined_1 (by rw [c19_]; decide) (by rw [c19_]; decide) (off := 183) (by rw [c19_]; rfl) rfl ?_
    have h := h.2.2.2.2.2.2.2.2.2.2.2.1 c19_
    refine eg_lload_n 1 dX3_combined_184 rfl rfl ?_
    refine eg_lload_n 2 dX3_combined_185 rfl rfl ?_
    refine eg_lcmp dX3_combined_186 ?_
    have J : ∀ x29 : Int64, x29 = (if (lg_cmp l1 l3) < 0 then (0 : Int64) else (1 : Int64)) → eg_W κ gC mtX3_combined d (eQL κ gC post) 195 [(0, vI l0), (1, vL l1), (3, vL l3)] [vL x29] M := by
      intro x29 ex29
      have h := h x29 ex29
      exact eg_lreturn dX3_combined_195 rfl h
    clear h
    refine eg_if_lt (tgt := 194) dX3_combined_187 rfl (fun c30 => ?_) (fun c30 => ?_)
    · refine eg_lconst dX3_combined_194 lc_0 ?_
      exact J _ (by rw [if_pos c30])
    · refine eg_lconst dX3_combined_190 lc_1 ?_
      refine eg_goto (tgt := 195) dX3_combined_191 rfl ?_
      exact J _ (by rw [if_neg c30])
  by_cases c20_ : l0 = (33 : Int32)
  · refine eg_tabI (tgt := 196) dX3_combined_1 (by rw [c20_]; decide) (by rw [c20_]; decide) (off := 195) (by rw [c20_]; rfl) rfl ?_
    have h := h.2.2.2.2.2.2.2.2.2.2.2.2 c20_
    refine eg_lload_n 1 dX3_combined_196 rfl rfl ?_
    refine eg_lload_n 2 dX3_combined_197 rfl rfl ?_
    refine eg_lcmp dX3_combined_198 ?_
    have J : ∀ x31 : Int64, x31 = (if (lg_cmp l1 l3) ≤ 0 then (0 : Int64) else (1 : Int64)) → eg_W κ gC mtX3_combined d (eQL κ gC post) 207 [(0, vI l0), (1, vL l1), (3, vL l3)] [vL x31] M := by
      intro x31 ex31
      have h := h x31 ex31
      exact eg_lreturn dX3_combined_207 rfl h
    clear h
    refine eg_if_le (tgt := 206) dX3_combined_199 rfl (fun c32 => ?_) (fun c32 => ?_)
    · refine eg_lconst dX3_combined_206 lc_0 ?_
      exact J _ (by rw [if_pos c32])
    · refine eg_lconst dX3_combined_202 lc_1 ?_
      refine eg_goto (tgt := 207) dX3_combined_203 rfl ?_
      exact J _ (by rw [if_neg c32])
  refine eg_tabO (tgt := 292) dX3_combined_1 ?_ rfl (J c0_ c1_ c11_ c12_ c13_ c14_ c15_ c16_ c17_ c18_ c19_ c20_)
  have t0_ := eg_ti 13 (by decide) c0_
  have t1_ := eg_ti 14 (by decide) c1_
  have t2_ := eg_ti 15 (by decide) c2_
  have t3_ := eg_ti 16 (by decide) c3_
  have t4_ := eg_ti 17 (by decide) c4_
  have t5_ := eg_ti 18 (by decide) c5_
  have t6_ := eg_ti 19 (by decide) c6_
  have t7_ := eg_ti 20 (by decide) c7_
  have t8_ := eg_ti 21 (by decide) c8_
  have t9_ := eg_ti 22 (by decide) c9_
  have t10_ := eg_ti 23 (by decide) c10_
  have t11_ := eg_ti 24 (by decide) c11_
  have t12_ := eg_ti 25 (by decide) c12_
  have t13_ := eg_ti 26 (by decide) c13_
  have t14_ := eg_ti 27 (by decide) c14_
  have t15_ := eg_ti 28 (by decide) c15_
  have t16_ := eg_ti 29 (by decide) c16_
  have t17_ := eg_ti 30 (by decide) c17_
  have t18_ := eg_ti 31 (by decide) c18_
  have t19_ := eg_ti 32 (by decide) c19_
  have t20_ := eg_ti 33 (by decide) c20_
  omega
set_option maxRecDepth 10000 in
theorem vX3_combined_266 {κ : eg_K} {d : Nat} {post : Int64 → eg_H → Prop} (M : eg_H) (l1 : Int64) (l3 : Int64) (h : (∀ x1 : Int64, x1 = (l1 * l3) → eg_W κ gC mtX3_combined d (eQL κ gC post) 296 [(5, vL x1)] [] M)) : eg_W κ gC mtX3_combined d (eQL κ gC post) 266 [(1, vL l1), (3, vL l3)] [] M := by
  refine eg_lload_n 0 dX3_combined_266 rfl rfl ?_
  refine eg_lload_n 1 dX3_combined_267 rfl rfl ?_
  refine eg_lmul dX3_combined_268 ?_
  refine en_lstore (f := fun x1 => [(5, vL x1), (1, vL l1), (3, vL l3)]) dX3_combined_269 (by decide) rfl (fun x1 ex1 => ?_)
  have h := h x1 ex1
  refine eg_goto (tgt := 296) dX3_combined_271 rfl ?_
  refine eg_sub [0] rfl ?_
  exact h
set_option maxRecDepth 10000 in
theorem vX3_combined_292 {κ : eg_K} {d : Nat} {post : Int64 → eg_H → Prop} (M : eg_H)  (h : post (-9223372036854775808 : Int64) M) : eg_W κ gC mtX3_combined d (eQL κ gC post) 292 [] [] M := by
  refine eg_ldc2 dX3_combined_292 kc_3_41 ?_
  exact eg_lreturn dX3_combined_295 rfl h
set_option maxRecDepth 10000 in
theorem vX3_combined_296 {κ : eg_K} {d : Nat} {post : Int64 → eg_H → Prop} (M : eg_H) (l5 : Int64) (h : (∀ x1 : Int64, x1 = ((if 0 < (lg_cmp l5 (1000000000000 : Int64)) then (-9223372036854775808 : Int64) else (if 0 ≤ (lg_cmp l5 (-1000000000000 : Int64)) then l5 else (-9223372036854775808 : Int64)))) → post x1 M)) : eg_W κ gC mtX3_combined d (eQL κ gC post) 296 [(5, vL l5)] [] M := by
  refine eg_lload 0 dX3_combined_296 rfl ?_
  refine eg_ldc2 dX3_combined_298 kc_3_47 ?_
  refine eg_lcmp dX3_combined_301 ?_
  have J : ∀ x1 : Int64, x1 = (if 0 < (lg_cmp l5 (1000000000000 : Int64)) then (-9223372036854775808 : Int64) else (if 0 ≤ (lg_cmp l5 (-1000000000000 : Int64)) then l5 else (-9223372036854775808 : Int64))) → eg_W κ gC mtX3_combined d (eQL κ gC post) 322 [(5, vL l5)] [vL x1] M := by
    intro x1 ex1
    have h := h x1 ex1
    exact eg_lreturn dX3_combined_322 rfl h
  clear h
  refine eg_if_gt (tgt := 314) dX3_combined_302 rfl (fun c2 => ?_) (fun c2 => ?_)
  · refine eg_ldc2 dX3_combined_314 kc_3_41 ?_
    refine eg_goto (tgt := 322) dX3_combined_317 rfl ?_
    exact J _ (by rw [if_pos c2])
  · refine eg_lload 0 dX3_combined_305 rfl ?_
    refine eg_ldc2 dX3_combined_307 kc_3_49 ?_
    refine eg_lcmp dX3_combined_310 ?_
    refine eg_if_ge (tgt := 320) dX3_combined_311 rfl (fun c3 => ?_) (fun c3 => ?_)
    · refine eg_lload 0 dX3_combined_320 rfl ?_
      exact J _ (by rw [if_neg c2, if_pos c3])
    · refine eg_ldc2 dX3_combined_314 kc_3_41 ?_
      refine eg_goto (tgt := 322) dX3_combined_317 rfl ?_
      exact J _ (by rw [if_neg c2, if_neg c3])
theorem dX4_begin_0 : decode cX4_begin 0 = .ok (.aload_n 0, 1) := by decide +kernel
theorem dX4_begin_1 : decode cX4_begin 1 = .ok (.aload_n 1, 1) := by decide +kernel
theorem dX4_begin_2 : decode cX4_begin 2 = .ok (.getfield 9, 3) := by decide +kernel
theorem dX4_begin_5 : decode cX4_begin 5 = .ok (.putfield 15, 3) := by decide +kernel
theorem dX4_begin_8 : decode cX4_begin 8 = .ok (.aload_n 0, 1) := by decide +kernel
theorem dX4_begin_9 : decode cX4_begin 9 = .ok (.iconst 0, 1) := by decide +kernel
theorem dX4_begin_10 : decode cX4_begin 10 = .ok (.putfield 18, 3) := by decide +kernel
theorem dX4_begin_13 : decode cX4_begin 13 = .ok (.aload_n 0, 1) := by decide +kernel
theorem dX4_begin_14 : decode cX4_begin 14 = .ok (.iconst (-1), 1) := by decide +kernel
theorem dX4_begin_15 : decode cX4_begin 15 = .ok (.putfield 21, 3) := by decide +kernel
theorem dX4_begin_18 : decode cX4_begin 18 = .ok (.aload_n 0, 1) := by decide +kernel
theorem dX4_begin_19 : decode cX4_begin 19 = .ok (.iconst 0, 1) := by decide +kernel
theorem dX4_begin_20 : decode cX4_begin 20 = .ok (.putfield 24, 3) := by decide +kernel
theorem dX4_begin_23 : decode cX4_begin 23 = .ok (.aload_n 0, 1) := by decide +kernel
theorem dX4_begin_24 : decode cX4_begin 24 = .ok (.iconst 0, 1) := by decide +kernel
theorem dX4_begin_25 : decode cX4_begin 25 = .ok (.putfield 27, 3) := by decide +kernel
theorem dX4_begin_28 : decode cX4_begin 28 = .ok (.aload_n 0, 1) := by decide +kernel
theorem dX4_begin_29 : decode cX4_begin 29 = .ok (.iconst 0, 1) := by decide +kernel
theorem dX4_begin_30 : decode cX4_begin 30 = .ok (.putfield 30, 3) := by decide +kernel
theorem dX4_begin_33 : decode cX4_begin 33 = .ok (.aload_n 0, 1) := by decide +kernel
theorem dX4_begin_34 : decode cX4_begin 34 = .ok (.iconst 0, 1) := by decide +kernel
theorem dX4_begin_35 : decode cX4_begin 35 = .ok (.putfield 33, 3) := by decide +kernel
theorem dX4_begin_38 : decode cX4_begin 38 = .ok (.return_, 1) := by decide +kernel
set_option maxRecDepth 10000 in
theorem vX4_begin_0 {κ : eg_K} {d : Nat} {post : eg_H → Prop} (M : eg_H) {l0 : Nat} (hl0 : l0 < 20) {l1 : Nat} (hl1 : l1 < 10) (h : (∀ M1 : eg_H, M1 = (sI M (4, l0) 0 (M.1 (1, l1) 3)) → (∀ M2 : eg_H, M2 = (sI M1 (4, l0) 1 (0 : Int32)) → (∀ M3 : eg_H, M3 = (sI M2 (4, l0) 2 (-1 : Int32)) → (∀ M4 : eg_H, M4 = (sI M3 (4, l0) 3 (0 : Int32)) → (∀ M5 : eg_H, M5 = (sI M4 (4, l0) 4 (0 : Int32)) → (∀ M6 : eg_H, M6 = (sI M5 (4, l0) 5 (0 : Int32)) → (∀ M7 : eg_H, M7 = (sI M6 (4, l0) 6 (0 : Int32)) → post M7)))))))) : eg_W κ gC mtX4_begin d (eQV κ gC post) 0 [(0, vR (4, l0)), (1, vR (1, l1))] [] M := by
  refine eg_aload_n 0 dX4_begin_0 rfl rfl ?_
  refine eg_aload_n 1 dX4_begin_1 rfl rfl ?_
  refine eg_getI dX4_begin_2 fl_4_9 rfl trivial (obC_1 hl1) ?_
  refine en_putI dX4_begin_5 fl_4_15 rfl rfl (obC_4 hl0) (fun M1 eM1 => ?_)
  have h := h M1 eM1
  refine eg_aload_n 0 dX4_begin_8 rfl rfl ?_
  refine eg_iconst dX4_begin_9 ic_0 ?_
  refine en_putI dX4_begin_10 fl_4_18 rfl rfl (obC_4 hl0) (fun M2 eM2 => ?_)
  have h := h M2 eM2
  refine eg_aload_n 0 dX4_begin_13 rfl rfl ?_
  refine eg_iconst dX4_begin_14 ic_m1 ?_
  refine en_putI dX4_begin_15 fl_4_21 rfl rfl (obC_4 hl0) (fun M3 eM3 => ?_)
  have h := h M3 eM3
  refine eg_aload_n 0 dX4_begin_18 rfl rfl ?_
  refine eg_iconst dX4_begin_19 ic_0 ?_
  refine en_putI dX4_begin_20 fl_4_24 rfl rfl (obC_4 hl0) (fun M4 eM4 => ?_)
  have h := h M4 eM4
  refine eg_aload_n 0 dX4_begin_23 rfl rfl ?_
  refine eg_iconst dX4_begin_24 ic_0 ?_
  refine en_putI dX4_begin_25 fl_4_27 rfl rfl (obC_4 hl0) (fun M5 eM5 => ?_)
  have h := h M5 eM5
  refine eg_aload_n 0 dX4_begin_28 rfl rfl ?_
  refine eg_iconst dX4_begin_29 ic_0 ?_
  refine en_putI dX4_begin_30 fl_4_30 rfl rfl (obC_4 hl0) (fun M6 eM6 => ?_)
  have h := h M6 eM6
  refine eg_aload_n 0 dX4_begin_33 rfl rfl ?_
  refine eg_iconst dX4_begin_34 ic_0 ?_
  refine en_putI dX4_begin_35 fl_4_33 rfl rfl (obC_4 hl0) (fun M7 eM7 => ?_)
  have h := h M7 eM7
  exact eg_vreturn dX4_begin_38 rfl h
theorem dX4_copyFrom_0 : decode cX4_copyFrom 0 = .ok (.aload_n 0, 1) := by decide +kernel
theorem dX4_copyFrom_1 : decode cX4_copyFrom 1 = .ok (.aload_n 1, 1) := by decide +kernel
theorem dX4_copyFrom_2 : decode cX4_copyFrom 2 = .ok (.getfield 15, 3) := by decide +kernel
theorem dX4_copyFrom_5 : decode cX4_copyFrom 5 = .ok (.putfield 15, 3) := by decide +kernel
theorem dX4_copyFrom_8 : decode cX4_copyFrom 8 = .ok (.aload_n 0, 1) := by decide +kernel
theorem dX4_copyFrom_9 : decode cX4_copyFrom 9 = .ok (.aload_n 1, 1) := by decide +kernel
theorem dX4_copyFrom_10 : decode cX4_copyFrom 10 = .ok (.getfield 18, 3) := by decide +kernel
theorem dX4_copyFrom_13 : decode cX4_copyFrom 13 = .ok (.putfield 18, 3) := by decide +kernel
theorem dX4_copyFrom_16 : decode cX4_copyFrom 16 = .ok (.aload_n 0, 1) := by decide +kernel
theorem dX4_copyFrom_17 : decode cX4_copyFrom 17 = .ok (.aload_n 1, 1) := by decide +kernel
theorem dX4_copyFrom_18 : decode cX4_copyFrom 18 = .ok (.getfield 21, 3) := by decide +kernel
theorem dX4_copyFrom_21 : decode cX4_copyFrom 21 = .ok (.putfield 21, 3) := by decide +kernel
theorem dX4_copyFrom_24 : decode cX4_copyFrom 24 = .ok (.aload_n 0, 1) := by decide +kernel
theorem dX4_copyFrom_25 : decode cX4_copyFrom 25 = .ok (.aload_n 1, 1) := by decide +kernel
theorem dX4_copyFrom_26 : decode cX4_copyFrom 26 = .ok (.getfield 24, 3) := by decide +kernel
theorem dX4_copyFrom_29 : decode cX4_copyFrom 29 = .ok (.putfield 24, 3) := by decide +kernel
theorem dX4_copyFrom_32 : decode cX4_copyFrom 32 = .ok (.aload_n 0, 1) := by decide +kernel
theorem dX4_copyFrom_33 : decode cX4_copyFrom 33 = .ok (.aload_n 1, 1) := by decide +kernel
theorem dX4_copyFrom_34 : decode cX4_copyFrom 34 = .ok (.getfield 27, 3) := by decide +kernel
theorem dX4_copyFrom_37 : decode cX4_copyFrom 37 = .ok (.putfield 27, 3) := by decide +kernel
theorem dX4_copyFrom_40 : decode cX4_copyFrom 40 = .ok (.aload_n 0, 1) := by decide +kernel
theorem dX4_copyFrom_41 : decode cX4_copyFrom 41 = .ok (.aload_n 1, 1) := by decide +kernel
theorem dX4_copyFrom_42 : decode cX4_copyFrom 42 = .ok (.getfield 30, 3) := by decide +kernel
theorem dX4_copyFrom_45 : decode cX4_copyFrom 45 = .ok (.putfield 30, 3) := by decide +kernel
theorem dX4_copyFrom_48 : decode cX4_copyFrom 48 = .ok (.aload_n 0, 1) := by decide +kernel
theorem dX4_copyFrom_49 : decode cX4_copyFrom 49 = .ok (.aload_n 1, 1) := by decide +kernel
theorem dX4_copyFrom_50 : decode cX4_copyFrom 50 = .ok (.getfield 33, 3) := by decide +kernel
theorem dX4_copyFrom_53 : decode cX4_copyFrom 53 = .ok (.putfield 33, 3) := by decide +kernel
theorem dX4_copyFrom_56 : decode cX4_copyFrom 56 = .ok (.return_, 1) := by decide +kernel
set_option maxRecDepth 10000 in
theorem vX4_copyFrom_0 {κ : eg_K} {d : Nat} {post : eg_H → Prop} (M : eg_H) {l0 : Nat} (hl0 : l0 < 20) {l1 : Nat} (hl1 : l1 < 20) (h : (∀ M1 : eg_H, M1 = (sI M (4, l0) 0 (M.1 (4, l1) 0)) → (∀ M2 : eg_H, M2 = (sI M1 (4, l0) 1 (M1.1 (4, l1) 1)) → (∀ M3 : eg_H, M3 = (sI M2 (4, l0) 2 (M2.1 (4, l1) 2)) → (∀ M4 : eg_H, M4 = (sI M3 (4, l0) 3 (M3.1 (4, l1) 3)) → (∀ M5 : eg_H, M5 = (sI M4 (4, l0) 4 (M4.1 (4, l1) 4)) → (∀ M6 : eg_H, M6 = (sI M5 (4, l0) 5 (M5.1 (4, l1) 5)) → (∀ M7 : eg_H, M7 = (sI M6 (4, l0) 6 (M6.1 (4, l1) 6)) → post M7)))))))) : eg_W κ gC mtX4_copyFrom d (eQV κ gC post) 0 [(0, vR (4, l0)), (1, vR (4, l1))] [] M := by
  refine eg_aload_n 0 dX4_copyFrom_0 rfl rfl ?_
  refine eg_aload_n 1 dX4_copyFrom_1 rfl rfl ?_
  refine eg_getI dX4_copyFrom_2 fl_4_15 rfl trivial (obC_4 hl1) ?_
  refine en_putI dX4_copyFrom_5 fl_4_15 rfl rfl (obC_4 hl0) (fun M1 eM1 => ?_)
  have h := h M1 eM1
  refine eg_aload_n 0 dX4_copyFrom_8 rfl rfl ?_
  refine eg_aload_n 1 dX4_copyFrom_9 rfl rfl ?_
  refine eg_getI dX4_copyFrom_10 fl_4_18 rfl trivial (obC_4 hl1) ?_
  refine en_putI dX4_copyFrom_13 fl_4_18 rfl rfl (obC_4 hl0) (fun M2 eM2 => ?_)
  have h := h M2 eM2
  refine eg_aload_n 0 dX4_copyFrom_16 rfl rfl ?_
  refine eg_aload_n 1 dX4_copyFrom_17 rfl rfl ?_
  refine eg_getI dX4_copyFrom_18 fl_4_21 rfl trivial (obC_4 hl1) ?_
  refine en_putI dX4_copyFrom_21 fl_4_21 rfl rfl (obC_4 hl0) (fun M3 eM3 => ?_)
  have h := h M3 eM3
  refine eg_aload_n 0 dX4_copyFrom_24 rfl rfl ?_
  refine eg_aload_n 1 dX4_copyFrom_25 rfl rfl ?_
  refine eg_getI dX4_copyFrom_26 fl_4_24 rfl trivial (obC_4 hl1) ?_
  refine en_putI dX4_copyFrom_29 fl_4_24 rfl rfl (obC_4 hl0) (fun M4 eM4 => ?_)
  have h := h M4 eM4
  refine eg_aload_n 0 dX4_copyFrom_32 rfl rfl ?_
  refine eg_aload_n 1 dX4_copyFrom_33 rfl rfl ?_
  refine eg_getI dX4_copyFrom_34 fl_4_27 rfl trivial (obC_4 hl1) ?_
  refine en_putI dX4_copyFrom_37 fl_4_27 rfl rfl (obC_4 hl0) (fun M5 eM5 => ?_)
  have h := h M5 eM5
  refine eg_aload_n 0 dX4_copyFrom_40 rfl rfl ?_
  refine eg_aload_n 1 dX4_copyFrom_41 rfl rfl ?_
  refine eg_getI dX4_copyFrom_42 fl_4_30 rfl trivial (obC_4 hl1) ?_
  refine en_putI dX4_copyFrom_45 fl_4_30 rfl rfl (obC_4 hl0) (fun M6 eM6 => ?_)
  have h := h M6 eM6
  refine eg_aload_n 0 dX4_copyFrom_48 rfl rfl ?_
  refine eg_aload_n 1 dX4_copyFrom_49 rfl rfl ?_
  refine eg_getI dX4_copyFrom_50 fl_4_33 rfl trivial (obC_4 hl1) ?_
  refine en_putI dX4_copyFrom_53 fl_4_33 rfl rfl (obC_4 hl0) (fun M7 eM7 => ?_)
  have h := h M7 eM7
  exact eg_vreturn dX4_copyFrom_56 rfl h
theorem dX4_addPan_0 : decode cX4_addPan 0 = .ok (.aload_n 0, 1) := by decide +kernel
theorem dX4_addPan_1 : decode cX4_addPan 1 = .ok (.dup, 1) := by decide +kernel
theorem dX4_addPan_2 : decode cX4_addPan 2 = .ok (.getfield 15, 3) := by decide +kernel
theorem dX4_addPan_5 : decode cX4_addPan 5 = .ok (.aload_n 1, 1) := by decide +kernel
theorem dX4_addPan_6 : decode cX4_addPan 6 = .ok (.getfield 9, 3) := by decide +kernel
theorem dX4_addPan_9 : decode cX4_addPan 9 = .ok (.iadd, 1) := by decide +kernel
theorem dX4_addPan_10 : decode cX4_addPan 10 = .ok (.putfield 15, 3) := by decide +kernel
theorem dX4_addPan_13 : decode cX4_addPan 13 = .ok (.aload_n 0, 1) := by decide +kernel
theorem dX4_addPan_14 : decode cX4_addPan 14 = .ok (.iconst 0, 1) := by decide +kernel
theorem dX4_addPan_15 : decode cX4_addPan 15 = .ok (.putfield 18, 3) := by decide +kernel
theorem dX4_addPan_18 : decode cX4_addPan 18 = .ok (.aload_n 0, 1) := by decide +kernel
theorem dX4_addPan_19 : decode cX4_addPan 19 = .ok (.dup, 1) := by decide +kernel
theorem dX4_addPan_20 : decode cX4_addPan 20 = .ok (.getfield 33, 3) := by decide +kernel
theorem dX4_addPan_23 : decode cX4_addPan 23 = .ok (.iconst 1, 1) := by decide +kernel
theorem dX4_addPan_24 : decode cX4_addPan 24 = .ok (.iadd, 1) := by decide +kernel
theorem dX4_addPan_25 : decode cX4_addPan 25 = .ok (.putfield 33, 3) := by decide +kernel
theorem dX4_addPan_28 : decode cX4_addPan 28 = .ok (.return_, 1) := by decide +kernel
set_option maxRecDepth 10000 in
theorem vX4_addPan_0 {κ : eg_K} {d : Nat} {post : eg_H → Prop} (M : eg_H) {l0 : Nat} (hl0 : l0 < 20) {l1 : Nat} (hl1 : l1 < 10) (h : (∀ M1 : eg_H, M1 = (sI M (4, l0) 0 ((M.1 (4, l0) 0) + (M.1 (1, l1) 3))) → (∀ M2 : eg_H, M2 = (sI M1 (4, l0) 1 (0 : Int32)) → (∀ M3 : eg_H, M3 = (sI M2 (4, l0) 6 ((M2.1 (4, l0) 6) + (1 : Int32))) → post M3)))) : eg_W κ gC mtX4_addPan d (eQV κ gC post) 0 [(0, vR (4, l0)), (1, vR (1, l1))] [] M := by
  refine eg_aload_n 0 dX4_addPan_0 rfl rfl ?_
  refine eg_dup dX4_addPan_1 rfl ?_
  refine eg_getI dX4_addPan_2 fl_4_15 rfl trivial (obC_4 hl0) ?_
  refine eg_aload_n 1 dX4_addPan_5 rfl rfl ?_
  refine eg_getI dX4_addPan_6 fl_4_9 rfl trivial (obC_1 hl1) ?_
  refine eg_iadd dX4_addPan_9 ?_
  refine en_putI dX4_addPan_10 fl_4_15 rfl rfl (obC_4 hl0) (fun M1 eM1 => ?_)
  have h := h M1 eM1
  refine eg_aload_n 0 dX4_addPan_13 rfl rfl ?_
  refine eg_iconst dX4_addPan_14 ic_0 ?_
  refine en_putI dX4_addPan_15 fl_4_18 rfl rfl (obC_4 hl0) (fun M2 eM2 => ?_)
  have h := h M2 eM2
  refine eg_aload_n 0 dX4_addPan_18 rfl rfl ?_
  refine eg_dup dX4_addPan_19 rfl ?_
  refine eg_getI dX4_addPan_20 fl_4_33 rfl trivial (obC_4 hl0) ?_
  refine eg_iconst dX4_addPan_23 ic_1 ?_
  refine eg_iadd dX4_addPan_24 ?_
  refine en_putI dX4_addPan_25 fl_4_33 rfl rfl (obC_4 hl0) (fun M3 eM3 => ?_)
  have h := h M3 eM3
  exact eg_vreturn dX4_addPan_28 rfl h
theorem dX5_clear_0 : decode cX5_clear 0 = .ok (.aload_n 0, 1) := by decide +kernel
theorem dX5_clear_1 : decode cX5_clear 1 = .ok (.iconst 0, 1) := by decide +kernel
theorem dX5_clear_2 : decode cX5_clear 2 = .ok (.putfield 45, 3) := by decide +kernel
theorem dX5_clear_5 : decode cX5_clear 5 = .ok (.aload_n 0, 1) := by decide +kernel
theorem dX5_clear_6 : decode cX5_clear 6 = .ok (.iconst 0, 1) := by decide +kernel
theorem dX5_clear_7 : decode cX5_clear 7 = .ok (.putfield 49, 3) := by decide +kernel
theorem dX5_clear_10 : decode cX5_clear 10 = .ok (.aload_n 0, 1) := by decide +kernel
theorem dX5_clear_11 : decode cX5_clear 11 = .ok (.iconst 0, 1) := by decide +kernel
theorem dX5_clear_12 : decode cX5_clear 12 = .ok (.putfield 52, 3) := by decide +kernel
theorem dX5_clear_15 : decode cX5_clear 15 = .ok (.aload_n 0, 1) := by decide +kernel
theorem dX5_clear_16 : decode cX5_clear 16 = .ok (.iconst 0, 1) := by decide +kernel
theorem dX5_clear_17 : decode cX5_clear 17 = .ok (.putfield 56, 3) := by decide +kernel
theorem dX5_clear_20 : decode cX5_clear 20 = .ok (.aload_n 0, 1) := by decide +kernel
theorem dX5_clear_21 : decode cX5_clear 21 = .ok (.sipush 3600, 3) := by decide +kernel
theorem dX5_clear_24 : decode cX5_clear 24 = .ok (.putfield 59, 3) := by decide +kernel
theorem dX5_clear_27 : decode cX5_clear 27 = .ok (.aload_n 0, 1) := by decide +kernel
theorem dX5_clear_28 : decode cX5_clear 28 = .ok (.iconst 0, 1) := by decide +kernel
theorem dX5_clear_29 : decode cX5_clear 29 = .ok (.putfield 62, 3) := by decide +kernel
theorem dX5_clear_32 : decode cX5_clear 32 = .ok (.iconst 0, 1) := by decide +kernel
theorem dX5_clear_33 : decode cX5_clear 33 = .ok (.istore_n 1, 1) := by decide +kernel
theorem dX5_clear_34 : decode cX5_clear 34 = .ok (.iload_n 1, 1) := by decide +kernel
theorem dX5_clear_35 : decode cX5_clear 35 = .ok (.iconst 3, 1) := by decide +kernel
theorem dX5_clear_36 : decode cX5_clear 36 = .ok (.if_icmp .ge 16, 3) := by decide +kernel
theorem dX5_clear_39 : decode cX5_clear 39 = .ok (.aload_n 0, 1) := by decide +kernel
theorem dX5_clear_40 : decode cX5_clear 40 = .ok (.getfield 33, 3) := by decide +kernel
theorem dX5_clear_43 : decode cX5_clear 43 = .ok (.iload_n 1, 1) := by decide +kernel
theorem dX5_clear_44 : decode cX5_clear 44 = .ok (.iconst (-1), 1) := by decide +kernel
theorem dX5_clear_45 : decode cX5_clear 45 = .ok (.iastore, 1) := by decide +kernel
theorem dX5_clear_46 : decode cX5_clear 46 = .ok (.iinc 1 1, 3) := by decide +kernel
theorem dX5_clear_49 : decode cX5_clear 49 = .ok (.goto (-15), 3) := by decide +kernel
theorem dX5_clear_52 : decode cX5_clear 52 = .ok (.aload_n 0, 1) := by decide +kernel
theorem dX5_clear_53 : decode cX5_clear 53 = .ok (.getfield 39, 3) := by decide +kernel
theorem dX5_clear_56 : decode cX5_clear 56 = .ok (.invokevirtual 65, 3) := by decide +kernel
theorem dX5_clear_59 : decode cX5_clear 59 = .ok (.return_, 1) := by decide +kernel
set_option maxRecDepth 10000 in
theorem vX5_clear_0 {κ : eg_K} {d : Nat} {post : eg_H → Prop} (M : eg_H) {l0 : Nat} (hl0 : l0 < 2) (h : (∀ M1 : eg_H, M1 = (sI M (5, l0) 0 (0 : Int32)) → (∀ M2 : eg_H, M2 = (sI M1 (5, l0) 2 (0 : Int32)) → (∀ M3 : eg_H, M3 = (sI M2 (5, l0) 4 (0 : Int32)) → (∀ M4 : eg_H, M4 = (sI M3 (5, l0) 5 (0 : Int32)) → (∀ M5 : eg_H, M5 = (sI M4 (5, l0) 6 (3600 : Int32)) → (∀ M6 : eg_H, M6 = (sI M5 (5, l0) 7 (0 : Int32)) → eg_W κ gC mtX5_clear d (eQV κ gC post) 34 [(0, vR (5, l0)), (1, vI (0 : Int32))] [] M6))))))) : eg_W κ gC mtX5_clear d (eQV κ gC post) 0 [(0, vR (5, l0))] [] M := by
  refine eg_aload_n 0 dX5_clear_0 rfl rfl ?_
  refine eg_iconst dX5_clear_1 ic_0 ?_
  refine en_putI dX5_clear_2 fl_5_45 rfl rfl (obC_5 hl0) (fun M1 eM1 => ?_)
  have h := h M1 eM1
  refine eg_aload_n 0 dX5_clear_5 rfl rfl ?_
  refine eg_iconst dX5_clear_6 ic_0 ?_
  refine en_putI dX5_clear_7 fl_5_49 rfl rfl (obC_5 hl0) (fun M2 eM2 => ?_)
  have h := h M2 eM2
  refine eg_aload_n 0 dX5_clear_10 rfl rfl ?_
  refine eg_iconst dX5_clear_11 ic_0 ?_
  refine en_putZ dX5_clear_12 fl_5_52 rfl rfl (Or.inl rfl) (obC_5 hl0) (fun M3 eM3 => ?_)
  have h := h M3 eM3
  refine eg_aload_n 0 dX5_clear_15 rfl rfl ?_
  refine eg_iconst dX5_clear_16 ic_0 ?_
  refine en_putI dX5_clear_17 fl_5_56 rfl rfl (obC_5 hl0) (fun M4 eM4 => ?_)
  have h := h M4 eM4
  refine eg_aload_n 0 dX5_clear_20 rfl rfl ?_
  refine eg_sipush dX5_clear_21 sp_3600 ?_
  refine en_putI dX5_clear_24 fl_5_59 rfl rfl (obC_5 hl0) (fun M5 eM5 => ?_)
  have h := h M5 eM5
  refine eg_aload_n 0 dX5_clear_27 rfl rfl ?_
  refine eg_iconst dX5_clear_28 ic_0 ?_
  refine en_putI dX5_clear_29 fl_5_62 rfl rfl (obC_5 hl0) (fun M6 eM6 => ?_)
  have h := h M6 eM6
  refine eg_iconst dX5_clear_32 ic_0 ?_
  refine eg_istore_n dX5_clear_33 rfl (by decide) (ls1 := [(1, vI (0 : Int32)), (0, vR (5, l0))]) rfl ?_
  refine eg_sub [1, 0] rfl ?_
  exact h
set_option maxRecDepth 10000 in
theorem vX5_clear_34 {κ : eg_K} {d : Nat} (hd : 1 ≤ d) {post : eg_H → Prop} (M : eg_H) {l0 : Nat} (hl0 : l0 < 2) (l1 : Int32) (h : ((3 : Int32) ≤ l1 → eCV κ gC mtX3_clear d [vR (3, l0)] M (fun M2 => post M2)) ∧ ((¬ (3 : Int32) ≤ l1) → (vp_in l1 3 ∧ (∀ M5 : eg_H, M5 = (sI M (35, l0) l1.toNatClampNeg (-1 : Int32)) → (∀ x6 : Int32, x6 = (l1 + (1 : Int32)) → eg_W κ gC mtX5_clear d (eQV κ gC post) 34 [(0, vR (5, l0)), (1, vI x6)] [] M5))))) : eg_W κ gC mtX5_clear d (eQV κ gC post) 34 [(0, vR (5, l0)), (1, vI l1)] [] M := by
  refine eg_iload_n 1 dX5_clear_34 rfl rfl ?_
  refine eg_iconst dX5_clear_35 ic_3 ?_
  refine eg_icmp_ge (tgt := 52) dX5_clear_36 rfl (fun c1 => ?_) (fun c1 => ?_)
  · have h := h.1 c1
    refine eg_aload_n 0 dX5_clear_52 rfl rfl ?_
    refine eg_getR dX5_clear_53 fl_5_39 rfl rfl (obC_5 hl0) ?_
    show eg_W κ gC mtX5_clear d (eQV κ gC post) 56 [(0, vR (5, l0)), (1, vI l1)] [vR (3, l0)] M
    obtain ⟨q3, hq3, h⟩ := h
    refine eg_callVV (av := []) (st := []) dX5_clear_56 ml_5_65 rfl rfl (obC_3 hl0) (by decide) rfl (Nat.le_of_ble_eq_true rfl) (eg_dd hd) hq3 (fun M2 hp => ?_)
    have h := h M2 hp
    exact eg_vreturn dX5_clear_59 rfl h
  · have h := h.2 c1
    refine eg_aload_n 0 dX5_clear_39 rfl rfl ?_
    refine eg_getR dX5_clear_40 fl_5_33 rfl rfl (obC_5 hl0) ?_
    show eg_W κ gC mtX5_clear d (eQV κ gC post) 43 [(0, vR (5, l0)), (1, vI l1)] [vR (35, l0)] M
    refine eg_iload_n 1 dX5_clear_43 rfl rfl ?_
    refine eg_iconst dX5_clear_44 ic_m1 ?_
    obtain ⟨g4, h⟩ := h
    refine en_iastore dX5_clear_45 (arC_35 hl0 g4) (fun M5 eM5 => ?_)
    have h := h M5 eM5
    refine en_iinc (f := fun x6 => [(1, vI x6), (0, vR (5, l0))]) 1 dX5_clear_46 rfl rfl (by decide) rfl (fun x6 ex6 => ?_)
    have h := h x6 ex6
    refine eg_goto (tgt := 34) dX5_clear_49 rfl ?_
    refine eg_sub [1, 0] rfl ?_
    exact h
theorem dX5_copyFrom_0 : decode cX5_copyFrom 0 = .ok (.aload_n 0, 1) := by decide +kernel
theorem dX5_copyFrom_1 : decode cX5_copyFrom 1 = .ok (.aload_n 1, 1) := by decide +kernel
theorem dX5_copyFrom_2 : decode cX5_copyFrom 2 = .ok (.getfield 45, 3) := by decide +kernel
theorem dX5_copyFrom_5 : decode cX5_copyFrom 5 = .ok (.putfield 45, 3) := by decide +kernel
theorem dX5_copyFrom_8 : decode cX5_copyFrom 8 = .ok (.iconst 0, 1) := by decide +kernel
theorem dX5_copyFrom_9 : decode cX5_copyFrom 9 = .ok (.istore_n 2, 1) := by decide +kernel
theorem dX5_copyFrom_10 : decode cX5_copyFrom 10 = .ok (.iload_n 2, 1) := by decide +kernel
theorem dX5_copyFrom_11 : decode cX5_copyFrom 11 = .ok (.aload_n 0, 1) := by decide +kernel
theorem dX5_copyFrom_12 : decode cX5_copyFrom 12 = .ok (.getfield 45, 3) := by decide +kernel
theorem dX5_copyFrom_15 : decode cX5_copyFrom 15 = .ok (.if_icmp .ge 29, 3) := by decide +kernel
theorem dX5_copyFrom_18 : decode cX5_copyFrom 18 = .ok (.iload_n 2, 1) := by decide +kernel
theorem dX5_copyFrom_19 : decode cX5_copyFrom 19 = .ok (.iconst 5, 1) := by decide +kernel
theorem dX5_copyFrom_20 : decode cX5_copyFrom 20 = .ok (.if_icmp .ge 24, 3) := by decide +kernel
theorem dX5_copyFrom_23 : decode cX5_copyFrom 23 = .ok (.aload_n 0, 1) := by decide +kernel
theorem dX5_copyFrom_24 : decode cX5_copyFrom 24 = .ok (.getfield 11, 3) := by decide +kernel
theorem dX5_copyFrom_27 : decode cX5_copyFrom 27 = .ok (.iload_n 2, 1) := by decide +kernel
theorem dX5_copyFrom_28 : decode cX5_copyFrom 28 = .ok (.aaload, 1) := by decide +kernel
theorem dX5_copyFrom_29 : decode cX5_copyFrom 29 = .ok (.aload_n 1, 1) := by decide +kernel
theorem dX5_copyFrom_30 : decode cX5_copyFrom 30 = .ok (.getfield 11, 3) := by decide +kernel
theorem dX5_copyFrom_33 : decode cX5_copyFrom 33 = .ok (.iload_n 2, 1) := by decide +kernel
theorem dX5_copyFrom_34 : decode cX5_copyFrom 34 = .ok (.aaload, 1) := by decide +kernel
theorem dX5_copyFrom_35 : decode cX5_copyFrom 35 = .ok (.invokevirtual 68, 3) := by decide +kernel
theorem dX5_copyFrom_38 : decode cX5_copyFrom 38 = .ok (.iinc 2 1, 3) := by decide +kernel
theorem dX5_copyFrom_41 : decode cX5_copyFrom 41 = .ok (.goto (-31), 3) := by decide +kernel
theorem dX5_copyFrom_44 : decode cX5_copyFrom 44 = .ok (.aload_n 0, 1) := by decide +kernel
theorem dX5_copyFrom_45 : decode cX5_copyFrom 45 = .ok (.aload_n 1, 1) := by decide +kernel
theorem dX5_copyFrom_46 : decode cX5_copyFrom 46 = .ok (.getfield 49, 3) := by decide +kernel
theorem dX5_copyFrom_49 : decode cX5_copyFrom 49 = .ok (.putfield 49, 3) := by decide +kernel
theorem dX5_copyFrom_52 : decode cX5_copyFrom 52 = .ok (.iconst 0, 1) := by decide +kernel
theorem dX5_copyFrom_53 : decode cX5_copyFrom 53 = .ok (.istore_n 2, 1) := by decide +kernel
theorem dX5_copyFrom_54 : decode cX5_copyFrom 54 = .ok (.iload_n 2, 1) := by decide +kernel
theorem dX5_copyFrom_55 : decode cX5_copyFrom 55 = .ok (.aload_n 0, 1) := by decide +kernel
theorem dX5_copyFrom_56 : decode cX5_copyFrom 56 = .ok (.getfield 49, 3) := by decide +kernel
theorem dX5_copyFrom_59 : decode cX5_copyFrom 59 = .ok (.if_icmp .ge 30, 3) := by decide +kernel
theorem dX5_copyFrom_62 : decode cX5_copyFrom 62 = .ok (.iload_n 2, 1) := by decide +kernel
theorem dX5_copyFrom_63 : decode cX5_copyFrom 63 = .ok (.bipush 15, 2) := by decide +kernel
theorem dX5_copyFrom_65 : decode cX5_copyFrom 65 = .ok (.if_icmp .ge 24, 3) := by decide +kernel
theorem dX5_copyFrom_68 : decode cX5_copyFrom 68 = .ok (.aload_n 0, 1) := by decide +kernel
theorem dX5_copyFrom_69 : decode cX5_copyFrom 69 = .ok (.getfield 19, 3) := by decide +kernel
theorem dX5_copyFrom_72 : decode cX5_copyFrom 72 = .ok (.iload_n 2, 1) := by decide +kernel
theorem dX5_copyFrom_73 : decode cX5_copyFrom 73 = .ok (.aaload, 1) := by decide +kernel
theorem dX5_copyFrom_74 : decode cX5_copyFrom 74 = .ok (.aload_n 1, 1) := by decide +kernel
theorem dX5_copyFrom_75 : decode cX5_copyFrom 75 = .ok (.getfield 19, 3) := by decide +kernel
theorem dX5_copyFrom_78 : decode cX5_copyFrom 78 = .ok (.iload_n 2, 1) := by decide +kernel
theorem dX5_copyFrom_79 : decode cX5_copyFrom 79 = .ok (.aaload, 1) := by decide +kernel
theorem dX5_copyFrom_80 : decode cX5_copyFrom 80 = .ok (.invokevirtual 72, 3) := by decide +kernel
theorem dX5_copyFrom_83 : decode cX5_copyFrom 83 = .ok (.iinc 2 1, 3) := by decide +kernel
theorem dX5_copyFrom_86 : decode cX5_copyFrom 86 = .ok (.goto (-32), 3) := by decide +kernel
theorem dX5_copyFrom_89 : decode cX5_copyFrom 89 = .ok (.aload_n 0, 1) := by decide +kernel
theorem dX5_copyFrom_90 : decode cX5_copyFrom 90 = .ok (.aload_n 1, 1) := by decide +kernel
theorem dX5_copyFrom_91 : decode cX5_copyFrom 91 = .ok (.getfield 52, 3) := by decide +kernel
theorem dX5_copyFrom_94 : decode cX5_copyFrom 94 = .ok (.putfield 52, 3) := by decide +kernel
theorem dX5_copyFrom_97 : decode cX5_copyFrom 97 = .ok (.aload_n 0, 1) := by decide +kernel
theorem dX5_copyFrom_98 : decode cX5_copyFrom 98 = .ok (.aload_n 1, 1) := by decide +kernel
theorem dX5_copyFrom_99 : decode cX5_copyFrom 99 = .ok (.getfield 56, 3) := by decide +kernel
theorem dX5_copyFrom_102 : decode cX5_copyFrom 102 = .ok (.putfield 56, 3) := by decide +kernel
theorem dX5_copyFrom_105 : decode cX5_copyFrom 105 = .ok (.aload_n 0, 1) := by decide +kernel
theorem dX5_copyFrom_106 : decode cX5_copyFrom 106 = .ok (.aload_n 1, 1) := by decide +kernel
theorem dX5_copyFrom_107 : decode cX5_copyFrom 107 = .ok (.getfield 59, 3) := by decide +kernel
theorem dX5_copyFrom_110 : decode cX5_copyFrom 110 = .ok (.putfield 59, 3) := by decide +kernel
theorem dX5_copyFrom_113 : decode cX5_copyFrom 113 = .ok (.aload_n 0, 1) := by decide +kernel
theorem dX5_copyFrom_114 : decode cX5_copyFrom 114 = .ok (.aload_n 1, 1) := by decide +kernel
theorem dX5_copyFrom_115 : decode cX5_copyFrom 115 = .ok (.getfield 62, 3) := by decide +kernel
theorem dX5_copyFrom_118 : decode cX5_copyFrom 118 = .ok (.putfield 62, 3) := by decide +kernel
theorem dX5_copyFrom_121 : decode cX5_copyFrom 121 = .ok (.aload_n 1, 1) := by decide +kernel
theorem dX5_copyFrom_122 : decode cX5_copyFrom 122 = .ok (.getfield 23, 3) := by decide +kernel
theorem dX5_copyFrom_125 : decode cX5_copyFrom 125 = .ok (.iconst 0, 1) := by decide +kernel
theorem dX5_copyFrom_126 : decode cX5_copyFrom 126 = .ok (.aload_n 0, 1) := by decide +kernel
theorem dX5_copyFrom_127 : decode cX5_copyFrom 127 = .ok (.getfield 23, 3) := by decide +kernel
theorem dX5_copyFrom_130 : decode cX5_copyFrom 130 = .ok (.iconst 0, 1) := by decide +kernel
theorem dX5_copyFrom_131 : decode cX5_copyFrom 131 = .ok (.iconst 4, 1) := by decide +kernel
theorem dX5_copyFrom_132 : decode cX5_copyFrom 132 = .ok (.invokestatic 75, 3) := by decide +kernel
theorem dX5_copyFrom_135 : decode cX5_copyFrom 135 = .ok (.aload_n 1, 1) := by decide +kernel
theorem dX5_copyFrom_136 : decode cX5_copyFrom 136 = .ok (.getfield 27, 3) := by decide +kernel
theorem dX5_copyFrom_139 : decode cX5_copyFrom 139 = .ok (.iconst 0, 1) := by decide +kernel
theorem dX5_copyFrom_140 : decode cX5_copyFrom 140 = .ok (.aload_n 0, 1) := by decide +kernel
theorem dX5_copyFrom_141 : decode cX5_copyFrom 141 = .ok (.getfield 27, 3) := by decide +kernel
theorem dX5_copyFrom_144 : decode cX5_copyFrom 144 = .ok (.iconst 0, 1) := by decide +kernel
theorem dX5_copyFrom_145 : decode cX5_copyFrom 145 = .ok (.iconst 4, 1) := by decide +kernel
theorem dX5_copyFrom_146 : decode cX5_copyFrom 146 = .ok (.invokestatic 75, 3) := by decide +kernel
theorem dX5_copyFrom_149 : decode cX5_copyFrom 149 = .ok (.aload_n 1, 1) := by decide +kernel
theorem dX5_copyFrom_150 : decode cX5_copyFrom 150 = .ok (.getfield 30, 3) := by decide +kernel
theorem dX5_copyFrom_153 : decode cX5_copyFrom 153 = .ok (.iconst 0, 1) := by decide +kernel
theorem dX5_copyFrom_154 : decode cX5_copyFrom 154 = .ok (.aload_n 0, 1) := by decide +kernel
theorem dX5_copyFrom_155 : decode cX5_copyFrom 155 = .ok (.getfield 30, 3) := by decide +kernel
theorem dX5_copyFrom_158 : decode cX5_copyFrom 158 = .ok (.iconst 0, 1) := by decide +kernel
theorem dX5_copyFrom_159 : decode cX5_copyFrom 159 = .ok (.iconst 4, 1) := by decide +kernel
theorem dX5_copyFrom_160 : decode cX5_copyFrom 160 = .ok (.invokestatic 75, 3) := by decide +kernel
theorem dX5_copyFrom_163 : decode cX5_copyFrom 163 = .ok (.aload_n 1, 1) := by decide +kernel
theorem dX5_copyFrom_164 : decode cX5_copyFrom 164 = .ok (.getfield 33, 3) := by decide +kernel
theorem dX5_copyFrom_167 : decode cX5_copyFrom 167 = .ok (.iconst 0, 1) := by decide +kernel
theorem dX5_copyFrom_168 : decode cX5_copyFrom 168 = .ok (.aload_n 0, 1) := by decide +kernel
theorem dX5_copyFrom_169 : decode cX5_copyFrom 169 = .ok (.getfield 33, 3) := by decide +kernel
theorem dX5_copyFrom_172 : decode cX5_copyFrom 172 = .ok (.iconst 0, 1) := by decide +kernel
theorem dX5_copyFrom_173 : decode cX5_copyFrom 173 = .ok (.iconst 3, 1) := by decide +kernel
theorem dX5_copyFrom_174 : decode cX5_copyFrom 174 = .ok (.invokestatic 75, 3) := by decide +kernel
theorem dX5_copyFrom_177 : decode cX5_copyFrom 177 = .ok (.aload_n 0, 1) := by decide +kernel
theorem dX5_copyFrom_178 : decode cX5_copyFrom 178 = .ok (.getfield 39, 3) := by decide +kernel
theorem dX5_copyFrom_181 : decode cX5_copyFrom 181 = .ok (.aload_n 1, 1) := by decide +kernel
theorem dX5_copyFrom_182 : decode cX5_copyFrom 182 = .ok (.getfield 39, 3) := by decide +kernel
theorem dX5_copyFrom_185 : decode cX5_copyFrom 185 = .ok (.invokevirtual 81, 3) := by decide +kernel
theorem dX5_copyFrom_188 : decode cX5_copyFrom 188 = .ok (.return_, 1) := by decide +kernel
set_option maxRecDepth 10000 in
theorem vX5_copyFrom_0 {κ : eg_K} {d : Nat} {post : eg_H → Prop} (M : eg_H) {l0 : Nat} (hl0 : l0 < 2) {l1 : Nat} (hl1 : l1 < 2) (h : (∀ M1 : eg_H, M1 = (sI M (5, l0) 0 (M.1 (5, l1) 0)) → eg_W κ gC mtX5_copyFrom d (eQV κ gC post) 10 [(0, vR (5, l0)), (1, vR (5, l1)), (2, vI (0 : Int32))] [] M1)) : eg_W κ gC mtX5_copyFrom d (eQV κ gC post) 0 [(0, vR (5, l0)), (1, vR (5, l1))] [] M := by
  refine eg_aload_n 0 dX5_copyFrom_0 rfl rfl ?_
  refine eg_aload_n 1 dX5_copyFrom_1 rfl rfl ?_
  refine eg_getI dX5_copyFrom_2 fl_5_45 rfl trivial (obC_5 hl1) ?_
  refine en_putI dX5_copyFrom_5 fl_5_45 rfl rfl (obC_5 hl0) (fun M1 eM1 => ?_)
  have h := h M1 eM1
  refine eg_iconst dX5_copyFrom_8 ic_0 ?_
  refine eg_istore_n dX5_copyFrom_9 rfl (by decide) (ls1 := [(2, vI (0 : Int32)), (0, vR (5, l0)), (1, vR (5, l1))]) rfl ?_
  refine eg_sub [1, 2, 0] rfl ?_
  exact h
set_option maxRecDepth 10000 in
theorem vX5_copyFrom_10 {κ : eg_K} {d : Nat} (hd : 1 ≤ d) {post : eg_H → Prop} (M : eg_H) {l0 : Nat} (hl0 : l0 < 2) {l1 : Nat} (hl1 : l1 < 2) (l2 : Int32) (h : ((M.1 (5, l0) 0) ≤ l2 → (∀ M2 : eg_H, M2 = (sI M (5, l0) 2 (M.1 (5, l1) 2)) → eg_W κ gC mtX5_copyFrom d (eQV κ gC post) 54 [(0, vR (5, l0)), (1, vR (5, l1)), (2, vI (0 : Int32))] [] M2)) ∧ ((¬ (M.1 (5, l0) 0) ≤ l2) → ((5 : Int32) ≤ l2 → (∀ M4 : eg_H, M4 = (sI M (5, l0) 2 (M.1 (5, l1) 2)) → eg_W κ gC mtX5_copyFrom d (eQV κ gC post) 54 [(0, vR (5, l0)), (1, vR (5, l1)), (2, vI (0 : Int32))] [] M4)) ∧ ((¬ (5 : Int32) ≤ l2) → (vp_in l2 5 ∧ eCV κ gC mtX1_copyFrom d [vR (1, 5 * l0 + l2.toNatClampNeg), vR (1, 5 * l1 + l2.toNatClampNeg)] M (fun M6 => (∀ x8 : Int32, x8 = (l2 + (1 : Int32)) → eg_W κ gC mtX5_copyFrom d (eQV κ gC post) 10 [(0, vR (5, l0)), (1, vR (5, l1)), (2, vI x8)] [] M6)))))) : eg_W κ gC mtX5_copyFrom d (eQV κ gC post) 10 [(0, vR (5, l0)), (1, vR (5, l1)), (2, vI l2)] [] M := by
  refine eg_iload_n 2 dX5_copyFrom_10 rfl rfl ?_
  refine eg_aload_n 0 dX5_copyFrom_11 rfl rfl ?_
  refine eg_getI dX5_copyFrom_12 fl_5_45 rfl trivial (obC_5 hl0) ?_
  refine eg_icmp_ge (tgt := 44) dX5_copyFrom_15 rfl (fun c1 => ?_) (fun c1 => ?_)
  · have h := h.1 c1
    refine eg_aload_n 0 dX5_copyFrom_44 rfl rfl ?_
    refine eg_aload_n 1 dX5_copyFrom_45 rfl rfl ?_
    refine eg_getI dX5_copyFrom_46 fl_5_49 rfl trivial (obC_5 hl1) ?_
    refine en_putI dX5_copyFrom_49 fl_5_49 rfl rfl (obC_5 hl0) (fun M2 eM2 => ?_)
    have h := h M2 eM2
    refine eg_iconst dX5_copyFrom_52 ic_0 ?_
    refine eg_istore_n dX5_copyFrom_53 rfl (by decide) (ls1 := [(2, vI (0 : Int32)), (0, vR (5, l0)), (1, vR (5, l1))]) rfl ?_
    refine eg_sub [1, 2, 0] rfl ?_
    exact h
  · have h := h.2 c1
    refine eg_iload_n 2 dX5_copyFrom_18 rfl rfl ?_
    refine eg_iconst dX5_copyFrom_19 ic_5 ?_
    refine eg_icmp_ge (tgt := 44) dX5_copyFrom_20 rfl (fun c3 => ?_) (fun c3 => ?_)
    · have h := h.1 c3
      refine eg_aload_n 0 dX5_copyFrom_44 rfl rfl ?_
      refine eg_aload_n 1 dX5_copyFrom_45 rfl rfl ?_
      refine eg_getI dX5_copyFrom_46 fl_5_49 rfl trivial (obC_5 hl1) ?_
      refine en_putI dX5_copyFrom_49 fl_5_49 rfl rfl (obC_5 hl0) (fun M4 eM4 => ?_)
      have h := h M4 eM4
      refine eg_iconst dX5_copyFrom_52 ic_0 ?_
      refine eg_istore_n dX5_copyFrom_53 rfl (by decide) (ls1 := [(2, vI (0 : Int32)), (0, vR (5, l0)), (1, vR (5, l1))]) rfl ?_
      refine eg_sub [1, 2, 0] rfl ?_
      exact h
    · have h := h.2 c3
      refine eg_aload_n 0 dX5_copyFrom_23 rfl rfl ?_
      refine eg_getR dX5_copyFrom_24 fl_5_11 rfl rfl (obC_5 hl0) ?_
      show eg_W κ gC mtX5_copyFrom d (eQV κ gC post) 27 [(0, vR (5, l0)), (1, vR (5, l1)), (2, vI l2)] [vR (30, l0)] M
      refine eg_iload_n 2 dX5_copyFrom_27 rfl rfl ?_
      obtain ⟨g5, h⟩ := h
      refine eg_aaload4 dX5_copyFrom_28 (arC_30 hl0 g5) ?_
      show eg_W κ gC mtX5_copyFrom d (eQV κ gC post) 29 [(0, vR (5, l0)), (1, vR (5, l1)), (2, vI l2)] [vR (1, 5 * l0 + l2.toNatClampNeg)] M
      refine eg_aload_n 1 dX5_copyFrom_29 rfl rfl ?_
      refine eg_getR dX5_copyFrom_30 fl_5_11 rfl rfl (obC_5 hl1) ?_
      show eg_W κ gC mtX5_copyFrom d (eQV κ gC post) 33 [(0, vR (5, l0)), (1, vR (5, l1)), (2, vI l2)] [vR (30, l1), vR (1, 5 * l0 + l2.toNatClampNeg)] M
      refine eg_iload_n 2 dX5_copyFrom_33 rfl rfl ?_
      refine eg_aaload4 dX5_copyFrom_34 (arC_30 hl1 g5) ?_
      show eg_W κ gC mtX5_copyFrom d (eQV κ gC post) 35 [(0, vR (5, l0)), (1, vR (5, l1)), (2, vI l2)] [vR (1, 5 * l1 + l2.toNatClampNeg), vR (1, 5 * l0 + l2.toNatClampNeg)] M
      obtain ⟨q7, hq7, h⟩ := h
      refine eg_callVV (av := [vR (1, 5 * l1 + l2.toNatClampNeg)]) (st := []) dX5_copyFrom_35 ml_5_68 rfl rfl (obC_1 (ixP5 hl0 g5)) (by decide) rfl (Nat.le_of_ble_eq_true rfl) (eg_dd hd) hq7 (fun M6 hp => ?_)
      have h := h M6 hp
      refine en_iinc (f := fun x8 => [(2, vI x8), (0, vR (5, l0)), (1, vR (5, l1))]) 2 dX5_copyFrom_38 rfl rfl (by decide) rfl (fun x8 ex8 => ?_)
      have h := h x8 ex8
      refine eg_goto (tgt := 10) dX5_copyFrom_41 rfl ?_
      refine eg_sub [1, 2, 0] rfl ?_
      exact h
set_option maxRecDepth 10000 in
theorem vX5_copyFrom_54 {κ : eg_K} {d : Nat} (hd : 1 ≤ d) {post : eg_H → Prop} (M : eg_H) {l0 : Nat} (hl0 : l0 < 2) {l1 : Nat} (hl1 : l1 < 2) (l2 : Int32) (h : ((M.1 (5, l0) 2) ≤ l2 → eg_W κ gC mtX5_copyFrom d (eQV κ gC post) 89 [(0, vR (5, l0)), (1, vR (5, l1))] [] M) ∧ ((¬ (M.1 (5, l0) 2) ≤ l2) → ((15 : Int32) ≤ l2 → eg_W κ gC mtX5_copyFrom d (eQV κ gC post) 89 [(0, vR (5, l0)), (1, vR (5, l1))] [] M) ∧ ((¬ (15 : Int32) ≤ l2) → (vp_in l2 15 ∧ eCV κ gC mtX0_copyFrom d [vR (0, 15 * l0 + l2.toNatClampNeg), vR (0, 15 * l1 + l2.toNatClampNeg)] M (fun M4 => (∀ x6 : Int32, x6 = (l2 + (1 : Int32)) → eg_W κ gC mtX5_copyFrom d (eQV κ gC post) 54 [(0, vR (5, l0)), (1, vR (5, l1)), (2, vI x6)] [] M4)))))) : eg_W κ gC mtX5_copyFrom d (eQV κ gC post) 54 [(0, vR (5, l0)), (1, vR (5, l1)), (2, vI l2)] [] M := by
  refine eg_iload_n 2 dX5_copyFrom_54 rfl rfl ?_
  refine eg_aload_n 0 dX5_copyFrom_55 rfl rfl ?_
  refine eg_getI dX5_copyFrom_56 fl_5_49 rfl trivial (obC_5 hl0) ?_
  refine eg_icmp_ge (tgt := 89) dX5_copyFrom_59 rfl (fun c1 => ?_) (fun c1 => ?_)
  · have h := h.1 c1
    refine eg_sub [0, 1] rfl ?_
    exact h
  · have h := h.2 c1
    refine eg_iload_n 2 dX5_copyFrom_62 rfl rfl ?_
    refine eg_bipush dX5_copyFrom_63 bp_15 ?_
    refine eg_icmp_ge (tgt := 89) dX5_copyFrom_65 rfl (fun c2 => ?_) (fun c2 => ?_)
    · have h := h.1 c2
      refine eg_sub [0, 1] rfl ?_
      exact h
    · have h := h.2 c2
      refine eg_aload_n 0 dX5_copyFrom_68 rfl rfl ?_
      refine eg_getR dX5_copyFrom_69 fl_5_19 rfl rfl (obC_5 hl0) ?_
      show eg_W κ gC mtX5_copyFrom d (eQV κ gC post) 72 [(0, vR (5, l0)), (1, vR (5, l1)), (2, vI l2)] [vR (31, l0)] M
      refine eg_iload_n 2 dX5_copyFrom_72 rfl rfl ?_
      obtain ⟨g3, h⟩ := h
      refine eg_aaload5 dX5_copyFrom_73 (arC_31 hl0 g3) ?_
      show eg_W κ gC mtX5_copyFrom d (eQV κ gC post) 74 [(0, vR (5, l0)), (1, vR (5, l1)), (2, vI l2)] [vR (0, 15 * l0 + l2.toNatClampNeg)] M
      refine eg_aload_n 1 dX5_copyFrom_74 rfl rfl ?_
      refine eg_getR dX5_copyFrom_75 fl_5_19 rfl rfl (obC_5 hl1) ?_
      show eg_W κ gC mtX5_copyFrom d (eQV κ gC post) 78 [(0, vR (5, l0)), (1, vR (5, l1)), (2, vI l2)] [vR (31, l1), vR (0, 15 * l0 + l2.toNatClampNeg)] M
      refine eg_iload_n 2 dX5_copyFrom_78 rfl rfl ?_
      refine eg_aaload5 dX5_copyFrom_79 (arC_31 hl1 g3) ?_
      show eg_W κ gC mtX5_copyFrom d (eQV κ gC post) 80 [(0, vR (5, l0)), (1, vR (5, l1)), (2, vI l2)] [vR (0, 15 * l1 + l2.toNatClampNeg), vR (0, 15 * l0 + l2.toNatClampNeg)] M
      obtain ⟨q5, hq5, h⟩ := h
      refine eg_callVV (av := [vR (0, 15 * l1 + l2.toNatClampNeg)]) (st := []) dX5_copyFrom_80 ml_5_72 rfl rfl (obC_0 (ixP15 hl0 g3)) (by decide) rfl (Nat.le_of_ble_eq_true rfl) (eg_dd hd) hq5 (fun M4 hp => ?_)
      have h := h M4 hp
      refine en_iinc (f := fun x6 => [(2, vI x6), (0, vR (5, l0)), (1, vR (5, l1))]) 2 dX5_copyFrom_83 rfl rfl (by decide) rfl (fun x6 ex6 => ?_)
      have h := h x6 ex6
      refine eg_goto (tgt := 54) dX5_copyFrom_86 rfl ?_
      refine eg_sub [1, 2, 0] rfl ?_
      exact h
set_option maxRecDepth 10000 in
theorem vX5_copyFrom_89 {κ : eg_K} {d : Nat} (hd : 1 ≤ d) {post : eg_H → Prop} (M : eg_H) {l0 : Nat} (hl0 : l0 < 2) {l1 : Nat} (hl1 : l1 < 2) (h : (((M.1 (5, l1) 4) = 0 ∨ (M.1 (5, l1) 4) = 1) ∧ (∀ M1 : eg_H, M1 = (sI M (5, l0) 4 (M.1 (5, l1) 4)) → (∀ M3 : eg_H, M3 = (sI M1 (5, l0) 5 (M1.1 (5, l1) 5)) → (∀ M4 : eg_H, M4 = (sI M3 (5, l0) 6 (M3.1 (5, l1) 6)) → (∀ M5 : eg_H, M5 = (sI M4 (5, l0) 7 (M4.1 (5, l1) 7)) → (∀ M6 : eg_H, M6 = (sC M5 (32, l1) (32, l0) (0 : Int32).toNatClampNeg (0 : Int32).toNatClampNeg (4 : Int32).toNatClampNeg) → (∀ M7 : eg_H, M7 = (sC M6 (33, l1) (33, l0) (0 : Int32).toNatClampNeg (0 : Int32).toNatClampNeg (4 : Int32).toNatClampNeg) → (∀ M8 : eg_H, M8 = (sC M7 (34, l1) (34, l0) (0 : Int32).toNatClampNeg (0 : Int32).toNatClampNeg (4 : Int32).toNatClampNeg) → (∀ M9 : eg_H, M9 = (sC M8 (35, l1) (35, l0) (0 : Int32).toNatClampNeg (0 : Int32).toNatClampNeg (3 : Int32).toNatClampNeg) → eCV κ gC mtX3_copyFrom d [vR (3, l0), vR (3, l1)] M9 (fun M10 => post M10))))))))))) : eg_W κ gC mtX5_copyFrom d (eQV κ gC post) 89 [(0, vR (5, l0)), (1, vR (5, l1))] [] M := by
  refine eg_aload_n 0 dX5_copyFrom_89 rfl rfl ?_
  refine eg_aload_n 1 dX5_copyFrom_90 rfl rfl ?_
  refine eg_getI dX5_copyFrom_91 fl_5_52 rfl trivial (obC_5 hl1) ?_
  obtain ⟨g2, h⟩ := h
  refine en_putZ dX5_copyFrom_94 fl_5_52 rfl rfl g2 (obC_5 hl0) (fun M1 eM1 => ?_)
  have h := h M1 eM1
  refine eg_aload_n 0 dX5_copyFrom_97 rfl rfl ?_
  refine eg_aload_n 1 dX5_copyFrom_98 rfl rfl ?_
  refine eg_getI dX5_copyFrom_99 fl_5_56 rfl trivial (obC_5 hl1) ?_
  refine en_putI dX5_copyFrom_102 fl_5_56 rfl rfl (obC_5 hl0) (fun M3 eM3 => ?_)
  have h := h M3 eM3
  refine eg_aload_n 0 dX5_copyFrom_105 rfl rfl ?_
  refine eg_aload_n 1 dX5_copyFrom_106 rfl rfl ?_
  refine eg_getI dX5_copyFrom_107 fl_5_59 rfl trivial (obC_5 hl1) ?_
  refine en_putI dX5_copyFrom_110 fl_5_59 rfl rfl (obC_5 hl0) (fun M4 eM4 => ?_)
  have h := h M4 eM4
  refine eg_aload_n 0 dX5_copyFrom_113 rfl rfl ?_
  refine eg_aload_n 1 dX5_copyFrom_114 rfl rfl ?_
  refine eg_getI dX5_copyFrom_115 fl_5_62 rfl trivial (obC_5 hl1) ?_
  refine en_putI dX5_copyFrom_118 fl_5_62 rfl rfl (obC_5 hl0) (fun M5 eM5 => ?_)
  have h := h M5 eM5
  refine eg_aload_n 1 dX5_copyFrom_121 rfl rfl ?_
  refine eg_getR dX5_copyFrom_122 fl_5_23 rfl rfl (obC_5 hl1) ?_
  show eg_W κ gC mtX5_copyFrom d (eQV κ gC post) 125 [(0, vR (5, l0)), (1, vR (5, l1))] [vR (32, l1)] M5
  refine eg_iconst dX5_copyFrom_125 ic_0 ?_
  refine eg_aload_n 0 dX5_copyFrom_126 rfl rfl ?_
  refine eg_getR dX5_copyFrom_127 fl_5_23 rfl rfl (obC_5 hl0) ?_
  show eg_W κ gC mtX5_copyFrom d (eQV κ gC post) 130 [(0, vR (5, l0)), (1, vR (5, l1))] [vR (32, l0), vI (0 : Int32), vR (32, l1)] M5
  refine eg_iconst dX5_copyFrom_130 ic_0 ?_
  refine eg_iconst dX5_copyFrom_131 ic_4 ?_
  refine en_copy dX5_copyFrom_132 ml_5_75 (anC_32 hl1) (anC_32 hl0) (by decide) (Nat.le_of_ble_eq_true rfl) hd (fun M6 eM6 => ?_)
  have h := h M6 eM6
  refine eg_aload_n 1 dX5_copyFrom_135 rfl rfl ?_
  refine eg_getR dX5_copyFrom_136 fl_5_27 rfl rfl (obC_5 hl1) ?_
  show eg_W κ gC mtX5_copyFrom d (eQV κ gC post) 139 [(0, vR (5, l0)), (1, vR (5, l1))] [vR (33, l1)] M6
  refine eg_iconst dX5_copyFrom_139 ic_0 ?_
  refine eg_aload_n 0 dX5_copyFrom_140 rfl rfl ?_
  refine eg_getR dX5_copyFrom_141 fl_5_27 rfl rfl (obC_5 hl0) ?_
  show eg_W κ gC mtX5_copyFrom d (eQV κ gC post) 144 [(0, vR (5, l0)), (1, vR (5, l1))] [vR (33, l0), vI (0 : Int32), vR (33, l1)] M6
  refine eg_iconst dX5_copyFrom_144 ic_0 ?_
  refine eg_iconst dX5_copyFrom_145 ic_4 ?_
  refine en_copy dX5_copyFrom_146 ml_5_75 (anC_33 hl1) (anC_33 hl0) (by decide) (Nat.le_of_ble_eq_true rfl) hd (fun M7 eM7 => ?_)
  have h := h M7 eM7
  refine eg_aload_n 1 dX5_copyFrom_149 rfl rfl ?_
  refine eg_getR dX5_copyFrom_150 fl_5_30 rfl rfl (obC_5 hl1) ?_
  show eg_W κ gC mtX5_copyFrom d (eQV κ gC post) 153 [(0, vR (5, l0)), (1, vR (5, l1))] [vR (34, l1)] M7
  refine eg_iconst dX5_copyFrom_153 ic_0 ?_
  refine eg_aload_n 0 dX5_copyFrom_154 rfl rfl ?_
  refine eg_getR dX5_copyFrom_155 fl_5_30 rfl rfl (obC_5 hl0) ?_
  show eg_W κ gC mtX5_copyFrom d (eQV κ gC post) 158 [(0, vR (5, l0)), (1, vR (5, l1))] [vR (34, l0), vI (0 : Int32), vR (34, l1)] M7
  refine eg_iconst dX5_copyFrom_158 ic_0 ?_
  refine eg_iconst dX5_copyFrom_159 ic_4 ?_
  refine en_copy dX5_copyFrom_160 ml_5_75 (anC_34 hl1) (anC_34 hl0) (by decide) (Nat.le_of_ble_eq_true rfl) hd (fun M8 eM8 => ?_)
  have h := h M8 eM8
  refine eg_aload_n 1 dX5_copyFrom_163 rfl rfl ?_
  refine eg_getR dX5_copyFrom_164 fl_5_33 rfl rfl (obC_5 hl1) ?_
  show eg_W κ gC mtX5_copyFrom d (eQV κ gC post) 167 [(0, vR (5, l0)), (1, vR (5, l1))] [vR (35, l1)] M8
  refine eg_iconst dX5_copyFrom_167 ic_0 ?_
  refine eg_aload_n 0 dX5_copyFrom_168 rfl rfl ?_
  refine eg_getR dX5_copyFrom_169 fl_5_33 rfl rfl (obC_5 hl0) ?_
  show eg_W κ gC mtX5_copyFrom d (eQV κ gC post) 172 [(0, vR (5, l0)), (1, vR (5, l1))] [vR (35, l0), vI (0 : Int32), vR (35, l1)] M8
  refine eg_iconst dX5_copyFrom_172 ic_0 ?_
  refine eg_iconst dX5_copyFrom_173 ic_3 ?_
  refine en_copy dX5_copyFrom_174 ml_5_75 (anC_35 hl1) (anC_35 hl0) (by decide) (Nat.le_of_ble_eq_true rfl) hd (fun M9 eM9 => ?_)
  have h := h M9 eM9
  refine eg_aload_n 0 dX5_copyFrom_177 rfl rfl ?_
  refine eg_getR dX5_copyFrom_178 fl_5_39 rfl rfl (obC_5 hl0) ?_
  show eg_W κ gC mtX5_copyFrom d (eQV κ gC post) 181 [(0, vR (5, l0)), (1, vR (5, l1))] [vR (3, l0)] M9
  refine eg_aload_n 1 dX5_copyFrom_181 rfl rfl ?_
  refine eg_getR dX5_copyFrom_182 fl_5_39 rfl rfl (obC_5 hl1) ?_
  show eg_W κ gC mtX5_copyFrom d (eQV κ gC post) 185 [(0, vR (5, l0)), (1, vR (5, l1))] [vR (3, l1), vR (3, l0)] M9
  obtain ⟨q11, hq11, h⟩ := h
  refine eg_callVV (av := [vR (3, l1)]) (st := []) dX5_copyFrom_185 ml_5_81 rfl rfl (obC_3 hl0) (by decide) rfl (Nat.le_of_ble_eq_true rfl) (eg_dd hd) hq11 (fun M10 hp => ?_)
  have h := h M10 hp
  exact eg_vreturn dX5_copyFrom_188 rfl h
theorem dX5_stationOf_0 : decode cX5_stationOf 0 = .ok (.iconst 0, 1) := by decide +kernel
theorem dX5_stationOf_1 : decode cX5_stationOf 1 = .ok (.istore_n 2, 1) := by decide +kernel
theorem dX5_stationOf_2 : decode cX5_stationOf 2 = .ok (.iload_n 2, 1) := by decide +kernel
theorem dX5_stationOf_3 : decode cX5_stationOf 3 = .ok (.aload_n 0, 1) := by decide +kernel
theorem dX5_stationOf_4 : decode cX5_stationOf 4 = .ok (.getfield 45, 3) := by decide +kernel
theorem dX5_stationOf_7 : decode cX5_stationOf 7 = .ok (.if_icmp .ge 29, 3) := by decide +kernel
theorem dX5_stationOf_10 : decode cX5_stationOf 10 = .ok (.iload_n 2, 1) := by decide +kernel
theorem dX5_stationOf_11 : decode cX5_stationOf 11 = .ok (.iconst 5, 1) := by decide +kernel
theorem dX5_stationOf_12 : decode cX5_stationOf 12 = .ok (.if_icmp .ge 24, 3) := by decide +kernel
theorem dX5_stationOf_15 : decode cX5_stationOf 15 = .ok (.aload_n 0, 1) := by decide +kernel
theorem dX5_stationOf_16 : decode cX5_stationOf 16 = .ok (.getfield 11, 3) := by decide +kernel
theorem dX5_stationOf_19 : decode cX5_stationOf 19 = .ok (.iload_n 2, 1) := by decide +kernel
theorem dX5_stationOf_20 : decode cX5_stationOf 20 = .ok (.aaload, 1) := by decide +kernel
theorem dX5_stationOf_21 : decode cX5_stationOf 21 = .ok (.getfield 84, 3) := by decide +kernel
theorem dX5_stationOf_24 : decode cX5_stationOf 24 = .ok (.iload_n 1, 1) := by decide +kernel
theorem dX5_stationOf_25 : decode cX5_stationOf 25 = .ok (.if_icmp .ne 5, 3) := by decide +kernel
theorem dX5_stationOf_28 : decode cX5_stationOf 28 = .ok (.iload_n 2, 1) := by decide +kernel
theorem dX5_stationOf_29 : decode cX5_stationOf 29 = .ok (.ireturn, 1) := by decide +kernel
theorem dX5_stationOf_30 : decode cX5_stationOf 30 = .ok (.iinc 2 1, 3) := by decide +kernel
theorem dX5_stationOf_33 : decode cX5_stationOf 33 = .ok (.goto (-31), 3) := by decide +kernel
theorem dX5_stationOf_36 : decode cX5_stationOf 36 = .ok (.iconst (-1), 1) := by decide +kernel
theorem dX5_stationOf_37 : decode cX5_stationOf 37 = .ok (.ireturn, 1) := by decide +kernel
set_option maxRecDepth 10000 in
theorem vX5_stationOf_0 {κ : eg_K} {d : Nat} {post : Int32 → eg_H → Prop} (M : eg_H) {l0 : Nat} (hl0 : l0 < 2) (l1 : Int32) (h : eg_W κ gC mtX5_stationOf d (eQI κ gC post) 2 [(0, vR (5, l0)), (1, vI l1), (2, vI (0 : Int32))] [] M) : eg_W κ gC mtX5_stationOf d (eQI κ gC post) 0 [(0, vR (5, l0)), (1, vI l1)] [] M := by
  refine eg_iconst dX5_stationOf_0 ic_0 ?_
  refine eg_istore_n dX5_stationOf_1 rfl (by decide) (ls1 := [(2, vI (0 : Int32)), (0, vR (5, l0)), (1, vI l1)]) rfl ?_
  refine eg_sub [1, 2, 0] rfl ?_
  exact h
set_option maxRecDepth 10000 in
theorem vX5_stationOf_2 {κ : eg_K} {d : Nat} {post : Int32 → eg_H → Prop} (M : eg_H) {l0 : Nat} (hl0 : l0 < 2) (l1 : Int32) (l2 : Int32) (h : ((M.1 (5, l0) 0) ≤ l2 → post (-1 : Int32) M) ∧ ((¬ (M.1 (5, l0) 0) ≤ l2) → ((5 : Int32) ≤ l2 → post (-1 : Int32) M) ∧ ((¬ (5 : Int32) ≤ l2) → (vp_in l2 5 ∧ ((¬ (M.1 (1, 5 * l0 + l2.toNatClampNeg) 0) = l1) → (∀ x5 : Int32, x5 = (l2 + (1 : Int32)) → eg_W κ gC mtX5_stationOf d (eQI κ gC post) 2 [(0, vR (5, l0)), (1, vI l1), (2, vI x5)] [] M)) ∧ ((M.1 (1, 5 * l0 + l2.toNatClampNeg) 0) = l1 → post l2 M))))) : eg_W κ gC mtX5_stationOf d (eQI κ gC post) 2 [(0, vR (5, l0)), (1, vI l1), (2, vI l2)] [] M := by
  refine eg_iload_n 2 dX5_stationOf_2 rfl rfl ?_
  refine eg_aload_n 0 dX5_stationOf_3 rfl rfl ?_
  refine eg_getI dX5_stationOf_4 fl_5_45 rfl trivial (obC_5 hl0) ?_
  refine eg_icmp_ge (tgt := 36) dX5_stationOf_7 rfl (fun c1 => ?_) (fun c1 => ?_)
  · have h := h.1 c1
    refine eg_iconst dX5_stationOf_36 ic_m1 ?_
    exact eg_ireturn dX5_stationOf_37 rfl h
  · have h := h.2 c1
    refine eg_iload_n 2 dX5_stationOf_10 rfl rfl ?_
    refine eg_iconst dX5_stationOf_11 ic_5 ?_
    refine eg_icmp_ge (tgt := 36) dX5_stationOf_12 rfl (fun c2 => ?_) (fun c2 => ?_)
    · have h := h.1 c2
      refine eg_iconst dX5_stationOf_36 ic_m1 ?_
      exact eg_ireturn dX5_stationOf_37 rfl h
    · have h := h.2 c2
      refine eg_aload_n 0 dX5_stationOf_15 rfl rfl ?_
      refine eg_getR dX5_stationOf_16 fl_5_11 rfl rfl (obC_5 hl0) ?_
      show eg_W κ gC mtX5_stationOf d (eQI κ gC post) 19 [(0, vR (5, l0)), (1, vI l1), (2, vI l2)] [vR (30, l0)] M
      refine eg_iload_n 2 dX5_stationOf_19 rfl rfl ?_
      obtain ⟨g3, h⟩ := h
      refine eg_aaload4 dX5_stationOf_20 (arC_30 hl0 g3) ?_
      show eg_W κ gC mtX5_stationOf d (eQI κ gC post) 21 [(0, vR (5, l0)), (1, vI l1), (2, vI l2)] [vR (1, 5 * l0 + l2.toNatClampNeg)] M
      refine eg_getI dX5_stationOf_21 fl_5_84 rfl trivial (obC_1 (ixP5 hl0 g3)) ?_
      refine eg_iload_n 1 dX5_stationOf_24 rfl rfl ?_
      refine eg_icmp_ne (tgt := 30) dX5_stationOf_25 rfl (fun c4 => ?_) (fun c4 => ?_)
      · have h := h.1 c4
        refine en_iinc (f := fun x5 => [(2, vI x5), (0, vR (5, l0)), (1, vI l1)]) 2 dX5_stationOf_30 rfl rfl (by decide) rfl (fun x5 ex5 => ?_)
        have h := h x5 ex5
        refine eg_goto (tgt := 2) dX5_stationOf_33 rfl ?_
        refine eg_sub [1, 2, 0] rfl ?_
        exact h
      · have h := h.2 c4
        refine eg_iload_n 2 dX5_stationOf_28 rfl rfl ?_
        exact eg_ireturn dX5_stationOf_29 rfl h
theorem dX5_guestOf_0 : decode cX5_guestOf 0 = .ok (.iconst 0, 1) := by decide +kernel
theorem dX5_guestOf_1 : decode cX5_guestOf 1 = .ok (.istore_n 2, 1) := by decide +kernel
theorem dX5_guestOf_2 : decode cX5_guestOf 2 = .ok (.iload_n 2, 1) := by decide +kernel
theorem dX5_guestOf_3 : decode cX5_guestOf 3 = .ok (.aload_n 0, 1) := by decide +kernel
theorem dX5_guestOf_4 : decode cX5_guestOf 4 = .ok (.getfield 49, 3) := by decide +kernel
theorem dX5_guestOf_7 : decode cX5_guestOf 7 = .ok (.if_icmp .ge 30, 3) := by decide +kernel
theorem dX5_guestOf_10 : decode cX5_guestOf 10 = .ok (.iload_n 2, 1) := by decide +kernel
theorem dX5_guestOf_11 : decode cX5_guestOf 11 = .ok (.bipush 9, 2) := by decide +kernel
theorem dX5_guestOf_13 : decode cX5_guestOf 13 = .ok (.if_icmp .ge 24, 3) := by decide +kernel
theorem dX5_guestOf_16 : decode cX5_guestOf 16 = .ok (.aload_n 0, 1) := by decide +kernel
theorem dX5_guestOf_17 : decode cX5_guestOf 17 = .ok (.getfield 19, 3) := by decide +kernel
theorem dX5_guestOf_20 : decode cX5_guestOf 20 = .ok (.iload_n 2, 1) := by decide +kernel
theorem dX5_guestOf_21 : decode cX5_guestOf 21 = .ok (.aaload, 1) := by decide +kernel
theorem dX5_guestOf_22 : decode cX5_guestOf 22 = .ok (.getfield 87, 3) := by decide +kernel
theorem dX5_guestOf_25 : decode cX5_guestOf 25 = .ok (.iload_n 1, 1) := by decide +kernel
theorem dX5_guestOf_26 : decode cX5_guestOf 26 = .ok (.if_icmp .ne 5, 3) := by decide +kernel
theorem dX5_guestOf_29 : decode cX5_guestOf 29 = .ok (.iload_n 2, 1) := by decide +kernel
theorem dX5_guestOf_30 : decode cX5_guestOf 30 = .ok (.ireturn, 1) := by decide +kernel
theorem dX5_guestOf_31 : decode cX5_guestOf 31 = .ok (.iinc 2 1, 3) := by decide +kernel
theorem dX5_guestOf_34 : decode cX5_guestOf 34 = .ok (.goto (-32), 3) := by decide +kernel
theorem dX5_guestOf_37 : decode cX5_guestOf 37 = .ok (.iconst (-1), 1) := by decide +kernel
theorem dX5_guestOf_38 : decode cX5_guestOf 38 = .ok (.ireturn, 1) := by decide +kernel
set_option maxRecDepth 10000 in
theorem vX5_guestOf_0 {κ : eg_K} {d : Nat} {post : Int32 → eg_H → Prop} (M : eg_H) {l0 : Nat} (hl0 : l0 < 2) (l1 : Int32) (h : eg_W κ gC mtX5_guestOf d (eQI κ gC post) 2 [(0, vR (5, l0)), (1, vI l1), (2, vI (0 : Int32))] [] M) : eg_W κ gC mtX5_guestOf d (eQI κ gC post) 0 [(0, vR (5, l0)), (1, vI l1)] [] M := by
  refine eg_iconst dX5_guestOf_0 ic_0 ?_
  refine eg_istore_n dX5_guestOf_1 rfl (by decide) (ls1 := [(2, vI (0 : Int32)), (0, vR (5, l0)), (1, vI l1)]) rfl ?_
  refine eg_sub [1, 2, 0] rfl ?_
  exact h
set_option maxRecDepth 10000 in
theorem vX5_guestOf_2 {κ : eg_K} {d : Nat} {post : Int32 → eg_H → Prop} (M : eg_H) {l0 : Nat} (hl0 : l0 < 2) (l1 : Int32) (l2 : Int32) (h : ((M.1 (5, l0) 2) ≤ l2 → post (-1 : Int32) M) ∧ ((¬ (M.1 (5, l0) 2) ≤ l2) → ((9 : Int32) ≤ l2 → post (-1 : Int32) M) ∧ ((¬ (9 : Int32) ≤ l2) → (vp_in l2 15 ∧ ((¬ (M.1 (0, 15 * l0 + l2.toNatClampNeg) 0) = l1) → (∀ x5 : Int32, x5 = (l2 + (1 : Int32)) → eg_W κ gC mtX5_guestOf d (eQI κ gC post) 2 [(0, vR (5, l0)), (1, vI l1), (2, vI x5)] [] M)) ∧ ((M.1 (0, 15 * l0 + l2.toNatClampNeg) 0) = l1 → post l2 M))))) : eg_W κ gC mtX5_guestOf d (eQI κ gC post) 2 [(0, vR (5, l0)), (1, vI l1), (2, vI l2)] [] M := by
  refine eg_iload_n 2 dX5_guestOf_2 rfl rfl ?_
  refine eg_aload_n 0 dX5_guestOf_3 rfl rfl ?_
  refine eg_getI dX5_guestOf_4 fl_5_49 rfl trivial (obC_5 hl0) ?_
  refine eg_icmp_ge (tgt := 37) dX5_guestOf_7 rfl (fun c1 => ?_) (fun c1 => ?_)
  · have h := h.1 c1
    refine eg_iconst dX5_guestOf_37 ic_m1 ?_
    exact eg_ireturn dX5_guestOf_38 rfl h
  · have h := h.2 c1
    refine eg_iload_n 2 dX5_guestOf_10 rfl rfl ?_
    refine eg_bipush dX5_guestOf_11 bp_9 ?_
    refine eg_icmp_ge (tgt := 37) dX5_guestOf_13 rfl (fun c2 => ?_) (fun c2 => ?_)
    · have h := h.1 c2
      refine eg_iconst dX5_guestOf_37 ic_m1 ?_
      exact eg_ireturn dX5_guestOf_38 rfl h
    · have h := h.2 c2
      refine eg_aload_n 0 dX5_guestOf_16 rfl rfl ?_
      refine eg_getR dX5_guestOf_17 fl_5_19 rfl rfl (obC_5 hl0) ?_
      show eg_W κ gC mtX5_guestOf d (eQI κ gC post) 20 [(0, vR (5, l0)), (1, vI l1), (2, vI l2)] [vR (31, l0)] M
      refine eg_iload_n 2 dX5_guestOf_20 rfl rfl ?_
      obtain ⟨g3, h⟩ := h
      refine eg_aaload5 dX5_guestOf_21 (arC_31 hl0 g3) ?_
      show eg_W κ gC mtX5_guestOf d (eQI κ gC post) 22 [(0, vR (5, l0)), (1, vI l1), (2, vI l2)] [vR (0, 15 * l0 + l2.toNatClampNeg)] M
      refine eg_getI dX5_guestOf_22 fl_5_87 rfl trivial (obC_0 (ixP15 hl0 g3)) ?_
      refine eg_iload_n 1 dX5_guestOf_25 rfl rfl ?_
      refine eg_icmp_ne (tgt := 31) dX5_guestOf_26 rfl (fun c4 => ?_) (fun c4 => ?_)
      · have h := h.1 c4
        refine en_iinc (f := fun x5 => [(2, vI x5), (0, vR (5, l0)), (1, vI l1)]) 2 dX5_guestOf_31 rfl rfl (by decide) rfl (fun x5 ex5 => ?_)
        have h := h x5 ex5
        refine eg_goto (tgt := 2) dX5_guestOf_34 rfl ?_
        refine eg_sub [1, 2, 0] rfl ?_
        exact h
      · have h := h.2 c4
        refine eg_iload_n 2 dX5_guestOf_29 rfl rfl ?_
        exact eg_ireturn dX5_guestOf_30 rfl h
theorem dX5_mayOf_0 : decode cX5_mayOf 0 = .ok (.iconst 0, 1) := by decide +kernel
theorem dX5_mayOf_1 : decode cX5_mayOf 1 = .ok (.istore_n 2, 1) := by decide +kernel
theorem dX5_mayOf_2 : decode cX5_mayOf 2 = .ok (.iload_n 2, 1) := by decide +kernel
theorem dX5_mayOf_3 : decode cX5_mayOf 3 = .ok (.aload_n 0, 1) := by decide +kernel
theorem dX5_mayOf_4 : decode cX5_mayOf 4 = .ok (.getfield 62, 3) := by decide +kernel
theorem dX5_mayOf_7 : decode cX5_mayOf 7 = .ok (.if_icmp .ge 26, 3) := by decide +kernel
theorem dX5_mayOf_10 : decode cX5_mayOf 10 = .ok (.iload_n 2, 1) := by decide +kernel
theorem dX5_mayOf_11 : decode cX5_mayOf 11 = .ok (.iconst 4, 1) := by decide +kernel
theorem dX5_mayOf_12 : decode cX5_mayOf 12 = .ok (.if_icmp .ge 21, 3) := by decide +kernel
theorem dX5_mayOf_15 : decode cX5_mayOf 15 = .ok (.aload_n 0, 1) := by decide +kernel
theorem dX5_mayOf_16 : decode cX5_mayOf 16 = .ok (.getfield 23, 3) := by decide +kernel
theorem dX5_mayOf_19 : decode cX5_mayOf 19 = .ok (.iload_n 2, 1) := by decide +kernel
theorem dX5_mayOf_20 : decode cX5_mayOf 20 = .ok (.iaload, 1) := by decide +kernel
theorem dX5_mayOf_21 : decode cX5_mayOf 21 = .ok (.iload_n 1, 1) := by decide +kernel
theorem dX5_mayOf_22 : decode cX5_mayOf 22 = .ok (.if_icmp .ne 5, 3) := by decide +kernel
theorem dX5_mayOf_25 : decode cX5_mayOf 25 = .ok (.iload_n 2, 1) := by decide +kernel
theorem dX5_mayOf_26 : decode cX5_mayOf 26 = .ok (.ireturn, 1) := by decide +kernel
theorem dX5_mayOf_27 : decode cX5_mayOf 27 = .ok (.iinc 2 1, 3) := by decide +kernel
theorem dX5_mayOf_30 : decode cX5_mayOf 30 = .ok (.goto (-28), 3) := by decide +kernel
theorem dX5_mayOf_33 : decode cX5_mayOf 33 = .ok (.iconst (-1), 1) := by decide +kernel
theorem dX5_mayOf_34 : decode cX5_mayOf 34 = .ok (.ireturn, 1) := by decide +kernel
set_option maxRecDepth 10000 in
theorem vX5_mayOf_0 {κ : eg_K} {d : Nat} {post : Int32 → eg_H → Prop} (M : eg_H) {l0 : Nat} (hl0 : l0 < 2) (l1 : Int32) (h : eg_W κ gC mtX5_mayOf d (eQI κ gC post) 2 [(0, vR (5, l0)), (1, vI l1), (2, vI (0 : Int32))] [] M) : eg_W κ gC mtX5_mayOf d (eQI κ gC post) 0 [(0, vR (5, l0)), (1, vI l1)] [] M := by
  refine eg_iconst dX5_mayOf_0 ic_0 ?_
  refine eg_istore_n dX5_mayOf_1 rfl (by decide) (ls1 := [(2, vI (0 : Int32)), (0, vR (5, l0)), (1, vI l1)]) rfl ?_
  refine eg_sub [1, 2, 0] rfl ?_
  exact h
set_option maxRecDepth 10000 in
theorem vX5_mayOf_2 {κ : eg_K} {d : Nat} {post : Int32 → eg_H → Prop} (M : eg_H) {l0 : Nat} (hl0 : l0 < 2) (l1 : Int32) (l2 : Int32) (h : ((M.1 (5, l0) 7) ≤ l2 → post (-1 : Int32) M) ∧ ((¬ (M.1 (5, l0) 7) ≤ l2) → ((4 : Int32) ≤ l2 → post (-1 : Int32) M) ∧ ((¬ (4 : Int32) ≤ l2) → (vp_in l2 4 ∧ ((¬ (M.1 (32, l0) l2.toNatClampNeg) = l1) → (∀ x5 : Int32, x5 = (l2 + (1 : Int32)) → eg_W κ gC mtX5_mayOf d (eQI κ gC post) 2 [(0, vR (5, l0)), (1, vI l1), (2, vI x5)] [] M)) ∧ ((M.1 (32, l0) l2.toNatClampNeg) = l1 → post l2 M))))) : eg_W κ gC mtX5_mayOf d (eQI κ gC post) 2 [(0, vR (5, l0)), (1, vI l1), (2, vI l2)] [] M := by
  refine eg_iload_n 2 dX5_mayOf_2 rfl rfl ?_
  refine eg_aload_n 0 dX5_mayOf_3 rfl rfl ?_
  refine eg_getI dX5_mayOf_4 fl_5_62 rfl trivial (obC_5 hl0) ?_
  refine eg_icmp_ge (tgt := 33) dX5_mayOf_7 rfl (fun c1 => ?_) (fun c1 => ?_)
  · have h := h.1 c1
    refine eg_iconst dX5_mayOf_33 ic_m1 ?_
    exact eg_ireturn dX5_mayOf_34 rfl h
  · have h := h.2 c1
    refine eg_iload_n 2 dX5_mayOf_10 rfl rfl ?_
    refine eg_iconst dX5_mayOf_11 ic_4 ?_
    refine eg_icmp_ge (tgt := 33) dX5_mayOf_12 rfl (fun c2 => ?_) (fun c2 => ?_)
    · have h := h.1 c2
      refine eg_iconst dX5_mayOf_33 ic_m1 ?_
      exact eg_ireturn dX5_mayOf_34 rfl h
    · have h := h.2 c2
      refine eg_aload_n 0 dX5_mayOf_15 rfl rfl ?_
      refine eg_getR dX5_mayOf_16 fl_5_23 rfl rfl (obC_5 hl0) ?_
      show eg_W κ gC mtX5_mayOf d (eQI κ gC post) 19 [(0, vR (5, l0)), (1, vI l1), (2, vI l2)] [vR (32, l0)] M
      refine eg_iload_n 2 dX5_mayOf_19 rfl rfl ?_
      obtain ⟨g3, h⟩ := h
      refine eg_iaload dX5_mayOf_20 (arC_32 hl0 g3) ?_
      refine eg_iload_n 1 dX5_mayOf_21 rfl rfl ?_
      refine eg_icmp_ne (tgt := 27) dX5_mayOf_22 rfl (fun c4 => ?_) (fun c4 => ?_)
      · have h := h.1 c4
        refine en_iinc (f := fun x5 => [(2, vI x5), (0, vR (5, l0)), (1, vI l1)]) 2 dX5_mayOf_27 rfl rfl (by decide) rfl (fun x5 ex5 => ?_)
        have h := h x5 ex5
        refine eg_goto (tgt := 2) dX5_mayOf_30 rfl ?_
        refine eg_sub [1, 2, 0] rfl ?_
        exact h
      · have h := h.2 c4
        refine eg_iload_n 2 dX5_mayOf_25 rfl rfl ?_
        exact eg_ireturn dX5_mayOf_26 rfl h
theorem dX5_hasStation_0 : decode cX5_hasStation 0 = .ok (.iload_n 1, 1) := by decide +kernel
theorem dX5_hasStation_1 : decode cX5_hasStation 1 = .ok (.ifCond .lt 15, 3) := by decide +kernel
theorem dX5_hasStation_4 : decode cX5_hasStation 4 = .ok (.iload_n 1, 1) := by decide +kernel
theorem dX5_hasStation_5 : decode cX5_hasStation 5 = .ok (.aload_n 0, 1) := by decide +kernel
theorem dX5_hasStation_6 : decode cX5_hasStation 6 = .ok (.getfield 45, 3) := by decide +kernel
theorem dX5_hasStation_9 : decode cX5_hasStation 9 = .ok (.if_icmp .ge 7, 3) := by decide +kernel
theorem dX5_hasStation_12 : decode cX5_hasStation 12 = .ok (.iconst 1, 1) := by decide +kernel
theorem dX5_hasStation_13 : decode cX5_hasStation 13 = .ok (.goto 4, 3) := by decide +kernel
theorem dX5_hasStation_16 : decode cX5_hasStation 16 = .ok (.iconst 0, 1) := by decide +kernel
theorem dX5_hasStation_17 : decode cX5_hasStation 17 = .ok (.ireturn, 1) := by decide +kernel
set_option maxRecDepth 10000 in
theorem vX5_hasStation_0 {κ : eg_K} {d : Nat} {post : Int32 → eg_H → Prop} (M : eg_H) {l0 : Nat} (hl0 : l0 < 2) (l1 : Int32) (h : (∀ x1 : Int32, x1 = ((if l1 < 0 then (0 : Int32) else (if (M.1 (5, l0) 0) ≤ l1 then (0 : Int32) else (1 : Int32)))) → ((x1 = 0 ∨ x1 = 1) ∧ post x1 M))) : eg_W κ gC mtX5_hasStation d (eQI κ gC post) 0 [(0, vR (5, l0)), (1, vI l1)] [] M := by
  refine eg_iload_n 1 dX5_hasStation_0 rfl rfl ?_
  have J : ∀ x1 : Int32, x1 = (if l1 < 0 then (0 : Int32) else (if (M.1 (5, l0) 0) ≤ l1 then (0 : Int32) else (1 : Int32))) → eg_W κ gC mtX5_hasStation d (eQI κ gC post) 17 [(0, vR (5, l0)), (1, vI l1)] [vI x1] M := by
    intro x1 ex1
    have h := h x1 ex1
    obtain ⟨g2, h⟩ := h
    exact eg_zreturn dX5_hasStation_17 rfl g2 h
  clear h
  refine eg_if_lt (tgt := 16) dX5_hasStation_1 rfl (fun c3 => ?_) (fun c3 => ?_)
  · refine eg_iconst dX5_hasStation_16 ic_0 ?_
    exact J _ (by rw [if_pos c3])
  · refine eg_iload_n 1 dX5_hasStation_4 rfl rfl ?_
    refine eg_aload_n 0 dX5_hasStation_5 rfl rfl ?_
    refine eg_getI dX5_hasStation_6 fl_5_45 rfl trivial (obC_5 hl0) ?_
    refine eg_icmp_ge (tgt := 16) dX5_hasStation_9 rfl (fun c4 => ?_) (fun c4 => ?_)
    · refine eg_iconst dX5_hasStation_16 ic_0 ?_
      exact J _ (by rw [if_neg c3, if_pos c4])
    · refine eg_iconst dX5_hasStation_12 ic_1 ?_
      refine eg_goto (tgt := 17) dX5_hasStation_13 rfl ?_
      exact J _ (by rw [if_neg c3, if_neg c4])
theorem dX5_hasGuest_0 : decode cX5_hasGuest 0 = .ok (.iload_n 1, 1) := by decide +kernel
theorem dX5_hasGuest_1 : decode cX5_hasGuest 1 = .ok (.ifCond .lt 15, 3) := by decide +kernel
theorem dX5_hasGuest_4 : decode cX5_hasGuest 4 = .ok (.iload_n 1, 1) := by decide +kernel
theorem dX5_hasGuest_5 : decode cX5_hasGuest 5 = .ok (.aload_n 0, 1) := by decide +kernel
theorem dX5_hasGuest_6 : decode cX5_hasGuest 6 = .ok (.getfield 49, 3) := by decide +kernel
theorem dX5_hasGuest_9 : decode cX5_hasGuest 9 = .ok (.if_icmp .ge 7, 3) := by decide +kernel
theorem dX5_hasGuest_12 : decode cX5_hasGuest 12 = .ok (.iconst 1, 1) := by decide +kernel
theorem dX5_hasGuest_13 : decode cX5_hasGuest 13 = .ok (.goto 4, 3) := by decide +kernel
theorem dX5_hasGuest_16 : decode cX5_hasGuest 16 = .ok (.iconst 0, 1) := by decide +kernel
theorem dX5_hasGuest_17 : decode cX5_hasGuest 17 = .ok (.ireturn, 1) := by decide +kernel
set_option maxRecDepth 10000 in
theorem vX5_hasGuest_0 {κ : eg_K} {d : Nat} {post : Int32 → eg_H → Prop} (M : eg_H) {l0 : Nat} (hl0 : l0 < 2) (l1 : Int32) (h : (∀ x1 : Int32, x1 = ((if l1 < 0 then (0 : Int32) else (if (M.1 (5, l0) 2) ≤ l1 then (0 : Int32) else (1 : Int32)))) → ((x1 = 0 ∨ x1 = 1) ∧ post x1 M))) : eg_W κ gC mtX5_hasGuest d (eQI κ gC post) 0 [(0, vR (5, l0)), (1, vI l1)] [] M := by
  refine eg_iload_n 1 dX5_hasGuest_0 rfl rfl ?_
  have J : ∀ x1 : Int32, x1 = (if l1 < 0 then (0 : Int32) else (if (M.1 (5, l0) 2) ≤ l1 then (0 : Int32) else (1 : Int32))) → eg_W κ gC mtX5_hasGuest d (eQI κ gC post) 17 [(0, vR (5, l0)), (1, vI l1)] [vI x1] M := by
    intro x1 ex1
    have h := h x1 ex1
    obtain ⟨g2, h⟩ := h
    exact eg_zreturn dX5_hasGuest_17 rfl g2 h
  clear h
  refine eg_if_lt (tgt := 16) dX5_hasGuest_1 rfl (fun c3 => ?_) (fun c3 => ?_)
  · refine eg_iconst dX5_hasGuest_16 ic_0 ?_
    exact J _ (by rw [if_pos c3])
  · refine eg_iload_n 1 dX5_hasGuest_4 rfl rfl ?_
    refine eg_aload_n 0 dX5_hasGuest_5 rfl rfl ?_
    refine eg_getI dX5_hasGuest_6 fl_5_49 rfl trivial (obC_5 hl0) ?_
    refine eg_icmp_ge (tgt := 16) dX5_hasGuest_9 rfl (fun c4 => ?_) (fun c4 => ?_)
    · refine eg_iconst dX5_hasGuest_16 ic_0 ?_
      exact J _ (by rw [if_neg c3, if_pos c4])
    · refine eg_iconst dX5_hasGuest_12 ic_1 ?_
      refine eg_goto (tgt := 17) dX5_hasGuest_13 rfl ?_
      exact J _ (by rw [if_neg c3, if_neg c4])
theorem dX5_hasPan_0 : decode cX5_hasPan 0 = .ok (.iload_n 1, 1) := by decide +kernel
theorem dX5_hasPan_1 : decode cX5_hasPan 1 = .ok (.ifCond .lt 27, 3) := by decide +kernel
theorem dX5_hasPan_4 : decode cX5_hasPan 4 = .ok (.iload_n 1, 1) := by decide +kernel
theorem dX5_hasPan_5 : decode cX5_hasPan 5 = .ok (.aload_n 0, 1) := by decide +kernel
theorem dX5_hasPan_6 : decode cX5_hasPan 6 = .ok (.getfield 45, 3) := by decide +kernel
theorem dX5_hasPan_9 : decode cX5_hasPan 9 = .ok (.if_icmp .ge 19, 3) := by decide +kernel
theorem dX5_hasPan_12 : decode cX5_hasPan 12 = .ok (.aload_n 0, 1) := by decide +kernel
theorem dX5_hasPan_13 : decode cX5_hasPan 13 = .ok (.getfield 11, 3) := by decide +kernel
theorem dX5_hasPan_16 : decode cX5_hasPan 16 = .ok (.iload_n 1, 1) := by decide +kernel
theorem dX5_hasPan_17 : decode cX5_hasPan 17 = .ok (.aaload, 1) := by decide +kernel
theorem dX5_hasPan_18 : decode cX5_hasPan 18 = .ok (.getfield 88, 3) := by decide +kernel
theorem dX5_hasPan_21 : decode cX5_hasPan 21 = .ok (.ifCond .le 7, 3) := by decide +kernel
theorem dX5_hasPan_24 : decode cX5_hasPan 24 = .ok (.iconst 1, 1) := by decide +kernel
theorem dX5_hasPan_25 : decode cX5_hasPan 25 = .ok (.goto 4, 3) := by decide +kernel
theorem dX5_hasPan_28 : decode cX5_hasPan 28 = .ok (.iconst 0, 1) := by decide +kernel
theorem dX5_hasPan_29 : decode cX5_hasPan 29 = .ok (.ireturn, 1) := by decide +kernel
set_option maxRecDepth 10000 in
theorem vX5_hasPan_0 {κ : eg_K} {d : Nat} {post : Int32 → eg_H → Prop} (M : eg_H) {l0 : Nat} (hl0 : l0 < 2) (l1 : Int32) (h : (((¬ l1 < 0) → (¬ (M.1 (5, l0) 0) ≤ l1) → vp_in l1 5) ∧ (∀ x2 : Int32, x2 = ((if l1 < 0 then (0 : Int32) else (if (M.1 (5, l0) 0) ≤ l1 then (0 : Int32) else (if (M.1 (1, 5 * l0 + l1.toNatClampNeg) 3) ≤ 0 then (0 : Int32) else (1 : Int32))))) → ((x2 = 0 ∨ x2 = 1) ∧ post x2 M)))) : eg_W κ gC mtX5_hasPan d (eQI κ gC post) 0 [(0, vR (5, l0)), (1, vI l1)] [] M := by
  refine eg_iload_n 1 dX5_hasPan_0 rfl rfl ?_
  obtain ⟨g1, h⟩ := h
  have J : ∀ x2 : Int32, x2 = (if l1 < 0 then (0 : Int32) else (if (M.1 (5, l0) 0) ≤ l1 then (0 : Int32) else (if (M.1 (1, 5 * l0 + l1.toNatClampNeg) 3) ≤ 0 then (0 : Int32) else (1 : Int32)))) → eg_W κ gC mtX5_hasPan d (eQI κ gC post) 29 [(0, vR (5, l0)), (1, vI l1)] [vI x2] M := by
    intro x2 ex2
    have h := h x2 ex2
    obtain ⟨g3, h⟩ := h
    exact eg_zreturn dX5_hasPan_29 rfl g3 h
  clear h
  refine eg_if_lt (tgt := 28) dX5_hasPan_1 rfl (fun c4 => ?_) (fun c4 => ?_)
  · refine eg_iconst dX5_hasPan_28 ic_0 ?_
    exact J _ (by rw [if_pos c4])
  · refine eg_iload_n 1 dX5_hasPan_4 rfl rfl ?_
    refine eg_aload_n 0 dX5_hasPan_5 rfl rfl ?_
    refine eg_getI dX5_hasPan_6 fl_5_45 rfl trivial (obC_5 hl0) ?_
    refine eg_icmp_ge (tgt := 28) dX5_hasPan_9 rfl (fun c5 => ?_) (fun c5 => ?_)
    · refine eg_iconst dX5_hasPan_28 ic_0 ?_
      exact J _ (by rw [if_neg c4, if_pos c5])
    · refine eg_aload_n 0 dX5_hasPan_12 rfl rfl ?_
      refine eg_getR dX5_hasPan_13 fl_5_11 rfl rfl (obC_5 hl0) ?_
      show eg_W κ gC mtX5_hasPan d (eQI κ gC post) 16 [(0, vR (5, l0)), (1, vI l1)] [vR (30, l0)] M
      refine eg_iload_n 1 dX5_hasPan_16 rfl rfl ?_
      refine eg_aaload4 dX5_hasPan_17 (arC_30 hl0 (g1 (show (¬ l1 < 0) from by first | exact c4 | exact Classical.not_not.mp c4) (show (¬ (M.1 (5, l0) 0) ≤ l1) from by first | exact c5 | exact Classical.not_not.mp c5))) ?_
      show eg_W κ gC mtX5_hasPan d (eQI κ gC post) 18 [(0, vR (5, l0)), (1, vI l1)] [vR (1, 5 * l0 + l1.toNatClampNeg)] M
      refine eg_getI dX5_hasPan_18 fl_5_88 rfl trivial (obC_1 (ixP5 hl0 (g1 (show (¬ l1 < 0) from by first | exact c4 | exact Classical.not_not.mp c4) (show (¬ (M.1 (5, l0) 0) ≤ l1) from by first | exact c5 | exact Classical.not_not.mp c5)))) ?_
      refine eg_if_le (tgt := 28) dX5_hasPan_21 rfl (fun c6 => ?_) (fun c6 => ?_)
      · refine eg_iconst dX5_hasPan_28 ic_0 ?_
        exact J _ (by rw [if_neg c4, if_neg c5, if_pos c6])
      · refine eg_iconst dX5_hasPan_24 ic_1 ?_
        refine eg_goto (tgt := 29) dX5_hasPan_25 rfl ?_
        exact J _ (by rw [if_neg c4, if_neg c5, if_neg c6])
