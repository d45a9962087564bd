theorem dX0_copyFrom_0 : decode cX0_copyFrom 0 = .ok (.aload_n 0, 1) := by decide +kernel
theorem dX0_copyFrom_1 : decode cX0_copyFrom 1 = .ok (.aload_n 1, 1) := by decide +kernel
theorem dX0_copyFrom_2 : decode cX0_copyFrom 2 = .ok (.getfield 15, 3) := by decide +kernel
theorem dX0_copyFrom_5 : decode cX0_copyFrom 5 = .ok (.putfield 15, 3) := by decide +kernel
theorem dX0_copyFrom_8 : decode cX0_copyFrom 8 = .ok (.aload_n 0, 1) := by decide +kernel
theorem dX0_copyFrom_9 : decode cX0_copyFrom 9 = .ok (.aload_n 1, 1) := by decide +kernel
theorem dX0_copyFrom_10 : decode cX0_copyFrom 10 = .ok (.getfield 19, 3) := by decide +kernel
theorem dX0_copyFrom_13 : decode cX0_copyFrom 13 = .ok (.putfield 19, 3) := by decide +kernel
theorem dX0_copyFrom_16 : decode cX0_copyFrom 16 = .ok (.aload_n 0, 1) := by decide +kernel
theorem dX0_copyFrom_17 : decode cX0_copyFrom 17 = .ok (.aload_n 1, 1) := by decide +kernel
theorem dX0_copyFrom_18 : decode cX0_copyFrom 18 = .ok (.getfield 22, 3) := by decide +kernel
theorem dX0_copyFrom_21 : decode cX0_copyFrom 21 = .ok (.putfield 22, 3) := by decide +kernel
theorem dX0_copyFrom_24 : decode cX0_copyFrom 24 = .ok (.aload_n 1, 1) := by decide +kernel
theorem dX0_copyFrom_25 : decode cX0_copyFrom 25 = .ok (.getfield 9, 3) := by decide +kernel
theorem dX0_copyFrom_28 : decode cX0_copyFrom 28 = .ok (.iconst 0, 1) := by decide +kernel
theorem dX0_copyFrom_29 : decode cX0_copyFrom 29 = .ok (.aload_n 0, 1) := by decide +kernel
theorem dX0_copyFrom_30 : decode cX0_copyFrom 30 = .ok (.getfield 9, 3) := by decide +kernel
theorem dX0_copyFrom_33 : decode cX0_copyFrom 33 = .ok (.iconst 0, 1) := by decide +kernel
theorem dX0_copyFrom_34 : decode cX0_copyFrom 34 = .ok (.iconst 5, 1) := by decide +kernel
theorem dX0_copyFrom_35 : decode cX0_copyFrom 35 = .ok (.invokestatic 25, 3) := by decide +kernel
theorem dX0_copyFrom_38 : decode cX0_copyFrom 38 = .ok (.return_, 1) := by decide +kernel
set_option maxRecDepth 10000 in
theorem vX0_copyFrom_0 {κ : eg_K} {d : Nat} (hd : 1 ≤ d) {post : eg_H → Prop} (M : eg_H) {l0 : Nat} (hl0 : l0 < 30) {l1 : Nat} (hl1 : l1 < 30) (h : post (sC (sI (sI (sI M (0, l0) 0 (M.1 (0, l1) 0)) (0, l0) 1 ((sI M (0, l0) 0 (M.1 (0, l1) 0)).1 (0, l1) 1)) (0, l0) 2 ((sI (sI M (0, l0) 0 (M.1 (0, l1) 0)) (0, l0) 1 ((sI M (0, l0) 0 (M.1 (0, l1) 0)).1 (0, l1) 1)).1 (0, l1) 2)) (20, l1) (20, l0) (0 : Int32).toNatClampNeg (0 : Int32).toNatClampNeg (5 : Int32).toNatClampNeg)) : eg_W κ gC mtX0_copyFrom d (eQV κ gC post) 0 [(0, vR (0, l0)), (1, vR (0, l1))] [] M := by
  refine eg_aload_n 0 dX0_copyFrom_0 rfl rfl ?_
  refine eg_aload_n 1 dX0_copyFrom_1 rfl rfl ?_
  refine eg_getI dX0_copyFrom_2 fl_0_15 rfl trivial (obC_0 hl1) ?_
  refine eg_putI dX0_copyFrom_5 fl_0_15 rfl rfl trivial (obC_0 hl0) ?_
  refine eg_aload_n 0 dX0_copyFrom_8 rfl rfl ?_
  refine eg_aload_n 1 dX0_copyFrom_9 rfl rfl ?_
  refine eg_getI dX0_copyFrom_10 fl_0_19 rfl trivial (obC_0 hl1) ?_
  refine eg_putI dX0_copyFrom_13 fl_0_19 rfl rfl trivial (obC_0 hl0) ?_
  refine eg_aload_n 0 dX0_copyFrom_16 rfl rfl ?_
  refine eg_aload_n 1 dX0_copyFrom_17 rfl rfl ?_
  refine eg_getI dX0_copyFrom_18 fl_0_22 rfl trivial (obC_0 hl1) ?_
  refine eg_putI dX0_copyFrom_21 fl_0_22 rfl rfl trivial (obC_0 hl0) ?_
  refine eg_aload_n 1 dX0_copyFrom_24 rfl rfl ?_
  refine eg_getR dX0_copyFrom_25 fl_0_9 rfl rfl (obC_0 hl1) ?_
  show eg_W κ gC mtX0_copyFrom d (eQV κ gC post) 28 [(0, vR (0, l0)), (1, vR (0, l1))] [vR (20, l1)] (sI (sI (sI M (0, l0) 0 (M.1 (0, l1) 0)) (0, l0) 1 ((sI M (0, l0) 0 (M.1 (0, l1) 0)).1 (0, l1) 1)) (0, l0) 2 ((sI (sI M (0, l0) 0 (M.1 (0, l1) 0)) (0, l0) 1 ((sI M (0, l0) 0 (M.1 (0, l1) 0)).1 (0, l1) 1)).1 (0, l1) 2))
  refine eg_iconst dX0_copyFrom_28 ic_0 ?_
  refine eg_aload_n 0 dX0_copyFrom_29 rfl rfl ?_
  refine eg_getR dX0_copyFrom_30 fl_0_9 rfl rfl (obC_0 hl0) ?_
  show eg_W κ gC mtX0_copyFrom d (eQV κ gC post) 33 [(0, vR (0, l0)), (1, vR (0, l1))] [vR (20, l0), vI (0 : Int32), vR (20, l1)] (sI (sI (sI M (0, l0) 0 (M.1 (0, l1) 0)) (0, l0) 1 ((sI M (0, l0) 0 (M.1 (0, l1) 0)).1 (0, l1) 1)) (0, l0) 2 ((sI (sI M (0, l0) 0 (M.1 (0, l1) 0)) (0, l0) 1 ((sI M (0, l0) 0 (M.1 (0, l1) 0)).1 (0, l1) 1)).1 (0, l1) 2))
  refine eg_iconst dX0_copyFrom_33 ic_0 ?_
  refine eg_iconst dX0_copyFrom_34 ic_5 ?_
  refine eg_copy dX0_copyFrom_35 ml_0_25 (anC_20 hl1) (anC_20 hl0) (by decide) (by decide) (by decide) (by decide) (by decide) (Nat.le_of_ble_eq_true rfl) (by omega) ?_
  exact eg_vreturn dX0_copyFrom_38 rfl h
def fX0_copyFrom (M : eg_H) (l0 : Nat) (l1 : Nat) : eg_H := (sC (sI (sI (sI M (0, l0) 0 (M.1 (0, l1) 0)) (0, l0) 1 ((sI M (0, l0) 0 (M.1 (0, l1) 0)).1 (0, l1) 1)) (0, l0) 2 ((sI (sI M (0, l0) 0 (M.1 (0, l1) 0)) (0, l0) 1 ((sI M (0, l0) 0 (M.1 (0, l1) 0)).1 (0, l1) 1)).1 (0, l1) 2)) (20, l1) (20, l0) (0 : Int32).toNatClampNeg (0 : Int32).toNatClampNeg (5 : Int32).toNatClampNeg)
set_option maxRecDepth 10000 in
theorem sX0_copyFrom {κ : eg_K} {d : Nat} (hd : 1 ≤ d) (M : eg_H) (l0 : Nat) (l1 : Nat) (hl0 : l0 < 30) (hl1 : l1 < 30)  : eg_S κ gC mtX0_copyFrom d [vR (0, l0), vR (0, l1)] M (eQV κ gC (fun M1 => M1 = fX0_copyFrom M l0 l1)) := by
  refine eg_S.of rfl (Nat.le_of_ble_eq_true rfl) (vX0_copyFrom_0 (by omega) M hl0 hl1 ?_)
  show _ = _
  exact (rfl)
theorem dX1_clear_0 : decode cX1_clear 0 = .ok (.aload_n 0, 1) := by decide +kernel
theorem dX1_clear_1 : decode cX1_clear 1 = .ok (.iconst 0, 1) := by decide +kernel
theorem dX1_clear_2 : decode cX1_clear 2 = .ok (.putfield 7, 3) := by decide +kernel
theorem dX1_clear_5 : decode cX1_clear 5 = .ok (.aload_n 0, 1) := by decide +kernel
theorem dX1_clear_6 : decode cX1_clear 6 = .ok (.iconst 0, 1) := by decide +kernel
theorem dX1_clear_7 : decode cX1_clear 7 = .ok (.putfield 13, 3) := by decide +kernel
theorem dX1_clear_10 : decode cX1_clear 10 = .ok (.aload_n 0, 1) := by decide +kernel
theorem dX1_clear_11 : decode cX1_clear 11 = .ok (.iconst 0, 1) := by decide +kernel
theorem dX1_clear_12 : decode cX1_clear 12 = .ok (.putfield 16, 3) := by decide +kernel
theorem dX1_clear_15 : decode cX1_clear 15 = .ok (.aload_n 0, 1) := by decide +kernel
theorem dX1_clear_16 : decode cX1_clear 16 = .ok (.iconst 0, 1) := by decide +kernel
theorem dX1_clear_17 : decode cX1_clear 17 = .ok (.putfield 19, 3) := by decide +kernel
theorem dX1_clear_20 : decode cX1_clear 20 = .ok (.return_, 1) := by decide +kernel
set_option maxRecDepth 10000 in
theorem vX1_clear_0 {κ : eg_K} {d : Nat} {post : eg_H → Prop} (M : eg_H) {l0 : Nat} (hl0 : l0 < 10) (h : post (sI (sI (sI (sI M (1, l0) 3 (0 : Int32)) (1, l0) 4 (0 : Int32)) (1, l0) 5 (0 : Int32)) (1, l0) 6 (0 : Int32))) : eg_W κ gC mtX1_clear d (eQV κ gC post) 0 [(0, vR (1, l0))] [] M := by
  refine eg_aload_n 0 dX1_clear_0 rfl rfl ?_
  refine eg_iconst dX1_clear_1 ic_0 ?_
  refine eg_putI dX1_clear_2 fl_1_7 rfl rfl trivial (obC_1 hl0) ?_
  refine eg_aload_n 0 dX1_clear_5 rfl rfl ?_
  refine eg_iconst dX1_clear_6 ic_0 ?_
  refine eg_putI dX1_clear_7 fl_1_13 rfl rfl trivial (obC_1 hl0) ?_
  refine eg_aload_n 0 dX1_clear_10 rfl rfl ?_
  refine eg_iconst dX1_clear_11 ic_0 ?_
  refine eg_putI dX1_clear_12 fl_1_16 rfl rfl trivial (obC_1 hl0) ?_
  refine eg_aload_n 0 dX1_clear_15 rfl rfl ?_
  refine eg_iconst dX1_clear_16 ic_0 ?_
  refine eg_putI dX1_clear_17 fl_1_19 rfl rfl trivial (obC_1 hl0) ?_
  exact eg_vreturn dX1_clear_20 rfl h
def fX1_clear (M : eg_H) (l0 : Nat) : eg_H := (sI (sI (sI (sI M (1, l0) 3 (0 : Int32)) (1, l0) 4 (0 : Int32)) (1, l0) 5 (0 : Int32)) (1, l0) 6 (0 : Int32))
set_option maxRecDepth 10000 in
theorem sX1_clear {κ : eg_K} {d : Nat} (hd : 0 ≤ d) (M : eg_H) (l0 : Nat) (hl0 : l0 < 10)  : eg_S κ gC mtX1_clear d [vR (1, l0)] M (eQV κ gC (fun M1 => M1 = fX1_clear M l0)) := by
  refine eg_S.of rfl (Nat.le_of_ble_eq_true rfl) (vX1_clear_0 M hl0 ?_)
  show _ = _
  exact (rfl)
theorem dX2_clearPlate_0 : decode cX2_clearPlate 0 = .ok (.aload_n 0, 1) := by decide +kernel
theorem dX2_clearPlate_1 : decode cX2_clearPlate 1 = .ok (.iconst (-1), 1) := by decide +kernel
theorem dX2_clearPlate_2 : decode cX2_clearPlate 2 = .ok (.putfield 53, 3) := by decide +kernel
theorem dX2_clearPlate_5 : decode cX2_clearPlate 5 = .ok (.aload_n 0, 1) := by decide +kernel
theorem dX2_clearPlate_6 : decode cX2_clearPlate 6 = .ok (.aload_n 1, 1) := by decide +kernel
theorem dX2_clearPlate_7 : decode cX2_clearPlate 7 = .ok (.getfield 56, 3) := by decide +kernel
theorem dX2_clearPlate_10 : decode cX2_clearPlate 10 = .ok (.putfield 59, 3) := by decide +kernel
theorem dX2_clearPlate_13 : decode cX2_clearPlate 13 = .ok (.aload_n 0, 1) := by decide +kernel
theorem dX2_clearPlate_14 : decode cX2_clearPlate 14 = .ok (.iconst 0, 1) := by decide +kernel
theorem dX2_clearPlate_15 : decode cX2_clearPlate 15 = .ok (.putfield 62, 3) := by decide +kernel
theorem dX2_clearPlate_18 : decode cX2_clearPlate 18 = .ok (.aload_n 0, 1) := by decide +kernel
theorem dX2_clearPlate_19 : decode cX2_clearPlate 19 = .ok (.iconst 0, 1) := by decide +kernel
theorem dX2_clearPlate_20 : decode cX2_clearPlate 20 = .ok (.putfield 65, 3) := by decide +kernel
theorem dX2_clearPlate_23 : decode cX2_clearPlate 23 = .ok (.return_, 1) := by decide +kernel
set_option maxRecDepth 10000 in
theorem vX2_clearPlate_0 {κ : eg_K} {d : Nat} {post : eg_H → Prop} (M : eg_H) {l0 : Nat} (hl0 : l0 < 60) {l1 : Nat} (hl1 : l1 < 30) (h : post (sI (sI (sI (sI M (2, l0) 1 (-1 : Int32)) (2, l0) 2 ((sI M (2, l0) 1 (-1 : Int32)).1 (0, l1) 2)) (2, l0) 4 (0 : Int32)) (2, l0) 5 (0 : Int32))) : eg_W κ gC mtX2_clearPlate d (eQV κ gC post) 0 [(0, vR (2, l0)), (1, vR (0, l1))] [] M := by
  refine eg_aload_n 0 dX2_clearPlate_0 rfl rfl ?_
  refine eg_iconst dX2_clearPlate_1 ic_m1 ?_
  refine eg_putI dX2_clearPlate_2 fl_2_53 rfl rfl trivial (obC_2 hl0) ?_
  refine eg_aload_n 0 dX2_clearPlate_5 rfl rfl ?_
  refine eg_aload_n 1 dX2_clearPlate_6 rfl rfl ?_
  refine eg_getI dX2_clearPlate_7 fl_2_56 rfl trivial (obC_0 hl1) ?_
  refine eg_putI dX2_clearPlate_10 fl_2_59 rfl rfl trivial (obC_2 hl0) ?_
  refine eg_aload_n 0 dX2_clearPlate_13 rfl rfl ?_
  refine eg_iconst dX2_clearPlate_14 ic_0 ?_
  refine eg_putI dX2_clearPlate_15 fl_2_62 rfl rfl trivial (obC_2 hl0) ?_
  refine eg_aload_n 0 dX2_clearPlate_18 rfl rfl ?_
  refine eg_iconst dX2_clearPlate_19 ic_0 ?_
  refine eg_putZ dX2_clearPlate_20 fl_2_65 rfl rfl (Or.inl rfl) (obC_2 hl0) ?_
  exact eg_vreturn dX2_clearPlate_23 rfl h
def fX2_clearPlate (M : eg_H) (l0 : Nat) (l1 : Nat) : eg_H := (sI (sI (sI (sI M (2, l0) 1 (-1 : Int32)) (2, l0) 2 ((sI M (2, l0) 1 (-1 : Int32)).1 (0, l1) 2)) (2, l0) 4 (0 : Int32)) (2, l0) 5 (0 : Int32))
set_option maxRecDepth 10000 in
theorem sX2_clearPlate {κ : eg_K} {d : Nat} (hd : 0 ≤ d) (M : eg_H) (l0 : Nat) (l1 : Nat) (hl0 : l0 < 60) (hl1 : l1 < 30)  : eg_S κ gC mtX2_clearPlate d [vR (2, l0), vR (0, l1)] M (eQV κ gC (fun M1 => M1 = fX2_clearPlate M l0 l1)) := by
  refine eg_S.of rfl (Nat.le_of_ble_eq_true rfl) (vX2_clearPlate_0 M hl0 hl1 ?_)
  show _ = _
  exact (rfl)
theorem dX2_goWithout_0 : decode cX2_goWithout 0 = .ok (.aload_n 0, 1) := by decide +kernel
theorem dX2_goWithout_1 : decode cX2_goWithout 1 = .ok (.getfield 9, 3) := by decide +kernel
theorem dX2_goWithout_4 : decode cX2_goWithout 4 = .ok (.iload_n 1, 1) := by decide +kernel
theorem dX2_goWithout_5 : decode cX2_goWithout 5 = .ok (.iconst 0, 1) := by decide +kernel
theorem dX2_goWithout_6 : decode cX2_goWithout 6 = .ok (.iastore, 1) := by decide +kernel
theorem dX2_goWithout_7 : decode cX2_goWithout 7 = .ok (.aload_n 0, 1) := by decide +kernel
theorem dX2_goWithout_8 : decode cX2_goWithout 8 = .ok (.dup, 1) := by decide +kernel
theorem dX2_goWithout_9 : decode cX2_goWithout 9 = .ok (.getfield 43, 3) := by decide +kernel
theorem dX2_goWithout_12 : decode cX2_goWithout 12 = .ok (.iconst 1, 1) := by decide +kernel
theorem dX2_goWithout_13 : decode cX2_goWithout 13 = .ok (.iadd, 1) := by decide +kernel
theorem dX2_goWithout_14 : decode cX2_goWithout 14 = .ok (.putfield 43, 3) := by decide +kernel
theorem dX2_goWithout_17 : decode cX2_goWithout 17 = .ok (.return_, 1) := by decide +kernel
set_option maxRecDepth 10000 in
theorem vX2_goWithout_0 {κ : eg_K} {d : Nat} {post : eg_H → Prop} (M : eg_H) {l0 : Nat} (hl0 : l0 < 60) (l1 : Int32) (h : (vp_in l1 5 ∧ post (sI (sI M (22, l0) l1.toNatClampNeg (0 : Int32)) (2, l0) 11 (((sI M (22, l0) l1.toNatClampNeg (0 : Int32)).1 (2, l0) 11) + (1 : Int32))))) : eg_W κ gC mtX2_goWithout d (eQV κ gC post) 0 [(0, vR (2, l0)), (1, vI l1)] [] M := by
  refine eg_aload_n 0 dX2_goWithout_0 rfl rfl ?_
  refine eg_getR dX2_goWithout_1 fl_2_9 rfl rfl (obC_2 hl0) ?_
  show eg_W κ gC mtX2_goWithout d (eQV κ gC post) 4 [(0, vR (2, l0)), (1, vI l1)] [vR (22, l0)] M
  refine eg_iload_n 1 dX2_goWithout_4 rfl rfl ?_
  refine eg_iconst dX2_goWithout_5 ic_0 ?_
  obtain ⟨g1, h⟩ := h
  refine eg_iastore dX2_goWithout_6 (arC_22 hl0 g1) ?_
  refine eg_aload_n 0 dX2_goWithout_7 rfl rfl ?_
  refine eg_dup dX2_goWithout_8 rfl ?_
  refine eg_getI dX2_goWithout_9 fl_2_43 rfl trivial (obC_2 hl0) ?_
  refine eg_iconst dX2_goWithout_12 ic_1 ?_
  refine eg_iadd dX2_goWithout_13 ?_
  refine eg_putI dX2_goWithout_14 fl_2_43 rfl rfl trivial (obC_2 hl0) ?_
  exact eg_vreturn dX2_goWithout_17 rfl h
def fX2_goWithout (M : eg_H) (l0 : Nat) (l1 : Int32) : eg_H := (sI (sI M (22, l0) l1.toNatClampNeg (0 : Int32)) (2, l0) 11 (((sI M (22, l0) l1.toNatClampNeg (0 : Int32)).1 (2, l0) 11) + (1 : Int32)))
def gX2_goWithout (M : eg_H) (l0 : Nat) (l1 : Int32) : Prop := (vp_in l1 5)
set_option maxRecDepth 10000 in
theorem sX2_goWithout {κ : eg_K} {d : Nat} (hd : 0 ≤ d) (M : eg_H) (l0 : Nat) (l1 : Int32) (hl0 : l0 < 60) (hg : gX2_goWithout M l0 l1) : eg_S κ gC mtX2_goWithout d [vR (2, l0), vI l1] M (eQV κ gC (fun M1 => M1 = fX2_goWithout M l0 l1)) := by
  unfold gX2_goWithout at hg
  refine eg_S.of rfl (Nat.le_of_ble_eq_true rfl) (vX2_goWithout_0 M hl0 l1 ?_)
  refine ⟨hg , ?_⟩
  show _ = _
  exact (rfl)
theorem dX3_clear_0 : decode cX3_clear 0 = .ok (.aload_n 0, 1) := by decide +kernel
theorem dX3_clear_1 : decode cX3_clear 1 = .ok (.iconst 0, 1) := by decide +kernel
theorem dX3_clear_2 : decode cX3_clear 2 = .ok (.putfield 28, 3) := by decide +kernel
theorem dX3_clear_5 : decode cX3_clear 5 = .ok (.aload_n 0, 1) := by decide +kernel
theorem dX3_clear_6 : decode cX3_clear 6 = .ok (.iconst 0, 1) := by decide +kernel
theorem dX3_clear_7 : decode cX3_clear 7 = .ok (.putfield 32, 3) := by decide +kernel
theorem dX3_clear_10 : decode cX3_clear 10 = .ok (.return_, 1) := by decide +kernel
set_option maxRecDepth 10000 in
theorem vX3_clear_0 {κ : eg_K} {d : Nat} {post : eg_H → Prop} (M : eg_H) {l0 : Nat} (hl0 : l0 < 2) (h : post (sI (sI M (3, l0) 3 (0 : Int32)) (3, l0) 4 (0 : Int32))) : eg_W κ gC mtX3_clear d (eQV κ gC post) 0 [(0, vR (3, l0))] [] M := by
  refine eg_aload_n 0 dX3_clear_0 rfl rfl ?_
  refine eg_iconst dX3_clear_1 ic_0 ?_
  refine eg_putI dX3_clear_2 fl_3_28 rfl rfl trivial (obC_3 hl0) ?_
  refine eg_aload_n 0 dX3_clear_5 rfl rfl ?_
  refine eg_iconst dX3_clear_6 ic_0 ?_
  refine eg_putI dX3_clear_7 fl_3_32 rfl rfl trivial (obC_3 hl0) ?_
  exact eg_vreturn dX3_clear_10 rfl h
def fX3_clear (M : eg_H) (l0 : Nat) : eg_H := (sI (sI M (3, l0) 3 (0 : Int32)) (3, l0) 4 (0 : Int32))
set_option maxRecDepth 10000 in
theorem sX3_clear {κ : eg_K} {d : Nat} (hd : 0 ≤ d) (M : eg_H) (l0 : Nat) (hl0 : l0 < 2)  : eg_S κ gC mtX3_clear d [vR (3, l0)] M (eQV κ gC (fun M1 => M1 = fX3_clear M l0)) := by
  refine eg_S.of rfl (Nat.le_of_ble_eq_true rfl) (vX3_clear_0 M hl0 ?_)
  show _ = _
  exact (rfl)
theorem dX3_addKnot_0 : decode cX3_addKnot 0 = .ok (.aload_n 0, 1) := by decide +kernel
theorem dX3_addKnot_1 : decode cX3_addKnot 1 = .ok (.getfield 28, 3) := by decide +kernel
theorem dX3_addKnot_4 : decode cX3_addKnot 4 = .ok (.bipush 64, 2) := by decide +kernel
theorem dX3_addKnot_6 : decode cX3_addKnot 6 = .ok (.if_icmp .ge 23, 3) := by decide +kernel
theorem dX3_addKnot_9 : decode cX3_addKnot 9 = .ok (.aload_n 0, 1) := by decide +kernel
theorem dX3_addKnot_10 : decode cX3_addKnot 10 = .ok (.getfield 9, 3) := by decide +kernel
theorem dX3_addKnot_13 : decode cX3_addKnot 13 = .ok (.aload_n 0, 1) := by decide +kernel
theorem dX3_addKnot_14 : decode cX3_addKnot 14 = .ok (.getfield 28, 3) := by decide +kernel
theorem dX3_addKnot_17 : decode cX3_addKnot 17 = .ok (.iload_n 1, 1) := by decide +kernel
theorem dX3_addKnot_18 : decode cX3_addKnot 18 = .ok (.iastore, 1) := by decide +kernel
theorem dX3_addKnot_19 : decode cX3_addKnot 19 = .ok (.aload_n 0, 1) := by decide +kernel
theorem dX3_addKnot_20 : decode cX3_addKnot 20 = .ok (.dup, 1) := by decide +kernel
theorem dX3_addKnot_21 : decode cX3_addKnot 21 = .ok (.getfield 28, 3) := by decide +kernel
theorem dX3_addKnot_24 : decode cX3_addKnot 24 = .ok (.iconst 1, 1) := by decide +kernel
theorem dX3_addKnot_25 : decode cX3_addKnot 25 = .ok (.iadd, 1) := by decide +kernel
theorem dX3_addKnot_26 : decode cX3_addKnot 26 = .ok (.putfield 28, 3) := by decide +kernel
theorem dX3_addKnot_29 : decode cX3_addKnot 29 = .ok (.return_, 1) := by decide +kernel
set_option maxRecDepth 10000 in
theorem vX3_addKnot_0 {κ : eg_K} {d : Nat} {post : eg_H → Prop} (M : eg_H) {l0 : Nat} (hl0 : l0 < 2) (l1 : Int32) (h : ((64 : Int32) ≤ (M.1 (3, l0) 3) → post M) ∧ ((¬ (64 : Int32) ≤ (M.1 (3, l0) 3)) → (vp_in (M.1 (3, l0) 3) 64 ∧ post (sI (sI M (23, l0) (M.1 (3, l0) 3).toNatClampNeg l1) (3, l0) 3 (((sI M (23, l0) (M.1 (3, l0) 3).toNatClampNeg l1).1 (3, l0) 3) + (1 : Int32)))))) : eg_W κ gC mtX3_addKnot d (eQV κ gC post) 0 [(0, vR (3, l0)), (1, vI l1)] [] M := by
  refine eg_aload_n 0 dX3_addKnot_0 rfl rfl ?_
  refine eg_getI dX3_addKnot_1 fl_3_28 rfl trivial (obC_3 hl0) ?_
  refine eg_bipush dX3_addKnot_4 bp_64 ?_
  refine eg_icmp_ge (tgt := 29) dX3_addKnot_6 rfl (fun c1 => ?_) (fun c1 => ?_)
  · have h := h.1 c1
    exact eg_vreturn dX3_addKnot_29 rfl h
  · have h := h.2 c1
    refine eg_aload_n 0 dX3_addKnot_9 rfl rfl ?_
    refine eg_getR dX3_addKnot_10 fl_3_9 rfl rfl (obC_3 hl0) ?_
    show eg_W κ gC mtX3_addKnot d (eQV κ gC post) 13 [(0, vR (3, l0)), (1, vI l1)] [vR (23, l0)] M
    refine eg_aload_n 0 dX3_addKnot_13 rfl rfl ?_
    refine eg_getI dX3_addKnot_14 fl_3_28 rfl trivial (obC_3 hl0) ?_
    refine eg_iload_n 1 dX3_addKnot_17 rfl rfl ?_
    obtain ⟨g2, h⟩ := h
    refine eg_iastore dX3_addKnot_18 (arC_23 hl0 g2) ?_
    refine eg_aload_n 0 dX3_addKnot_19 rfl rfl ?_
    refine eg_dup dX3_addKnot_20 rfl ?_
    refine eg_getI dX3_addKnot_21 fl_3_28 rfl trivial (obC_3 hl0) ?_
    refine eg_iconst dX3_addKnot_24 ic_1 ?_
    refine eg_iadd dX3_addKnot_25 ?_
    refine eg_putI dX3_addKnot_26 fl_3_28 rfl rfl trivial (obC_3 hl0) ?_
    exact eg_vreturn dX3_addKnot_29 rfl h
def fX3_addKnot (M : eg_H) (l0 : Nat) (l1 : Int32) : eg_H := (if (64 : Int32) ≤ (M.1 (3, l0) 3) then M else (sI (sI M (23, l0) (M.1 (3, l0) 3).toNatClampNeg l1) (3, l0) 3 (((sI M (23, l0) (M.1 (3, l0) 3).toNatClampNeg l1).1 (3, l0) 3) + (1 : Int32))))
def gX3_addKnot (M : eg_H) (l0 : Nat) (l1 : Int32) : Prop := ((¬ (64 : Int32) ≤ (M.1 (3, l0) 3)) → vp_in (M.1 (3, l0) 3) 64)
set_option maxRecDepth 10000 in
theorem sX3_addKnot {κ : eg_K} {d : Nat} (hd : 0 ≤ d) (M : eg_H) (l0 : Nat) (l1 : Int32) (hl0 : l0 < 2) (hg : gX3_addKnot M l0 l1) : eg_S κ gC mtX3_addKnot d [vR (3, l0), vI l1] M (eQV κ gC (fun M1 => M1 = fX3_addKnot M l0 l1)) := by
  unfold gX3_addKnot at hg
  refine eg_S.of rfl (Nat.le_of_ble_eq_true rfl) (vX3_addKnot_0 M hl0 l1 ?_)
  refine ⟨fun c1 => ?_, fun c1 => ?_⟩
  · show _ = _
    exact (by unfold fX3_addKnot; rw [if_pos c1])
  · refine ⟨hg c1, ?_⟩
    show _ = _
    exact (by unfold fX3_addKnot; rw [if_neg c1])
theorem dX3_setName_0 : decode cX3_setName 0 = .ok (.iload_n 1, 1) := by decide +kernel
theorem dX3_setName_1 : decode cX3_setName 1 = .ok (.bipush 16, 2) := by decide +kernel
theorem dX3_setName_3 : decode cX3_setName 3 = .ok (.if_icmp .lt 19, 3) := by decide +kernel
theorem dX3_setName_6 : decode cX3_setName 6 = .ok (.iload_n 1, 1) := by decide +kernel
theorem dX3_setName_7 : decode cX3_setName 7 = .ok (.bipush 23, 2) := by decide +kernel
theorem dX3_setName_9 : decode cX3_setName 9 = .ok (.if_icmp .gt 13, 3) := by decide +kernel
theorem dX3_setName_12 : decode cX3_setName 12 = .ok (.aload_n 0, 1) := by decide +kernel
theorem dX3_setName_13 : decode cX3_setName 13 = .ok (.getfield 21, 3) := by decide +kernel
theorem dX3_setName_16 : decode cX3_setName 16 = .ok (.iload_n 1, 1) := by decide +kernel
theorem dX3_setName_17 : decode cX3_setName 17 = .ok (.bipush 16, 2) := by decide +kernel
theorem dX3_setName_19 : decode cX3_setName 19 = .ok (.isub, 1) := by decide +kernel
theorem dX3_setName_20 : decode cX3_setName 20 = .ok (.lload_n 2, 1) := by decide +kernel
theorem dX3_setName_21 : decode cX3_setName 21 = .ok (.lastore, 1) := by decide +kernel
theorem dX3_setName_22 : decode cX3_setName 22 = .ok (.return_, 1) := by decide +kernel
set_option maxRecDepth 10000 in
theorem vX3_setName_0 {κ : eg_K} {d : Nat} {post : eg_H → Prop} (M : eg_H) {l0 : Nat} (hl0 : l0 < 2) (l1 : Int32) (l2 : Int64) (h : (l1 < (16 : Int32) → post M) ∧ ((¬ l1 < (16 : Int32)) → ((23 : Int32) < l1 → post M) ∧ ((¬ (23 : Int32) < l1) → (vp_in (l1 - (16 : Int32)) 8 ∧ post (sL M (26, l0) (l1 - (16 : Int32)).toNatClampNeg l2))))) : eg_W κ gC mtX3_setName d (eQV κ gC post) 0 [(0, vR (3, l0)), (1, vI l1), (2, vL l2)] [] M := by
  refine eg_iload_n 1 dX3_setName_0 rfl rfl ?_
  refine eg_bipush dX3_setName_1 bp_16 ?_
  refine eg_icmp_lt (tgt := 22) dX3_setName_3 rfl (fun c1 => ?_) (fun c1 => ?_)
  · have h := h.1 c1
    exact eg_vreturn dX3_setName_22 rfl h
  · have h := h.2 c1
    refine eg_iload_n 1 dX3_setName_6 rfl rfl ?_
    refine eg_bipush dX3_setName_7 bp_23 ?_
    refine eg_icmp_gt (tgt := 22) dX3_setName_9 rfl (fun c2 => ?_) (fun c2 => ?_)
    · have h := h.1 c2
      exact eg_vreturn dX3_setName_22 rfl h
    · have h := h.2 c2
      refine eg_aload_n 0 dX3_setName_12 rfl rfl ?_
      refine eg_getR dX3_setName_13 fl_3_21 rfl rfl (obC_3 hl0) ?_
      show eg_W κ gC mtX3_setName d (eQV κ gC post) 16 [(0, vR (3, l0)), (1, vI l1), (2, vL l2)] [vR (26, l0)] M
      refine eg_iload_n 1 dX3_setName_16 rfl rfl ?_
      refine eg_bipush dX3_setName_17 bp_16 ?_
      refine eg_isub dX3_setName_19 ?_
      refine eg_lload_n 2 dX3_setName_20 rfl rfl ?_
      obtain ⟨g3, h⟩ := h
      refine eg_lastore dX3_setName_21 (arC_26 hl0 g3) ?_
      exact eg_vreturn dX3_setName_22 rfl h
def fX3_setName (M : eg_H) (l0 : Nat) (l1 : Int32) (l2 : Int64) : eg_H := (if l1 < (16 : Int32) then M else (if (23 : Int32) < l1 then M else (sL M (26, l0) (l1 - (16 : Int32)).toNatClampNeg l2)))
def gX3_setName (M : eg_H) (l0 : Nat) (l1 : Int32) (l2 : Int64) : Prop := ((¬ l1 < (16 : Int32)) → (¬ (23 : Int32) < l1) → vp_in (l1 - (16 : Int32)) 8)
set_option maxRecDepth 10000 in
theorem sX3_setName {κ : eg_K} {d : Nat} (hd : 0 ≤ d) (M : eg_H) (l0 : Nat) (l1 : Int32) (l2 : Int64) (hl0 : l0 < 2) (hg : gX3_setName M l0 l1 l2) : eg_S κ gC mtX3_setName d [vR (3, l0), vI l1, vL l2] M (eQV κ gC (fun M1 => M1 = fX3_setName M l0 l1 l2)) := by
  unfold gX3_setName at hg
  refine eg_S.of rfl (Nat.le_of_ble_eq_true rfl) (vX3_setName_0 M hl0 l1 l2 ?_)
  refine ⟨fun c1 => ?_, fun c1 => ?_⟩
  · show _ = _
    exact (by unfold fX3_setName; rw [if_pos c1])
  · refine ⟨fun c2 => ?_, fun c2 => ?_⟩
    · show _ = _
      exact (by unfold fX3_setName; rw [if_neg c1, if_pos c2])
    · refine ⟨hg c1 c2, ?_⟩
      show _ = _
      exact (by unfold fX3_setName; rw [if_neg c1, if_neg c2])
theorem dX4_begin_0 : decode cX4_begin 0 = .ok (.aload_n 0, 1) := by decide +kernel
theorem dX4_begin_1 : decode cX4_begin 1 = .ok (.aload_n 1, 1) := by decide +kernel
theorem dX4_begin_2 : decode cX4_begin 2 = .ok (.getfield 9, 3) := by decide +kernel
theorem dX4_begin_5 : decode cX4_begin 5 = .ok (.putfield 15, 3) := by decide +kernel
theorem dX4_begin_8 : decode cX4_begin 8 = .ok (.aload_n 0, 1) := by decide +kernel
theorem dX4_begin_9 : decode cX4_begin 9 = .ok (.iconst 0, 1) := by decide +kernel
theorem dX4_begin_10 : decode cX4_begin 10 = .ok (.putfield 18, 3) := by decide +kernel
theorem dX4_begin_13 : decode cX4_begin 13 = .ok (.aload_n 0, 1) := by decide +kernel
theorem dX4_begin_14 : decode cX4_begin 14 = .ok (.iconst (-1), 1) := by decide +kernel
theorem dX4_begin_15 : decode cX4_begin 15 = .ok (.putfield 21, 3) := by decide +kernel
theorem dX4_begin_18 : decode cX4_begin 18 = .ok (.aload_n 0, 1) := by decide +kernel
theorem dX4_begin_19 : decode cX4_begin 19 = .ok (.iconst 0, 1) := by decide +kernel
theorem dX4_begin_20 : decode cX4_begin 20 = .ok (.putfield 24, 3) := by decide +kernel
theorem dX4_begin_23 : decode cX4_begin 23 = .ok (.aload_n 0, 1) := by decide +kernel
theorem dX4_begin_24 : decode cX4_begin 24 = .ok (.iconst 0, 1) := by decide +kernel
theorem dX4_begin_25 : decode cX4_begin 25 = .ok (.putfield 27, 3) := by decide +kernel
theorem dX4_begin_28 : decode cX4_begin 28 = .ok (.aload_n 0, 1) := by decide +kernel
theorem dX4_begin_29 : decode cX4_begin 29 = .ok (.iconst 0, 1) := by decide +kernel
theorem dX4_begin_30 : decode cX4_begin 30 = .ok (.putfield 30, 3) := by decide +kernel
theorem dX4_begin_33 : decode cX4_begin 33 = .ok (.aload_n 0, 1) := by decide +kernel
theorem dX4_begin_34 : decode cX4_begin 34 = .ok (.iconst 0, 1) := by decide +kernel
theorem dX4_begin_35 : decode cX4_begin 35 = .ok (.putfield 33, 3) := by decide +kernel
theorem dX4_begin_38 : decode cX4_begin 38 = .ok (.return_, 1) := by decide +kernel
set_option maxRecDepth 10000 in
theorem vX4_begin_0 {κ : eg_K} {d : Nat} {post : eg_H → Prop} (M : eg_H) {l0 : Nat} (hl0 : l0 < 20) {l1 : Nat} (hl1 : l1 < 10) (h : post (sI (sI (sI (sI (sI (sI (sI M (4, l0) 0 (M.1 (1, l1) 3)) (4, l0) 1 (0 : Int32)) (4, l0) 2 (-1 : Int32)) (4, l0) 3 (0 : Int32)) (4, l0) 4 (0 : Int32)) (4, l0) 5 (0 : Int32)) (4, l0) 6 (0 : Int32))) : eg_W κ gC mtX4_begin d (eQV κ gC post) 0 [(0, vR (4, l0)), (1, vR (1, l1))] [] M := by
  refine eg_aload_n 0 dX4_begin_0 rfl rfl ?_
  refine eg_aload_n 1 dX4_begin_1 rfl rfl ?_
  refine eg_getI dX4_begin_2 fl_4_9 rfl trivial (obC_1 hl1) ?_
  refine eg_putI dX4_begin_5 fl_4_15 rfl rfl trivial (obC_4 hl0) ?_
  refine eg_aload_n 0 dX4_begin_8 rfl rfl ?_
  refine eg_iconst dX4_begin_9 ic_0 ?_
  refine eg_putI dX4_begin_10 fl_4_18 rfl rfl trivial (obC_4 hl0) ?_
  refine eg_aload_n 0 dX4_begin_13 rfl rfl ?_
  refine eg_iconst dX4_begin_14 ic_m1 ?_
  refine eg_putI dX4_begin_15 fl_4_21 rfl rfl trivial (obC_4 hl0) ?_
  refine eg_aload_n 0 dX4_begin_18 rfl rfl ?_
  refine eg_iconst dX4_begin_19 ic_0 ?_
  refine eg_putI dX4_begin_20 fl_4_24 rfl rfl trivial (obC_4 hl0) ?_
  refine eg_aload_n 0 dX4_begin_23 rfl rfl ?_
  refine eg_iconst dX4_begin_24 ic_0 ?_
  refine eg_putI dX4_begin_25 fl_4_27 rfl rfl trivial (obC_4 hl0) ?_
  refine eg_aload_n 0 dX4_begin_28 rfl rfl ?_
  refine eg_iconst dX4_begin_29 ic_0 ?_
  refine eg_putI dX4_begin_30 fl_4_30 rfl rfl trivial (obC_4 hl0) ?_
  refine eg_aload_n 0 dX4_begin_33 rfl rfl ?_
  refine eg_iconst dX4_begin_34 ic_0 ?_
  refine eg_putI dX4_begin_35 fl_4_33 rfl rfl trivial (obC_4 hl0) ?_
  exact eg_vreturn dX4_begin_38 rfl h
def fX4_begin (M : eg_H) (l0 : Nat) (l1 : Nat) : eg_H := (sI (sI (sI (sI (sI (sI (sI M (4, l0) 0 (M.1 (1, l1) 3)) (4, l0) 1 (0 : Int32)) (4, l0) 2 (-1 : Int32)) (4, l0) 3 (0 : Int32)) (4, l0) 4 (0 : Int32)) (4, l0) 5 (0 : Int32)) (4, l0) 6 (0 : Int32))
set_option maxRecDepth 10000 in
theorem sX4_begin {κ : eg_K} {d : Nat} (hd : 0 ≤ d) (M : eg_H) (l0 : Nat) (l1 : Nat) (hl0 : l0 < 20) (hl1 : l1 < 10)  : eg_S κ gC mtX4_begin d [vR (4, l0), vR (1, l1)] M (eQV κ gC (fun M1 => M1 = fX4_begin M l0 l1)) := by
  refine eg_S.of rfl (Nat.le_of_ble_eq_true rfl) (vX4_begin_0 M hl0 hl1 ?_)
  show _ = _
  exact (rfl)
theorem dX4_addPan_0 : decode cX4_addPan 0 = .ok (.aload_n 0, 1) := by decide +kernel
theorem dX4_addPan_1 : decode cX4_addPan 1 = .ok (.dup, 1) := by decide +kernel
theorem dX4_addPan_2 : decode cX4_addPan 2 = .ok (.getfield 15, 3) := by decide +kernel
theorem dX4_addPan_5 : decode cX4_addPan 5 = .ok (.aload_n 1, 1) := by decide +kernel
theorem dX4_addPan_6 : decode cX4_addPan 6 = .ok (.getfield 9, 3) := by decide +kernel
theorem dX4_addPan_9 : decode cX4_addPan 9 = .ok (.iadd, 1) := by decide +kernel
theorem dX4_addPan_10 : decode cX4_addPan 10 = .ok (.putfield 15, 3) := by decide +kernel
theorem dX4_addPan_13 : decode cX4_addPan 13 = .ok (.aload_n 0, 1) := by decide +kernel
theorem dX4_addPan_14 : decode cX4_addPan 14 = .ok (.iconst 0, 1) := by decide +kernel
theorem dX4_addPan_15 : decode cX4_addPan 15 = .ok (.putfield 18, 3) := by decide +kernel
theorem dX4_addPan_18 : decode cX4_addPan 18 = .ok (.aload_n 0, 1) := by decide +kernel
theorem dX4_addPan_19 : decode cX4_addPan 19 = .ok (.dup, 1) := by decide +kernel
theorem dX4_addPan_20 : decode cX4_addPan 20 = .ok (.getfield 33, 3) := by decide +kernel
theorem dX4_addPan_23 : decode cX4_addPan 23 = .ok (.iconst 1, 1) := by decide +kernel
theorem dX4_addPan_24 : decode cX4_addPan 24 = .ok (.iadd, 1) := by decide +kernel
theorem dX4_addPan_25 : decode cX4_addPan 25 = .ok (.putfield 33, 3) := by decide +kernel
theorem dX4_addPan_28 : decode cX4_addPan 28 = .ok (.return_, 1) := by decide +kernel
set_option maxRecDepth 10000 in
theorem vX4_addPan_0 {κ : eg_K} {d : Nat} {post : eg_H → Prop} (M : eg_H) {l0 : Nat} (hl0 : l0 < 20) {l1 : Nat} (hl1 : l1 < 10) (h : post (sI (sI (sI M (4, l0) 0 ((M.1 (4, l0) 0) + (M.1 (1, l1) 3))) (4, l0) 1 (0 : Int32)) (4, l0) 6 (((sI (sI M (4, l0) 0 ((M.1 (4, l0) 0) + (M.1 (1, l1) 3))) (4, l0) 1 (0 : Int32)).1 (4, l0) 6) + (1 : Int32)))) : eg_W κ gC mtX4_addPan d (eQV κ gC post) 0 [(0, vR (4, l0)), (1, vR (1, l1))] [] M := by
  refine eg_aload_n 0 dX4_addPan_0 rfl rfl ?_
  refine eg_dup dX4_addPan_1 rfl ?_
  refine eg_getI dX4_addPan_2 fl_4_15 rfl trivial (obC_4 hl0) ?_
  refine eg_aload_n 1 dX4_addPan_5 rfl rfl ?_
  refine eg_getI dX4_addPan_6 fl_4_9 rfl trivial (obC_1 hl1) ?_
  refine eg_iadd dX4_addPan_9 ?_
  refine eg_putI dX4_addPan_10 fl_4_15 rfl rfl trivial (obC_4 hl0) ?_
  refine eg_aload_n 0 dX4_addPan_13 rfl rfl ?_
  refine eg_iconst dX4_addPan_14 ic_0 ?_
  refine eg_putI dX4_addPan_15 fl_4_18 rfl rfl trivial (obC_4 hl0) ?_
  refine eg_aload_n 0 dX4_addPan_18 rfl rfl ?_
  refine eg_dup dX4_addPan_19 rfl ?_
  refine eg_getI dX4_addPan_20 fl_4_33 rfl trivial (obC_4 hl0) ?_
  refine eg_iconst dX4_addPan_23 ic_1 ?_
  refine eg_iadd dX4_addPan_24 ?_
  refine eg_putI dX4_addPan_25 fl_4_33 rfl rfl trivial (obC_4 hl0) ?_
  exact eg_vreturn dX4_addPan_28 rfl h
def fX4_addPan (M : eg_H) (l0 : Nat) (l1 : Nat) : eg_H := (sI (sI (sI M (4, l0) 0 ((M.1 (4, l0) 0) + (M.1 (1, l1) 3))) (4, l0) 1 (0 : Int32)) (4, l0) 6 (((sI (sI M (4, l0) 0 ((M.1 (4, l0) 0) + (M.1 (1, l1) 3))) (4, l0) 1 (0 : Int32)).1 (4, l0) 6) + (1 : Int32)))
set_option maxRecDepth 10000 in
theorem sX4_addPan {κ : eg_K} {d : Nat} (hd : 0 ≤ d) (M : eg_H) (l0 : Nat) (l1 : Nat) (hl0 : l0 < 20) (hl1 : l1 < 10)  : eg_S κ gC mtX4_addPan d [vR (4, l0), vR (1, l1)] M (eQV κ gC (fun M1 => M1 = fX4_addPan M l0 l1)) := by
  refine eg_S.of rfl (Nat.le_of_ble_eq_true rfl) (vX4_addPan_0 M hl0 hl1 ?_)
  show _ = _
  exact (rfl)
theorem dX5_hasStation_0 : decode cX5_hasStation 0 = .ok (.iload_n 1, 1) := by decide +kernel
theorem dX5_hasStation_1 : decode cX5_hasStation 1 = .ok (.ifCond .lt 15, 3) := by decide +kernel
theorem dX5_hasStation_4 : decode cX5_hasStation 4 = .ok (.iload_n 1, 1) := by decide +kernel
theorem dX5_hasStation_5 : decode cX5_hasStation 5 = .ok (.aload_n 0, 1) := by decide +kernel
theorem dX5_hasStation_6 : decode cX5_hasStation 6 = .ok (.getfield 45, 3) := by decide +kernel
theorem dX5_hasStation_9 : decode cX5_hasStation 9 = .ok (.if_icmp .ge 7, 3) := by decide +kernel
theorem dX5_hasStation_12 : decode cX5_hasStation 12 = .ok (.iconst 1, 1) := by decide +kernel
theorem dX5_hasStation_13 : decode cX5_hasStation 13 = .ok (.goto 4, 3) := by decide +kernel
theorem dX5_hasStation_16 : decode cX5_hasStation 16 = .ok (.iconst 0, 1) := by decide +kernel
theorem dX5_hasStation_17 : decode cX5_hasStation 17 = .ok (.ireturn, 1) := by decide +kernel
set_option maxRecDepth 10000 in
theorem vX5_hasStation_0 {κ : eg_K} {d : Nat} {post : Int32 → eg_H → Prop} (M : eg_H) {l0 : Nat} (hl0 : l0 < 2) (l1 : Int32) (h : (l1 < 0 → post (0 : Int32) M) ∧ ((¬ l1 < 0) → ((M.1 (5, l0) 0) ≤ l1 → post (0 : Int32) M) ∧ ((¬ (M.1 (5, l0) 0) ≤ l1) → post (1 : Int32) M))) : eg_W κ gC mtX5_hasStation d (eQI κ gC post) 0 [(0, vR (5, l0)), (1, vI l1)] [] M := by
  refine eg_iload_n 1 dX5_hasStation_0 rfl rfl ?_
  refine eg_if_lt (tgt := 16) dX5_hasStation_1 rfl (fun c1 => ?_) (fun c1 => ?_)
  · have h := h.1 c1
    refine eg_iconst dX5_hasStation_16 ic_0 ?_
    exact eg_zreturn dX5_hasStation_17 rfl (Or.inl rfl) h
  · have h := h.2 c1
    refine eg_iload_n 1 dX5_hasStation_4 rfl rfl ?_
    refine eg_aload_n 0 dX5_hasStation_5 rfl rfl ?_
    refine eg_getI dX5_hasStation_6 fl_5_45 rfl trivial (obC_5 hl0) ?_
    refine eg_icmp_ge (tgt := 16) dX5_hasStation_9 rfl (fun c2 => ?_) (fun c2 => ?_)
    · have h := h.1 c2
      refine eg_iconst dX5_hasStation_16 ic_0 ?_
      exact eg_zreturn dX5_hasStation_17 rfl (Or.inl rfl) h
    · have h := h.2 c2
      refine eg_iconst dX5_hasStation_12 ic_1 ?_
      refine eg_goto (tgt := 17) dX5_hasStation_13 rfl ?_
      exact eg_zreturn dX5_hasStation_17 rfl (Or.inr rfl) h
def fX5_hasStation (M : eg_H) (l0 : Nat) (l1 : Int32) : Int32 := (if l1 < 0 then (0 : Int32) else (if (M.1 (5, l0) 0) ≤ l1 then (0 : Int32) else (1 : Int32)))
theorem zX5_hasStation (M : eg_H) (l0 : Nat) (l1 : Int32) : fX5_hasStation M l0 l1 = 0 ∨ fX5_hasStation M l0 l1 = 1 := by
  unfold fX5_hasStation
  exact (eg_zi (Or.inl rfl) (eg_zi (Or.inl rfl) (Or.inr rfl)))
set_option maxRecDepth 10000 in
theorem sX5_hasStation {κ : eg_K} {d : Nat} (hd : 0 ≤ d) (M : eg_H) (l0 : Nat) (l1 : Int32) (hl0 : l0 < 2)  : eg_S κ gC mtX5_hasStation d [vR (5, l0), vI l1] M (eQI κ gC (fun r M1 => r = fX5_hasStation M l0 l1 ∧ M1 = M)) := by
  refine eg_S.of rfl (Nat.le_of_ble_eq_true rfl) (vX5_hasStation_0 M hl0 l1 ?_)
  refine ⟨fun c1 => ?_, fun c1 => ?_⟩
  · exact ⟨by unfold fX5_hasStation; rw [if_pos c1], rfl⟩
  · refine ⟨fun c2 => ?_, fun c2 => ?_⟩
    · exact ⟨by unfold fX5_hasStation; rw [if_neg c1, if_pos c2], rfl⟩
    · exact ⟨by unfold fX5_hasStation; rw [if_neg c1, if_neg c2], rfl⟩
theorem dX5_hasGuest_0 : decode cX5_hasGuest 0 = .ok (.iload_n 1, 1) := by decide +kernel
theorem dX5_hasGuest_1 : decode cX5_hasGuest 1 = .ok (.ifCond .lt 15, 3) := by decide +kernel
theorem dX5_hasGuest_4 : decode cX5_hasGuest 4 = .ok (.iload_n 1, 1) := by decide +kernel
theorem dX5_hasGuest_5 : decode cX5_hasGuest 5 = .ok (.aload_n 0, 1) := by decide +kernel
theorem dX5_hasGuest_6 : decode cX5_hasGuest 6 = .ok (.getfield 49, 3) := by decide +kernel
theorem dX5_hasGuest_9 : decode cX5_hasGuest 9 = .ok (.if_icmp .ge 7, 3) := by decide +kernel
theorem dX5_hasGuest_12 : decode cX5_hasGuest 12 = .ok (.iconst 1, 1) := by decide +kernel
theorem dX5_hasGuest_13 : decode cX5_hasGuest 13 = .ok (.goto 4, 3) := by decide +kernel
theorem dX5_hasGuest_16 : decode cX5_hasGuest 16 = .ok (.iconst 0, 1) := by decide +kernel
theorem dX5_hasGuest_17 : decode cX5_hasGuest 17 = .ok (.ireturn, 1) := by decide +kernel
set_option maxRecDepth 10000 in
theorem vX5_hasGuest_0 {κ : eg_K} {d : Nat} {post : Int32 → eg_H → Prop} (M : eg_H) {l0 : Nat} (hl0 : l0 < 2) (l1 : Int32) (h : (l1 < 0 → post (0 : Int32) M) ∧ ((¬ l1 < 0) → ((M.1 (5, l0) 2) ≤ l1 → post (0 : Int32) M) ∧ ((¬ (M.1 (5, l0) 2) ≤ l1) → post (1 : Int32) M))) : eg_W κ gC mtX5_hasGuest d (eQI κ gC post) 0 [(0, vR (5, l0)), (1, vI l1)] [] M := by
  refine eg_iload_n 1 dX5_hasGuest_0 rfl rfl ?_
  refine eg_if_lt (tgt := 16) dX5_hasGuest_1 rfl (fun c1 => ?_) (fun c1 => ?_)
  · have h := h.1 c1
    refine eg_iconst dX5_hasGuest_16 ic_0 ?_
    exact eg_zreturn dX5_hasGuest_17 rfl (Or.inl rfl) h
  · have h := h.2 c1
    refine eg_iload_n 1 dX5_hasGuest_4 rfl rfl ?_
    refine eg_aload_n 0 dX5_hasGuest_5 rfl rfl ?_
    refine eg_getI dX5_hasGuest_6 fl_5_49 rfl trivial (obC_5 hl0) ?_
    refine eg_icmp_ge (tgt := 16) dX5_hasGuest_9 rfl (fun c2 => ?_) (fun c2 => ?_)
    · have h := h.1 c2
      refine eg_iconst dX5_hasGuest_16 ic_0 ?_
      exact eg_zreturn dX5_hasGuest_17 rfl (Or.inl rfl) h
    · have h := h.2 c2
      refine eg_iconst dX5_hasGuest_12 ic_1 ?_
      refine eg_goto (tgt := 17) dX5_hasGuest_13 rfl ?_
      exact eg_zreturn dX5_hasGuest_17 rfl (Or.inr rfl) h
def fX5_hasGuest (M : eg_H) (l0 : Nat) (l1 : Int32) : Int32 := (if l1 < 0 then (0 : Int32) else (if (M.1 (5, l0) 2) ≤ l1 then (0 : Int32) else (1 : Int32)))
theorem zX5_hasGuest (M : eg_H) (l0 : Nat) (l1 : Int32) : fX5_hasGuest M l0 l1 = 0 ∨ fX5_hasGuest M l0 l1 = 1 := by
  unfold fX5_hasGuest
  exact (eg_zi (Or.inl rfl) (eg_zi (Or.inl rfl) (Or.inr rfl)))
set_option maxRecDepth 10000 in
theorem sX5_hasGuest {κ : eg_K} {d : Nat} (hd : 0 ≤ d) (M : eg_H) (l0 : Nat) (l1 : Int32) (hl0 : l0 < 2)  : eg_S κ gC mtX5_hasGuest d [vR (5, l0), vI l1] M (eQI κ gC (fun r M1 => r = fX5_hasGuest M l0 l1 ∧ M1 = M)) := by
  refine eg_S.of rfl (Nat.le_of_ble_eq_true rfl) (vX5_hasGuest_0 M hl0 l1 ?_)
  refine ⟨fun c1 => ?_, fun c1 => ?_⟩
  · exact ⟨by unfold fX5_hasGuest; rw [if_pos c1], rfl⟩
  · refine ⟨fun c2 => ?_, fun c2 => ?_⟩
    · exact ⟨by unfold fX5_hasGuest; rw [if_neg c1, if_pos c2], rfl⟩
    · exact ⟨by unfold fX5_hasGuest; rw [if_neg c1, if_neg c2], rfl⟩
theorem dX5_hasPan_0 : decode cX5_hasPan 0 = .ok (.iload_n 1, 1) := by decide +kernel
theorem dX5_hasPan_1 : decode cX5_hasPan 1 = .ok (.ifCond .lt 27, 3) := by decide +kernel
theorem dX5_hasPan_4 : decode cX5_hasPan 4 = .ok (.iload_n 1, 1) := by decide +kernel
theorem dX5_hasPan_5 : decode cX5_hasPan 5 = .ok (.aload_n 0, 1) := by decide +kernel
theorem dX5_hasPan_6 : decode cX5_hasPan 6 = .ok (.getfield 45, 3) := by decide +kernel
theorem dX5_hasPan_9 : decode cX5_hasPan 9 = .ok (.if_icmp .ge 19, 3) := by decide +kernel
theorem dX5_hasPan_12 : decode cX5_hasPan 12 = .ok (.aload_n 0, 1) := by decide +kernel
theorem dX5_hasPan_13 : decode cX5_hasPan 13 = .ok (.getfield 11, 3) := by decide +kernel
theorem dX5_hasPan_16 : decode cX5_hasPan 16 = .ok (.iload_n 1, 1) := by decide +kernel
theorem dX5_hasPan_17 : decode cX5_hasPan 17 = .ok (.aaload, 1) := by decide +kernel
theorem dX5_hasPan_18 : decode cX5_hasPan 18 = .ok (.getfield 88, 3) := by decide +kernel
theorem dX5_hasPan_21 : decode cX5_hasPan 21 = .ok (.ifCond .le 7, 3) := by decide +kernel
theorem dX5_hasPan_24 : decode cX5_hasPan 24 = .ok (.iconst 1, 1) := by decide +kernel
theorem dX5_hasPan_25 : decode cX5_hasPan 25 = .ok (.goto 4, 3) := by decide +kernel
theorem dX5_hasPan_28 : decode cX5_hasPan 28 = .ok (.iconst 0, 1) := by decide +kernel
theorem dX5_hasPan_29 : decode cX5_hasPan 29 = .ok (.ireturn, 1) := by decide +kernel
set_option maxRecDepth 10000 in
theorem vX5_hasPan_0 {κ : eg_K} {d : Nat} {post : Int32 → eg_H → Prop} (M : eg_H) {l0 : Nat} (hl0 : l0 < 2) (l1 : Int32) (h : (l1 < 0 → post (0 : Int32) M) ∧ ((¬ l1 < 0) → ((M.1 (5, l0) 0) ≤ l1 → post (0 : Int32) M) ∧ ((¬ (M.1 (5, l0) 0) ≤ l1) → (vp_in l1 5 ∧ ((M.1 (1, 5 * l0 + l1.toNatClampNeg) 3) ≤ 0 → post (0 : Int32) M) ∧ ((¬ (M.1 (1, 5 * l0 + l1.toNatClampNeg) 3) ≤ 0) → post (1 : Int32) M))))) : eg_W κ gC mtX5_hasPan d (eQI κ gC post) 0 [(0, vR (5, l0)), (1, vI l1)] [] M := by
  refine eg_iload_n 1 dX5_hasPan_0 rfl rfl ?_
  refine eg_if_lt (tgt := 28) dX5_hasPan_1 rfl (fun c1 => ?_) (fun c1 => ?_)
  · have h := h.1 c1
    refine eg_iconst dX5_hasPan_28 ic_0 ?_
    exact eg_zreturn dX5_hasPan_29 rfl (Or.inl rfl) h
  · have h := h.2 c1
    refine eg_iload_n 1 dX5_hasPan_4 rfl rfl ?_
    refine eg_aload_n 0 dX5_hasPan_5 rfl rfl ?_
    refine eg_getI dX5_hasPan_6 fl_5_45 rfl trivial (obC_5 hl0) ?_
    refine eg_icmp_ge (tgt := 28) dX5_hasPan_9 rfl (fun c2 => ?_) (fun c2 => ?_)
    · have h := h.1 c2
      refine eg_iconst dX5_hasPan_28 ic_0 ?_
      exact eg_zreturn dX5_hasPan_29 rfl (Or.inl rfl) h
    · have h := h.2 c2
      refine eg_aload_n 0 dX5_hasPan_12 rfl rfl ?_
      refine eg_getR dX5_hasPan_13 fl_5_11 rfl rfl (obC_5 hl0) ?_
      show eg_W κ gC mtX5_hasPan d (eQI κ gC post) 16 [(0, vR (5, l0)), (1, vI l1)] [vR (30, l0)] M
      refine eg_iload_n 1 dX5_hasPan_16 rfl rfl ?_
      obtain ⟨g3, h⟩ := h
      refine eg_aaload4 dX5_hasPan_17 (arC_30 hl0 g3) ?_
      show eg_W κ gC mtX5_hasPan d (eQI κ gC post) 18 [(0, vR (5, l0)), (1, vI l1)] [vR (1, 5 * l0 + l1.toNatClampNeg)] M
      refine eg_getI dX5_hasPan_18 fl_5_88 rfl trivial (obC_1 (ixP5 hl0 g3)) ?_
      refine eg_if_le (tgt := 28) dX5_hasPan_21 rfl (fun c4 => ?_) (fun c4 => ?_)
      · have h := h.1 c4
        refine eg_iconst dX5_hasPan_28 ic_0 ?_
        exact eg_zreturn dX5_hasPan_29 rfl (Or.inl rfl) h
      · have h := h.2 c4
        refine eg_iconst dX5_hasPan_24 ic_1 ?_
        refine eg_goto (tgt := 29) dX5_hasPan_25 rfl ?_
        exact eg_zreturn dX5_hasPan_29 rfl (Or.inr rfl) h
def fX5_hasPan (M : eg_H) (l0 : Nat) (l1 : Int32) : Int32 := (if l1 < 0 then (0 : Int32) else (if (M.1 (5, l0) 0) ≤ l1 then (0 : Int32) else (if (M.1 (1, 5 * l0 + l1.toNatClampNeg) 3) ≤ 0 then (0 : Int32) else (1 : Int32))))
def gX5_hasPan (M : eg_H) (l0 : Nat) (l1 : Int32) : Prop := ((¬ l1 < 0) → (¬ (M.1 (5, l0) 0) ≤ l1) → vp_in l1 5)
theorem zX5_hasPan (M : eg_H) (l0 : Nat) (l1 : Int32) : fX5_hasPan M l0 l1 = 0 ∨ fX5_hasPan M l0 l1 = 1 := by
  unfold fX5_hasPan
  exact (eg_zi (Or.inl rfl) (eg_zi (Or.inl rfl) (eg_zi (Or.inl rfl) (Or.inr rfl))))
set_option maxRecDepth 10000 in
theorem sX5_hasPan {κ : eg_K} {d : Nat} (hd : 0 ≤ d) (M : eg_H) (l0 : Nat) (l1 : Int32) (hl0 : l0 < 2) (hg : gX5_hasPan M l0 l1) : eg_S κ gC mtX5_hasPan d [vR (5, l0), vI l1] M (eQI κ gC (fun r M1 => r = fX5_hasPan M l0 l1 ∧ M1 = M)) := by
  unfold gX5_hasPan at hg
  refine eg_S.of rfl (Nat.le_of_ble_eq_true rfl) (vX5_hasPan_0 M hl0 l1 ?_)
  refine ⟨fun c1 => ?_, fun c1 => ?_⟩
  · exact ⟨by unfold fX5_hasPan; rw [if_pos c1], rfl⟩
  · refine ⟨fun c2 => ?_, fun c2 => ?_⟩
    · exact ⟨by unfold fX5_hasPan; rw [if_neg c1, if_pos c2], rfl⟩
    · refine ⟨hg c1 c2, ?_⟩
      refine ⟨fun c3 => ?_, fun c3 => ?_⟩
      · exact ⟨by unfold fX5_hasPan; rw [if_neg c1, if_neg c2, if_pos c3], rfl⟩
      · exact ⟨by unfold fX5_hasPan; rw [if_neg c1, if_neg c2, if_neg c3], rfl⟩
theorem dX6_atEnd_0 : decode cX6_atEnd 0 = .ok (.aload_n 0, 1) := by decide +kernel
theorem dX6_atEnd_1 : decode cX6_atEnd 1 = .ok (.getfield 32, 3) := by decide +kernel
theorem dX6_atEnd_4 : decode cX6_atEnd 4 = .ok (.ifCond .ne 15, 3) := by decide +kernel
theorem dX6_atEnd_7 : decode cX6_atEnd 7 = .ok (.aload_n 0, 1) := by decide +kernel
theorem dX6_atEnd_8 : decode cX6_atEnd 8 = .ok (.getfield 19, 3) := by decide +kernel
theorem dX6_atEnd_11 : decode cX6_atEnd 11 = .ok (.getfield 51, 3) := by decide +kernel
theorem dX6_atEnd_14 : decode cX6_atEnd 14 = .ok (.bipush 39, 2) := by decide +kernel
theorem dX6_atEnd_16 : decode cX6_atEnd 16 = .ok (.if_icmp .ne 7, 3) := by decide +kernel
theorem dX6_atEnd_19 : decode cX6_atEnd 19 = .ok (.iconst 1, 1) := by decide +kernel
theorem dX6_atEnd_20 : decode cX6_atEnd 20 = .ok (.goto 4, 3) := by decide +kernel
theorem dX6_atEnd_23 : decode cX6_atEnd 23 = .ok (.iconst 0, 1) := by decide +kernel
theorem dX6_atEnd_24 : decode cX6_atEnd 24 = .ok (.ireturn, 1) := by decide +kernel
set_option maxRecDepth 10000 in
theorem vX6_atEnd_0 {κ : eg_K} {d : Nat} {post : Int32 → eg_H → Prop} (M : eg_H)  (h : ((¬ (M.1 (6, 0) 2) = 0) → post (1 : Int32) M) ∧ ((M.1 (6, 0) 2) = 0 → ((¬ (M.1 (9, 0) 4) = (39 : Int32)) → post (0 : Int32) M) ∧ ((M.1 (9, 0) 4) = (39 : Int32) → post (1 : Int32) M))) : eg_W κ gC mtX6_atEnd d (eQI κ gC post) 0 [(0, vR (6, 0))] [] M := by
  refine eg_aload_n 0 dX6_atEnd_0 rfl rfl ?_
  refine eg_getI dX6_atEnd_1 fl_6_32 rfl trivial (obC_6 z1) ?_
  refine eg_if_ne (tgt := 19) dX6_atEnd_4 rfl (fun c1 => ?_) (fun c1 => ?_)
  · have h := h.1 c1
    refine eg_iconst dX6_atEnd_19 ic_1 ?_
    refine eg_goto (tgt := 24) dX6_atEnd_20 rfl ?_
    exact eg_zreturn dX6_atEnd_24 rfl (Or.inr rfl) h
  · have h := h.2 c1
    refine eg_aload_n 0 dX6_atEnd_7 rfl rfl ?_
    refine eg_getR dX6_atEnd_8 fl_6_19 rfl rfl (obC_6 z1) ?_
    show eg_W κ gC mtX6_atEnd d (eQI κ gC post) 11 [(0, vR (6, 0))] [vR (9, 0)] M
    refine eg_getI dX6_atEnd_11 fl_6_51 rfl trivial (obC_9 z1) ?_
    refine eg_bipush dX6_atEnd_14 bp_39 ?_
    refine eg_icmp_ne (tgt := 23) dX6_atEnd_16 rfl (fun c2 => ?_) (fun c2 => ?_)
    · have h := h.1 c2
      refine eg_iconst dX6_atEnd_23 ic_0 ?_
      exact eg_zreturn dX6_atEnd_24 rfl (Or.inl rfl) h
    · have h := h.2 c2
      refine eg_iconst dX6_atEnd_19 ic_1 ?_
      refine eg_goto (tgt := 24) dX6_atEnd_20 rfl ?_
      exact eg_zreturn dX6_atEnd_24 rfl (Or.inr rfl) h
def fX6_atEnd (M : eg_H)  : Int32 := (if (¬ (M.1 (6, 0) 2) = 0) then (1 : Int32) else (if (¬ (M.1 (9, 0) 4) = (39 : Int32)) then (0 : Int32) else (1 : Int32)))
theorem zX6_atEnd (M : eg_H)  : fX6_atEnd M  = 0 ∨ fX6_atEnd M  = 1 := by
  unfold fX6_atEnd
  exact (eg_zi (Or.inr rfl) (eg_zi (Or.inl rfl) (Or.inr rfl)))
set_option maxRecDepth 10000 in
theorem sX6_atEnd {κ : eg_K} {d : Nat} (hd : 0 ≤ d) (M : eg_H)    : eg_S κ gC mtX6_atEnd d [vR (6, 0)] M (eQI κ gC (fun r M1 => r = fX6_atEnd M ∧ M1 = M)) := by
  refine eg_S.of rfl (Nat.le_of_ble_eq_true rfl) (vX6_atEnd_0 M  ?_)
  refine ⟨fun c1 => ?_, fun c1 => ?_⟩
  · exact ⟨by unfold fX6_atEnd; rw [if_pos c1], rfl⟩
  · refine ⟨fun c2 => ?_, fun c2 => ?_⟩
    · exact ⟨by unfold fX6_atEnd; rw [if_neg (fun z_ => z_ c1), if_pos c2], rfl⟩
    · exact ⟨by unfold fX6_atEnd; rw [if_neg (fun z_ => z_ c1), if_neg (fun z_ => z_ c2)], rfl⟩
theorem dX6_refuse_0 : decode cX6_refuse 0 = .ok (.aload_n 0, 1) := by decide +kernel
theorem dX6_refuse_1 : decode cX6_refuse 1 = .ok (.iload_n 1, 1) := by decide +kernel
theorem dX6_refuse_2 : decode cX6_refuse 2 = .ok (.putfield 32, 3) := by decide +kernel
theorem dX6_refuse_5 : decode cX6_refuse 5 = .ok (.aload_n 0, 1) := by decide +kernel
theorem dX6_refuse_6 : decode cX6_refuse 6 = .ok (.aload_n 0, 1) := by decide +kernel
theorem dX6_refuse_7 : decode cX6_refuse 7 = .ok (.getfield 19, 3) := by decide +kernel
theorem dX6_refuse_10 : decode cX6_refuse 10 = .ok (.getfield 54, 3) := by decide +kernel
theorem dX6_refuse_13 : decode cX6_refuse 13 = .ok (.putfield 9, 3) := by decide +kernel
theorem dX6_refuse_16 : decode cX6_refuse 16 = .ok (.iconst 0, 1) := by decide +kernel
theorem dX6_refuse_17 : decode cX6_refuse 17 = .ok (.ireturn, 1) := by decide +kernel
set_option maxRecDepth 10000 in
theorem vX6_refuse_0 {κ : eg_K} {d : Nat} {post : Int32 → eg_H → Prop} (M : eg_H) (l1 : Int32) (h : post (0 : Int32) (sI (sI M (6, 0) 2 l1) (6, 0) 3 ((sI M (6, 0) 2 l1).1 (9, 0) 2))) : eg_W κ gC mtX6_refuse d (eQI κ gC post) 0 [(0, vR (6, 0)), (1, vI l1)] [] M := by
  refine eg_aload_n 0 dX6_refuse_0 rfl rfl ?_
  refine eg_iload_n 1 dX6_refuse_1 rfl rfl ?_
  refine eg_putI dX6_refuse_2 fl_6_32 rfl rfl trivial (obC_6 z1) ?_
  refine eg_aload_n 0 dX6_refuse_5 rfl rfl ?_
  refine eg_aload_n 0 dX6_refuse_6 rfl rfl ?_
  refine eg_getR dX6_refuse_7 fl_6_19 rfl rfl (obC_6 z1) ?_
  show eg_W κ gC mtX6_refuse d (eQI κ gC post) 10 [(0, vR (6, 0)), (1, vI l1)] [vR (9, 0), vR (6, 0)] (sI M (6, 0) 2 l1)
  refine eg_getI dX6_refuse_10 fl_6_54 rfl trivial (obC_9 z1) ?_
  refine eg_putI dX6_refuse_13 fl_6_9 rfl rfl trivial (obC_6 z1) ?_
  refine eg_iconst dX6_refuse_16 ic_0 ?_
  exact eg_zreturn dX6_refuse_17 rfl (Or.inl rfl) h
def fX6_refuse (M : eg_H) (l1 : Int32) : Int32 × eg_H := ((0 : Int32), (sI (sI M (6, 0) 2 l1) (6, 0) 3 ((sI M (6, 0) 2 l1).1 (9, 0) 2)))
theorem zX6_refuse (M : eg_H) (l1 : Int32) : (fX6_refuse M l1).1 = 0 ∨ (fX6_refuse M l1).1 = 1 := by
  unfold fX6_refuse
  first | (repeat' split) <;> first | exact (Or.inl rfl)
set_option maxRecDepth 10000 in
theorem sX6_refuse {κ : eg_K} {d : Nat} (hd : 0 ≤ d) (M : eg_H) (l1 : Int32)   : eg_S κ gC mtX6_refuse d [vR (6, 0), vI l1] M (eQI κ gC (fun r M1 => (r, M1) = fX6_refuse M l1)) := by
  refine eg_S.of rfl (Nat.le_of_ble_eq_true rfl) (vX6_refuse_0 M l1 ?_)
  show _ = _
  exact (rfl)
theorem dX6_countKnot_0 : decode cX6_countKnot 0 = .ok (.aload_n 0, 1) := by decide +kernel
theorem dX6_countKnot_1 : decode cX6_countKnot 1 = .ok (.getfield 38, 3) := by decide +kernel
theorem dX6_countKnot_4 : decode cX6_countKnot 4 = .ok (.bipush 64, 2) := by decide +kernel
theorem dX6_countKnot_6 : decode cX6_countKnot 6 = .ok (.if_icmp .lt 9, 3) := by decide +kernel
theorem dX6_countKnot_9 : decode cX6_countKnot 9 = .ok (.aload_n 0, 1) := by decide +kernel
theorem dX6_countKnot_10 : decode cX6_countKnot 10 = .ok (.iconst 2, 1) := by decide +kernel
theorem dX6_countKnot_11 : decode cX6_countKnot 11 = .ok (.invokevirtual 57, 3) := by decide +kernel
theorem dX6_countKnot_14 : decode cX6_countKnot 14 = .ok (.ireturn, 1) := by decide +kernel
theorem dX6_countKnot_15 : decode cX6_countKnot 15 = .ok (.aload_n 0, 1) := by decide +kernel
theorem dX6_countKnot_16 : decode cX6_countKnot 16 = .ok (.dup, 1) := by decide +kernel
theorem dX6_countKnot_17 : decode cX6_countKnot 17 = .ok (.getfield 38, 3) := by decide +kernel
theorem dX6_countKnot_20 : decode cX6_countKnot 20 = .ok (.iconst 1, 1) := by decide +kernel
theorem dX6_countKnot_21 : decode cX6_countKnot 21 = .ok (.iadd, 1) := by decide +kernel
theorem dX6_countKnot_22 : decode cX6_countKnot 22 = .ok (.putfield 38, 3) := by decide +kernel
theorem dX6_countKnot_25 : decode cX6_countKnot 25 = .ok (.iconst 1, 1) := by decide +kernel
theorem dX6_countKnot_26 : decode cX6_countKnot 26 = .ok (.ireturn, 1) := by decide +kernel
set_option maxRecDepth 10000 in
theorem vX6_countKnot_0 {κ : eg_K} {d : Nat} (hd : 1 ≤ d) {post : Int32 → eg_H → Prop} (M : eg_H)  (h : ((M.1 (6, 0) 8) < (64 : Int32) → post (1 : Int32) (sI M (6, 0) 8 ((M.1 (6, 0) 8) + (1 : Int32)))) ∧ ((¬ (M.1 (6, 0) 8) < (64 : Int32)) → post (fX6_refuse M (2 : Int32)).1 (fX6_refuse M (2 : Int32)).2)) : eg_W κ gC mtX6_countKnot d (eQI κ gC post) 0 [(0, vR (6, 0))] [] M := by
  refine eg_aload_n 0 dX6_countKnot_0 rfl rfl ?_
  refine eg_getI dX6_countKnot_1 fl_6_38 rfl trivial (obC_6 z1) ?_
  refine eg_bipush dX6_countKnot_4 bp_64 ?_
  refine eg_icmp_lt (tgt := 15) dX6_countKnot_6 rfl (fun c1 => ?_) (fun c1 => ?_)
  · have h := h.1 c1
    refine eg_aload_n 0 dX6_countKnot_15 rfl rfl ?_
    refine eg_dup dX6_countKnot_16 rfl ?_
    refine eg_getI dX6_countKnot_17 fl_6_38 rfl trivial (obC_6 z1) ?_
    refine eg_iconst dX6_countKnot_20 ic_1 ?_
    refine eg_iadd dX6_countKnot_21 ?_
    refine eg_putI dX6_countKnot_22 fl_6_38 rfl rfl trivial (obC_6 z1) ?_
    refine eg_iconst dX6_countKnot_25 ic_1 ?_
    exact eg_zreturn dX6_countKnot_26 rfl (Or.inr rfl) h
  · have h := h.2 c1
    refine eg_aload_n 0 dX6_countKnot_9 rfl rfl ?_
    refine eg_iconst dX6_countKnot_10 ic_2 ?_
    refine eg_callVI (av := [vI (2 : Int32)]) (st := []) dX6_countKnot_11 ml_6_57 rfl rfl (obC_6 z1) (by decide) rfl (Nat.le_of_ble_eq_true rfl) (eg_dd (by omega)) (sX6_refuse (by omega) M (2 : Int32)  ) (fun x4 M3 eM3 => ?_)
    rw [show x4 = _ from congrArg Prod.fst eM3, show M3 = _ from congrArg Prod.snd eM3]
    exact eg_zreturn dX6_countKnot_14 rfl (zX6_refuse M (2 : Int32)) h
def fX6_countKnot (M : eg_H)  : Int32 × eg_H := (if (M.1 (6, 0) 8) < (64 : Int32) then ((1 : Int32), (sI M (6, 0) 8 ((M.1 (6, 0) 8) + (1 : Int32)))) else ((fX6_refuse M (2 : Int32)).1, (fX6_refuse M (2 : Int32)).2))
theorem zX6_countKnot (M : eg_H)  : (fX6_countKnot M ).1 = 0 ∨ (fX6_countKnot M ).1 = 1 := by
  unfold fX6_countKnot
  first | (repeat' split) <;> first | exact (Or.inr rfl) | exact (zX6_refuse M (2 : Int32))
set_option maxRecDepth 10000 in
theorem sX6_countKnot {κ : eg_K} {d : Nat} (hd : 1 ≤ d) (M : eg_H)    : eg_S κ gC mtX6_countKnot d [vR (6, 0)] M (eQI κ gC (fun r M1 => (r, M1) = fX6_countKnot M)) := by
  refine eg_S.of rfl (Nat.le_of_ble_eq_true rfl) (vX6_countKnot_0 (by omega) M  ?_)
  refine ⟨fun c1 => ?_, fun c1 => ?_⟩
  · show _ = _
    exact (by unfold fX6_countKnot; rw [if_pos c1])
  · show _ = _
    exact (by unfold fX6_countKnot; rw [if_neg c1])
theorem dX6_holdSign_0 : decode cX6_holdSign 0 = .ok (.aload_n 0, 1) := by decide +kernel
theorem dX6_holdSign_1 : decode cX6_holdSign 1 = .ok (.getfield 205, 3) := by decide +kernel
theorem dX6_holdSign_4 : decode cX6_holdSign 4 = .ok (.aload_n 0, 1) := by decide +kernel
theorem dX6_holdSign_5 : decode cX6_holdSign 5 = .ok (.getfield 15, 3) := by decide +kernel
theorem dX6_holdSign_8 : decode cX6_holdSign 8 = .ok (.arraylength, 1) := by decide +kernel
theorem dX6_holdSign_9 : decode cX6_holdSign 9 = .ok (.if_icmp .ge 23, 3) := by decide +kernel
theorem dX6_holdSign_12 : decode cX6_holdSign 12 = .ok (.aload_n 0, 1) := by decide +kernel
theorem dX6_holdSign_13 : decode cX6_holdSign 13 = .ok (.getfield 15, 3) := by decide +kernel
theorem dX6_holdSign_16 : decode cX6_holdSign 16 = .ok (.aload_n 0, 1) := by decide +kernel
theorem dX6_holdSign_17 : decode cX6_holdSign 17 = .ok (.getfield 205, 3) := by decide +kernel
theorem dX6_holdSign_20 : decode cX6_holdSign 20 = .ok (.iload_n 1, 1) := by decide +kernel
theorem dX6_holdSign_21 : decode cX6_holdSign 21 = .ok (.iastore, 1) := by decide +kernel
theorem dX6_holdSign_22 : decode cX6_holdSign 22 = .ok (.aload_n 0, 1) := by decide +kernel
theorem dX6_holdSign_23 : decode cX6_holdSign 23 = .ok (.dup, 1) := by decide +kernel
theorem dX6_holdSign_24 : decode cX6_holdSign 24 = .ok (.getfield 205, 3) := by decide +kernel
theorem dX6_holdSign_27 : decode cX6_holdSign 27 = .ok (.iconst 1, 1) := by decide +kernel
theorem dX6_holdSign_28 : decode cX6_holdSign 28 = .ok (.iadd, 1) := by decide +kernel
theorem dX6_holdSign_29 : decode cX6_holdSign 29 = .ok (.putfield 205, 3) := by decide +kernel
theorem dX6_holdSign_32 : decode cX6_holdSign 32 = .ok (.return_, 1) := by decide +kernel
set_option maxRecDepth 10000 in
theorem vX6_holdSign_0 {κ : eg_K} {d : Nat} {post : eg_H → Prop} (M : eg_H) (l1 : Int32) (h : ((72 : Int32) ≤ (M.1 (6, 0) 10) → post M) ∧ ((¬ (72 : Int32) ≤ (M.1 (6, 0) 10)) → (vp_in (M.1 (6, 0) 10) 72 ∧ post (sI (sI M (36, 0) (M.1 (6, 0) 10).toNatClampNeg l1) (6, 0) 10 (((sI M (36, 0) (M.1 (6, 0) 10).toNatClampNeg l1).1 (6, 0) 10) + (1 : Int32)))))) : eg_W κ gC mtX6_holdSign d (eQV κ gC post) 0 [(0, vR (6, 0)), (1, vI l1)] [] M := by
  refine eg_aload_n 0 dX6_holdSign_0 rfl rfl ?_
  refine eg_getI dX6_holdSign_1 fl_6_205 rfl trivial (obC_6 z1) ?_
  refine eg_aload_n 0 dX6_holdSign_4 rfl rfl ?_
  refine eg_getR dX6_holdSign_5 fl_6_15 rfl rfl (obC_6 z1) ?_
  show eg_W κ gC mtX6_holdSign d (eQV κ gC post) 8 [(0, vR (6, 0)), (1, vI l1)] [vR (36, 0), vI (M.1 (6, 0) 10)] M
  refine eg_alen (t := 0) (n := 72) dX6_holdSign_8 (anC_36 z1) (by decide) ?_
  show eg_W κ gC mtX6_holdSign d (eQV κ gC post) 9 [(0, vR (6, 0)), (1, vI l1)] [vI (72 : Int32), vI (M.1 (6, 0) 10)] M
  refine eg_icmp_ge (tgt := 32) dX6_holdSign_9 rfl (fun c1 => ?_) (fun c1 => ?_)
  · have h := h.1 c1
    exact eg_vreturn dX6_holdSign_32 rfl h
  · have h := h.2 c1
    refine eg_aload_n 0 dX6_holdSign_12 rfl rfl ?_
    refine eg_getR dX6_holdSign_13 fl_6_15 rfl rfl (obC_6 z1) ?_
    show eg_W κ gC mtX6_holdSign d (eQV κ gC post) 16 [(0, vR (6, 0)), (1, vI l1)] [vR (36, 0)] M
    refine eg_aload_n 0 dX6_holdSign_16 rfl rfl ?_
    refine eg_getI dX6_holdSign_17 fl_6_205 rfl trivial (obC_6 z1) ?_
    refine eg_iload_n 1 dX6_holdSign_20 rfl rfl ?_
    obtain ⟨g2, h⟩ := h
    refine eg_iastore dX6_holdSign_21 (arC_36 z1 g2) ?_
    refine eg_aload_n 0 dX6_holdSign_22 rfl rfl ?_
    refine eg_dup dX6_holdSign_23 rfl ?_
    refine eg_getI dX6_holdSign_24 fl_6_205 rfl trivial (obC_6 z1) ?_
    refine eg_iconst dX6_holdSign_27 ic_1 ?_
    refine eg_iadd dX6_holdSign_28 ?_
    refine eg_putI dX6_holdSign_29 fl_6_205 rfl rfl trivial (obC_6 z1) ?_
    exact eg_vreturn dX6_holdSign_32 rfl h
def fX6_holdSign (M : eg_H) (l1 : Int32) : eg_H := (if (72 : Int32) ≤ (M.1 (6, 0) 10) then M else (sI (sI M (36, 0) (M.1 (6, 0) 10).toNatClampNeg l1) (6, 0) 10 (((sI M (36, 0) (M.1 (6, 0) 10).toNatClampNeg l1).1 (6, 0) 10) + (1 : Int32))))
def gX6_holdSign (M : eg_H) (l1 : Int32) : Prop := ((¬ (72 : Int32) ≤ (M.1 (6, 0) 10)) → vp_in (M.1 (6, 0) 10) 72)
set_option maxRecDepth 10000 in
theorem sX6_holdSign {κ : eg_K} {d : Nat} (hd : 0 ≤ d) (M : eg_H) (l1 : Int32)  (hg : gX6_holdSign M l1) : eg_S κ gC mtX6_holdSign d [vR (6, 0), vI l1] M (eQV κ gC (fun M1 => M1 = fX6_holdSign M l1)) := by
  unfold gX6_holdSign at hg
  refine eg_S.of rfl (Nat.le_of_ble_eq_true rfl) (vX6_holdSign_0 M l1 ?_)
  refine ⟨fun c1 => ?_, fun c1 => ?_⟩
  · show _ = _
    exact (by unfold fX6_holdSign; rw [if_pos c1])
  · refine ⟨hg c1, ?_⟩
    show _ = _
    exact (by unfold fX6_holdSign; rw [if_neg c1])
theorem dX8_clear_0 : decode cX8_clear 0 = .ok (.aload_n 0, 1) := by decide +kernel
theorem dX8_clear_1 : decode cX8_clear 1 = .ok (.iconst 0, 1) := by decide +kernel
theorem dX8_clear_2 : decode cX8_clear 2 = .ok (.putfield 28, 3) := by decide +kernel
theorem dX8_clear_5 : decode cX8_clear 5 = .ok (.aload_n 0, 1) := by decide +kernel
theorem dX8_clear_6 : decode cX8_clear 6 = .ok (.iconst (-1), 1) := by decide +kernel
theorem dX8_clear_7 : decode cX8_clear 7 = .ok (.putfield 32, 3) := by decide +kernel
theorem dX8_clear_10 : decode cX8_clear 10 = .ok (.return_, 1) := by decide +kernel
set_option maxRecDepth 10000 in
theorem vX8_clear_0 {κ : eg_K} {d : Nat} {post : eg_H → Prop} (M : eg_H)  (h : post (sI (sI M (8, 0) 0 (0 : Int32)) (8, 0) 1 (-1 : Int32))) : eg_W κ gC mtX8_clear d (eQV κ gC post) 0 [(0, vR (8, 0))] [] M := by
  refine eg_aload_n 0 dX8_clear_0 rfl rfl ?_
  refine eg_iconst dX8_clear_1 ic_0 ?_
  refine eg_putI dX8_clear_2 fl_8_28 rfl rfl trivial (obC_8 z1) ?_
  refine eg_aload_n 0 dX8_clear_5 rfl rfl ?_
  refine eg_iconst dX8_clear_6 ic_m1 ?_
  refine eg_putI dX8_clear_7 fl_8_32 rfl rfl trivial (obC_8 z1) ?_
  exact eg_vreturn dX8_clear_10 rfl h
def fX8_clear (M : eg_H)  : eg_H := (sI (sI M (8, 0) 0 (0 : Int32)) (8, 0) 1 (-1 : Int32))
set_option maxRecDepth 10000 in
theorem sX8_clear {κ : eg_K} {d : Nat} (hd : 0 ≤ d) (M : eg_H)    : eg_S κ gC mtX8_clear d [vR (8, 0)] M (eQV κ gC (fun M1 => M1 = fX8_clear M)) := by
  refine eg_S.of rfl (Nat.le_of_ble_eq_true rfl) (vX8_clear_0 M  ?_)
  show _ = _
  exact (rfl)
theorem dX8_knownCounts_0 : decode cX8_knownCounts 0 = .ok (.aload_n 0, 1) := by decide +kernel
theorem dX8_knownCounts_1 : decode cX8_knownCounts 1 = .ok (.getfield 32, 3) := by decide +kernel
theorem dX8_knownCounts_4 : decode cX8_knownCounts 4 = .ok (.iconst (-1), 1) := by decide +kernel
theorem dX8_knownCounts_5 : decode cX8_knownCounts 5 = .ok (.if_icmp .ne 10, 3) := by decide +kernel
theorem dX8_knownCounts_8 : decode cX8_knownCounts 8 = .ok (.aload_n 0, 1) := by decide +kernel
theorem dX8_knownCounts_9 : decode cX8_knownCounts 9 = .ok (.getfield 28, 3) := by decide +kernel
theorem dX8_knownCounts_12 : decode cX8_knownCounts 12 = .ok (.goto 7, 3) := by decide +kernel
theorem dX8_knownCounts_15 : decode cX8_knownCounts 15 = .ok (.aload_n 0, 1) := by decide +kernel
theorem dX8_knownCounts_16 : decode cX8_knownCounts 16 = .ok (.getfield 32, 3) := by decide +kernel
theorem dX8_knownCounts_19 : decode cX8_knownCounts 19 = .ok (.ireturn, 1) := by decide +kernel
set_option maxRecDepth 10000 in
theorem vX8_knownCounts_0 {κ : eg_K} {d : Nat} {post : Int32 → eg_H → Prop} (M : eg_H)  (h : ((¬ (M.1 (8, 0) 1) = (-1 : Int32)) → post (M.1 (8, 0) 1) M) ∧ ((M.1 (8, 0) 1) = (-1 : Int32) → post (M.1 (8, 0) 0) M)) : eg_W κ gC mtX8_knownCounts d (eQI κ gC post) 0 [(0, vR (8, 0))] [] M := by
  refine eg_aload_n 0 dX8_knownCounts_0 rfl rfl ?_
  refine eg_getI dX8_knownCounts_1 fl_8_32 rfl trivial (obC_8 z1) ?_
  refine eg_iconst dX8_knownCounts_4 ic_m1 ?_
  refine eg_icmp_ne (tgt := 15) dX8_knownCounts_5 rfl (fun c1 => ?_) (fun c1 => ?_)
  · have h := h.1 c1
    refine eg_aload_n 0 dX8_knownCounts_15 rfl rfl ?_
    refine eg_getI dX8_knownCounts_16 fl_8_32 rfl trivial (obC_8 z1) ?_
    exact eg_ireturn dX8_knownCounts_19 rfl h
  · have h := h.2 c1
    refine eg_aload_n 0 dX8_knownCounts_8 rfl rfl ?_
    refine eg_getI dX8_knownCounts_9 fl_8_28 rfl trivial (obC_8 z1) ?_
    refine eg_goto (tgt := 19) dX8_knownCounts_12 rfl ?_
    exact eg_ireturn dX8_knownCounts_19 rfl h
def fX8_knownCounts (M : eg_H)  : Int32 := (if (¬ (M.1 (8, 0) 1) = (-1 : Int32)) then (M.1 (8, 0) 1) else (M.1 (8, 0) 0))
set_option maxRecDepth 10000 in
theorem sX8_knownCounts {κ : eg_K} {d : Nat} (hd : 0 ≤ d) (M : eg_H)    : eg_S κ gC mtX8_knownCounts d [vR (8, 0)] M (eQI κ gC (fun r M1 => r = fX8_knownCounts M ∧ M1 = M)) := by
  refine eg_S.of rfl (Nat.le_of_ble_eq_true rfl) (vX8_knownCounts_0 M  ?_)
  refine ⟨fun c1 => ?_, fun c1 => ?_⟩
  · exact ⟨by unfold fX8_knownCounts; rw [if_pos c1], rfl⟩
  · exact ⟨by unfold fX8_knownCounts; rw [if_neg (fun z_ => z_ c1)], rfl⟩
theorem dX10_fault_0 : decode cX10_fault 0 = .ok (.iload_n 1, 1) := by decide +kernel
theorem dX10_fault_1 : decode cX10_fault 1 = .ok (.ifCond .ne 11, 3) := by decide +kernel
theorem dX10_fault_4 : decode cX10_fault 4 = .ok (.aload_n 0, 1) := by decide +kernel
theorem dX10_fault_5 : decode cX10_fault 5 = .ok (.getfield 25, 3) := by decide +kernel
theorem dX10_fault_8 : decode cX10_fault 8 = .ok (.getfield 100, 3) := by decide +kernel
theorem dX10_fault_11 : decode cX10_fault 11 = .ok (.ireturn, 1) := by decide +kernel
theorem dX10_fault_12 : decode cX10_fault 12 = .ok (.iload_n 1, 1) := by decide +kernel
theorem dX10_fault_13 : decode cX10_fault 13 = .ok (.iconst 1, 1) := by decide +kernel
theorem dX10_fault_14 : decode cX10_fault 14 = .ok (.if_icmp .ne 13, 3) := by decide +kernel
theorem dX10_fault_17 : decode cX10_fault 17 = .ok (.aload_n 0, 1) := by decide +kernel
theorem dX10_fault_18 : decode cX10_fault 18 = .ok (.getfield 25, 3) := by decide +kernel
theorem dX10_fault_21 : decode cX10_fault 21 = .ok (.getfield 119, 3) := by decide +kernel
theorem dX10_fault_24 : decode cX10_fault 24 = .ok (.goto 4, 3) := by decide +kernel
theorem dX10_fault_27 : decode cX10_fault 27 = .ok (.iconst (-1), 1) := by decide +kernel
theorem dX10_fault_28 : decode cX10_fault 28 = .ok (.ireturn, 1) := by decide +kernel
set_option maxRecDepth 10000 in
theorem vX10_fault_0 {κ : eg_K} {d : Nat} {post : Int32 → eg_H → Prop} (M : eg_H) (l1 : Int32) (h : ((¬ l1 = 0) → ((¬ l1 = (1 : Int32)) → post (-1 : Int32) M) ∧ (l1 = (1 : Int32) → post (M.1 (6, 0) 3) M)) ∧ (l1 = 0 → post (M.1 (6, 0) 2) M)) : eg_W κ gC mtX10_fault d (eQI κ gC post) 0 [(0, vR (10, 0)), (1, vI l1)] [] M := by
  refine eg_iload_n 1 dX10_fault_0 rfl rfl ?_
  refine eg_if_ne (tgt := 12) dX10_fault_1 rfl (fun c1 => ?_) (fun c1 => ?_)
  · have h := h.1 c1
    refine eg_iload_n 1 dX10_fault_12 rfl rfl ?_
    refine eg_iconst dX10_fault_13 ic_1 ?_
    refine eg_icmp_ne (tgt := 27) dX10_fault_14 rfl (fun c2 => ?_) (fun c2 => ?_)
    · have h := h.1 c2
      refine eg_iconst dX10_fault_27 ic_m1 ?_
      exact eg_ireturn dX10_fault_28 rfl h
    · have h := h.2 c2
      refine eg_aload_n 0 dX10_fault_17 rfl rfl ?_
      refine eg_getR dX10_fault_18 fl_10_25 rfl rfl (obC_10 z1) ?_
      show eg_W κ gC mtX10_fault d (eQI κ gC post) 21 [(0, vR (10, 0)), (1, vI l1)] [vR (6, 0)] M
      refine eg_getI dX10_fault_21 fl_10_119 rfl trivial (obC_6 z1) ?_
      refine eg_goto (tgt := 28) dX10_fault_24 rfl ?_
      exact eg_ireturn dX10_fault_28 rfl h
  · have h := h.2 c1
    refine eg_aload_n 0 dX10_fault_4 rfl rfl ?_
    refine eg_getR dX10_fault_5 fl_10_25 rfl rfl (obC_10 z1) ?_
    show eg_W κ gC mtX10_fault d (eQI κ gC post) 8 [(0, vR (10, 0)), (1, vI l1)] [vR (6, 0)] M
    refine eg_getI dX10_fault_8 fl_10_100 rfl trivial (obC_6 z1) ?_
    exact eg_ireturn dX10_fault_11 rfl h
def fX10_fault (M : eg_H) (l1 : Int32) : Int32 := (if (¬ l1 = 0) then (if (¬ l1 = (1 : Int32)) then (-1 : Int32) else (M.1 (6, 0) 3)) else (M.1 (6, 0) 2))
set_option maxRecDepth 10000 in
theorem sX10_fault {κ : eg_K} {d : Nat} (hd : 0 ≤ d) (M : eg_H) (l1 : Int32)   : eg_S κ gC mtX10_fault d [vR (10, 0), vI l1] M (eQI κ gC (fun r M1 => r = fX10_fault M l1 ∧ M1 = M)) := by
  refine eg_S.of rfl (Nat.le_of_ble_eq_true rfl) (vX10_fault_0 M l1 ?_)
  refine ⟨fun c1 => ?_, fun c1 => ?_⟩
  · refine ⟨fun c2 => ?_, fun c2 => ?_⟩
    · exact ⟨by unfold fX10_fault; rw [if_pos c1, if_pos c2], rfl⟩
    · exact ⟨by unfold fX10_fault; rw [if_pos c1, if_neg (fun z_ => z_ c2)], rfl⟩
  · exact ⟨by unfold fX10_fault; rw [if_neg (fun z_ => z_ c1)], rfl⟩
theorem dX10_line_0 : decode cX10_line 0 = .ok (.iload_n 1, 1) := by decide +kernel
theorem dX10_line_1 : decode cX10_line 1 = .ok (.ifCond .lt 26, 3) := by decide +kernel
theorem dX10_line_4 : decode cX10_line 4 = .ok (.iload_n 1, 1) := by decide +kernel
theorem dX10_line_5 : decode cX10_line 5 = .ok (.aload_n 0, 1) := by decide +kernel
theorem dX10_line_6 : decode cX10_line 6 = .ok (.getfield 65, 3) := by decide +kernel
theorem dX10_line_9 : decode cX10_line 9 = .ok (.getfield 237, 3) := by decide +kernel
theorem dX10_line_12 : decode cX10_line 12 = .ok (.if_icmp .ge 15, 3) := by decide +kernel
theorem dX10_line_15 : decode cX10_line 15 = .ok (.aload_n 0, 1) := by decide +kernel
theorem dX10_line_16 : decode cX10_line 16 = .ok (.getfield 65, 3) := by decide +kernel
theorem dX10_line_19 : decode cX10_line 19 = .ok (.getfield 240, 3) := by decide +kernel
theorem dX10_line_22 : decode cX10_line 22 = .ok (.iload_n 1, 1) := by decide +kernel
theorem dX10_line_23 : decode cX10_line 23 = .ok (.iaload, 1) := by decide +kernel
theorem dX10_line_24 : decode cX10_line 24 = .ok (.goto 4, 3) := by decide +kernel
theorem dX10_line_27 : decode cX10_line 27 = .ok (.iconst (-1), 1) := by decide +kernel
theorem dX10_line_28 : decode cX10_line 28 = .ok (.ireturn, 1) := by decide +kernel
set_option maxRecDepth 10000 in
theorem vX10_line_0 {κ : eg_K} {d : Nat} {post : Int32 → eg_H → Prop} (M : eg_H) (l1 : Int32) (h : (l1 < 0 → post (-1 : Int32) M) ∧ ((¬ l1 < 0) → ((M.1 (7, 0) 6) ≤ l1 → post (-1 : Int32) M) ∧ ((¬ (M.1 (7, 0) 6) ≤ l1) → (vp_in l1 15 ∧ post (M.1 (43, 0) l1.toNatClampNeg) M)))) : eg_W κ gC mtX10_line d (eQI κ gC post) 0 [(0, vR (10, 0)), (1, vI l1)] [] M := by
  refine eg_iload_n 1 dX10_line_0 rfl rfl ?_
  refine eg_if_lt (tgt := 27) dX10_line_1 rfl (fun c1 => ?_) (fun c1 => ?_)
  · have h := h.1 c1
    refine eg_iconst dX10_line_27 ic_m1 ?_
    exact eg_ireturn dX10_line_28 rfl h
  · have h := h.2 c1
    refine eg_iload_n 1 dX10_line_4 rfl rfl ?_
    refine eg_aload_n 0 dX10_line_5 rfl rfl ?_
    refine eg_getR dX10_line_6 fl_10_65 rfl rfl (obC_10 z1) ?_
    show eg_W κ gC mtX10_line d (eQI κ gC post) 9 [(0, vR (10, 0)), (1, vI l1)] [vR (7, 0), vI l1] M
    refine eg_getI dX10_line_9 fl_10_237 rfl trivial (obC_7 (by decide : 0 < 4)) ?_
    refine eg_icmp_ge (tgt := 27) dX10_line_12 rfl (fun c2 => ?_) (fun c2 => ?_)
    · have h := h.1 c2
      refine eg_iconst dX10_line_27 ic_m1 ?_
      exact eg_ireturn dX10_line_28 rfl h
    · have h := h.2 c2
      refine eg_aload_n 0 dX10_line_15 rfl rfl ?_
      refine eg_getR dX10_line_16 fl_10_65 rfl rfl (obC_10 z1) ?_
      show eg_W κ gC mtX10_line d (eQI κ gC post) 19 [(0, vR (10, 0)), (1, vI l1)] [vR (7, 0)] M
      refine eg_getR dX10_line_19 fl_10_240 rfl rfl (obC_7 (by decide : 0 < 4)) ?_
      show eg_W κ gC mtX10_line d (eQI κ gC post) 22 [(0, vR (10, 0)), (1, vI l1)] [vR (43, 0)] M
      refine eg_iload_n 1 dX10_line_22 rfl rfl ?_
      obtain ⟨g3, h⟩ := h
      refine eg_iaload dX10_line_23 (arC_43 (by decide : 0 < 4) g3) ?_
      refine eg_goto (tgt := 28) dX10_line_24 rfl ?_
      exact eg_ireturn dX10_line_28 rfl h
def fX10_line (M : eg_H) (l1 : Int32) : Int32 := (if l1 < 0 then (-1 : Int32) else (if (M.1 (7, 0) 6) ≤ l1 then (-1 : Int32) else (M.1 (43, 0) l1.toNatClampNeg)))
def gX10_line (M : eg_H) (l1 : Int32) : Prop := ((¬ l1 < 0) → (¬ (M.1 (7, 0) 6) ≤ l1) → vp_in l1 15)
set_option maxRecDepth 10000 in
theorem sX10_line {κ : eg_K} {d : Nat} (hd : 0 ≤ d) (M : eg_H) (l1 : Int32)  (hg : gX10_line M l1) : eg_S κ gC mtX10_line d [vR (10, 0), vI l1] M (eQI κ gC (fun r M1 => r = fX10_line M l1 ∧ M1 = M)) := by
  unfold gX10_line at hg
  refine eg_S.of rfl (Nat.le_of_ble_eq_true rfl) (vX10_line_0 M l1 ?_)
  refine ⟨fun c1 => ?_, fun c1 => ?_⟩
  · exact ⟨by unfold fX10_line; rw [if_pos c1], rfl⟩
  · refine ⟨fun c2 => ?_, fun c2 => ?_⟩
    · exact ⟨by unfold fX10_line; rw [if_neg c1, if_pos c2], rfl⟩
    · refine ⟨hg c1 c2, ?_⟩
      exact ⟨by unfold fX10_line; rw [if_neg c1, if_neg c2], rfl⟩
theorem dX10_isLength_0 : decode cX10_isLength 0 = .ok (.iload_n 0, 1) := by decide +kernel
theorem dX10_isLength_1 : decode cX10_isLength 1 = .ok (.ifCond .lt 14, 3) := by decide +kernel
theorem dX10_isLength_4 : decode cX10_isLength 4 = .ok (.iload_n 0, 1) := by decide +kernel
theorem dX10_isLength_5 : decode cX10_isLength 5 = .ok (.sipush 3600, 3) := by decide +kernel
theorem dX10_isLength_8 : decode cX10_isLength 8 = .ok (.if_icmp .gt 7, 3) := by decide +kernel
theorem dX10_isLength_11 : decode cX10_isLength 11 = .ok (.iconst 1, 1) := by decide +kernel
theorem dX10_isLength_12 : decode cX10_isLength 12 = .ok (.goto 4, 3) := by decide +kernel
theorem dX10_isLength_15 : decode cX10_isLength 15 = .ok (.iconst 0, 1) := by decide +kernel
theorem dX10_isLength_16 : decode cX10_isLength 16 = .ok (.ireturn, 1) := by decide +kernel
set_option maxRecDepth 10000 in
theorem vX10_isLength_0 {κ : eg_K} {d : Nat} {post : Int32 → eg_H → Prop} (M : eg_H) (l0 : Int32) (h : (l0 < 0 → post (0 : Int32) M) ∧ ((¬ l0 < 0) → ((3600 : Int32) < l0 → post (0 : Int32) M) ∧ ((¬ (3600 : Int32) < l0) → post (1 : Int32) M))) : eg_W κ gC mtX10_isLength d (eQI κ gC post) 0 [(0, vI l0)] [] M := by
  refine eg_iload_n 0 dX10_isLength_0 rfl rfl ?_
  refine eg_if_lt (tgt := 15) dX10_isLength_1 rfl (fun c1 => ?_) (fun c1 => ?_)
  · have h := h.1 c1
    refine eg_iconst dX10_isLength_15 ic_0 ?_
    exact eg_zreturn dX10_isLength_16 rfl (Or.inl rfl) h
  · have h := h.2 c1
    refine eg_iload_n 0 dX10_isLength_4 rfl rfl ?_
    refine eg_sipush dX10_isLength_5 sp_3600 ?_
    refine eg_icmp_gt (tgt := 15) dX10_isLength_8 rfl (fun c2 => ?_) (fun c2 => ?_)
    · have h := h.1 c2
      refine eg_iconst dX10_isLength_15 ic_0 ?_
      exact eg_zreturn dX10_isLength_16 rfl (Or.inl rfl) h
    · have h := h.2 c2
      refine eg_iconst dX10_isLength_11 ic_1 ?_
      refine eg_goto (tgt := 16) dX10_isLength_12 rfl ?_
      exact eg_zreturn dX10_isLength_16 rfl (Or.inr rfl) h
def fX10_isLength (M : eg_H) (l0 : Int32) : Int32 := (if l0 < 0 then (0 : Int32) else (if (3600 : Int32) < l0 then (0 : Int32) else (1 : Int32)))
theorem zX10_isLength (M : eg_H) (l0 : Int32) : fX10_isLength M l0 = 0 ∨ fX10_isLength M l0 = 1 := by
  unfold fX10_isLength
  exact (eg_zi (Or.inl rfl) (eg_zi (Or.inl rfl) (Or.inr rfl)))
set_option maxRecDepth 10000 in
theorem sX10_isLength {κ : eg_K} {d : Nat} (hd : 0 ≤ d) (M : eg_H) (l0 : Int32)   : eg_S κ gC mtX10_isLength d [vI l0] M (eQI κ gC (fun r M1 => r = fX10_isLength M l0 ∧ M1 = M)) := by
  refine eg_S.of rfl (Nat.le_of_ble_eq_true rfl) (vX10_isLength_0 M l0 ?_)
  refine ⟨fun c1 => ?_, fun c1 => ?_⟩
  · exact ⟨by unfold fX10_isLength; rw [if_pos c1], rfl⟩
  · refine ⟨fun c2 => ?_, fun c2 => ?_⟩
    · exact ⟨by unfold fX10_isLength; rw [if_neg c1, if_pos c2], rfl⟩
    · exact ⟨by unfold fX10_isLength; rw [if_neg c1, if_neg c2], rfl⟩
theorem dX10_swapInOrder_0 : decode cX10_swapInOrder 0 = .ok (.aload_n 0, 1) := by decide +kernel
theorem dX10_swapInOrder_1 : decode cX10_swapInOrder 1 = .ok (.getfield 50, 3) := by decide +kernel
theorem dX10_swapInOrder_4 : decode cX10_swapInOrder 4 = .ok (.iload_n 1, 1) := by decide +kernel
theorem dX10_swapInOrder_5 : decode cX10_swapInOrder 5 = .ok (.iaload, 1) := by decide +kernel
theorem dX10_swapInOrder_6 : decode cX10_swapInOrder 6 = .ok (.istore_n 3, 1) := by decide +kernel
theorem dX10_swapInOrder_7 : decode cX10_swapInOrder 7 = .ok (.aload_n 0, 1) := by decide +kernel
theorem dX10_swapInOrder_8 : decode cX10_swapInOrder 8 = .ok (.getfield 50, 3) := by decide +kernel
theorem dX10_swapInOrder_11 : decode cX10_swapInOrder 11 = .ok (.iload_n 1, 1) := by decide +kernel
theorem dX10_swapInOrder_12 : decode cX10_swapInOrder 12 = .ok (.aload_n 0, 1) := by decide +kernel
theorem dX10_swapInOrder_13 : decode cX10_swapInOrder 13 = .ok (.getfield 50, 3) := by decide +kernel
theorem dX10_swapInOrder_16 : decode cX10_swapInOrder 16 = .ok (.iload_n 2, 1) := by decide +kernel
theorem dX10_swapInOrder_17 : decode cX10_swapInOrder 17 = .ok (.iaload, 1) := by decide +kernel
theorem dX10_swapInOrder_18 : decode cX10_swapInOrder 18 = .ok (.iastore, 1) := by decide +kernel
theorem dX10_swapInOrder_19 : decode cX10_swapInOrder 19 = .ok (.aload_n 0, 1) := by decide +kernel
theorem dX10_swapInOrder_20 : decode cX10_swapInOrder 20 = .ok (.getfield 50, 3) := by decide +kernel
theorem dX10_swapInOrder_23 : decode cX10_swapInOrder 23 = .ok (.iload_n 2, 1) := by decide +kernel
theorem dX10_swapInOrder_24 : decode cX10_swapInOrder 24 = .ok (.iload_n 3, 1) := by decide +kernel
theorem dX10_swapInOrder_25 : decode cX10_swapInOrder 25 = .ok (.iastore, 1) := by decide +kernel
theorem dX10_swapInOrder_26 : decode cX10_swapInOrder 26 = .ok (.return_, 1) := by decide +kernel
set_option maxRecDepth 10000 in
theorem vX10_swapInOrder_0 {κ : eg_K} {d : Nat} {post : eg_H → Prop} (M : eg_H) (l1 : Int32) (l2 : Int32) (h : (vp_in l1 5 ∧ (vp_in l2 5 ∧ post (sI (sI M (52, 0) l1.toNatClampNeg (M.1 (52, 0) l2.toNatClampNeg)) (52, 0) l2.toNatClampNeg (M.1 (52, 0) l1.toNatClampNeg))))) : eg_W κ gC mtX10_swapInOrder d (eQV κ gC post) 0 [(0, vR (10, 0)), (1, vI l1), (2, vI l2)] [] M := by
  refine eg_aload_n 0 dX10_swapInOrder_0 rfl rfl ?_
  refine eg_getR dX10_swapInOrder_1 fl_10_50 rfl rfl (obC_10 z1) ?_
  show eg_W κ gC mtX10_swapInOrder d (eQV κ gC post) 4 [(0, vR (10, 0)), (1, vI l1), (2, vI l2)] [vR (52, 0)] M
  refine eg_iload_n 1 dX10_swapInOrder_4 rfl rfl ?_
  obtain ⟨g1, h⟩ := h
  refine eg_iaload dX10_swapInOrder_5 (arC_52 z1 g1) ?_
  refine eg_istore_n dX10_swapInOrder_6 rfl (by decide) (ls1 := [(3, vI (M.1 (52, 0) l1.toNatClampNeg)), (0, vR (10, 0)), (1, vI l1), (2, vI l2)]) rfl ?_
  refine eg_aload_n 1 dX10_swapInOrder_7 rfl rfl ?_
  refine eg_getR dX10_swapInOrder_8 fl_10_50 rfl rfl (obC_10 z1) ?_
  show eg_W κ gC mtX10_swapInOrder d (eQV κ gC post) 11 [(3, vI (M.1 (52, 0) l1.toNatClampNeg)), (0, vR (10, 0)), (1, vI l1), (2, vI l2)] [vR (52, 0)] M
  refine eg_iload_n 2 dX10_swapInOrder_11 rfl rfl ?_
  refine eg_aload_n 1 dX10_swapInOrder_12 rfl rfl ?_
  refine eg_getR dX10_swapInOrder_13 fl_10_50 rfl rfl (obC_10 z1) ?_
  show eg_W κ gC mtX10_swapInOrder d (eQV κ gC post) 16 [(3, vI (M.1 (52, 0) l1.toNatClampNeg)), (0, vR (10, 0)), (1, vI l1), (2, vI l2)] [vR (52, 0), vI l1, vR (52, 0)] M
  refine eg_iload_n 3 dX10_swapInOrder_16 rfl rfl ?_
  obtain ⟨g2, h⟩ := h
  refine eg_iaload dX10_swapInOrder_17 (arC_52 z1 g2) ?_
  refine eg_iastore dX10_swapInOrder_18 (arC_52 z1 g1) ?_
  refine eg_aload_n 1 dX10_swapInOrder_19 rfl rfl ?_
  refine eg_getR dX10_swapInOrder_20 fl_10_50 rfl rfl (obC_10 z1) ?_
  show eg_W κ gC mtX10_swapInOrder d (eQV κ gC post) 23 [(3, vI (M.1 (52, 0) l1.toNatClampNeg)), (0, vR (10, 0)), (1, vI l1), (2, vI l2)] [vR (52, 0)] (sI M (52, 0) l1.toNatClampNeg (M.1 (52, 0) l2.toNatClampNeg))
  refine eg_iload_n 3 dX10_swapInOrder_23 rfl rfl ?_
  refine eg_iload_n 0 dX10_swapInOrder_24 rfl rfl ?_
  refine eg_iastore dX10_swapInOrder_25 (arC_52 z1 g2) ?_
  exact eg_vreturn dX10_swapInOrder_26 rfl h
def fX10_swapInOrder (M : eg_H) (l1 : Int32) (l2 : Int32) : eg_H := (sI (sI M (52, 0) l1.toNatClampNeg (M.1 (52, 0) l2.toNatClampNeg)) (52, 0) l2.toNatClampNeg (M.1 (52, 0) l1.toNatClampNeg))
def gX10_swapInOrder (M : eg_H) (l1 : Int32) (l2 : Int32) : Prop := (vp_in l1 5) ∧ (vp_in l2 5)
set_option maxRecDepth 10000 in
theorem sX10_swapInOrder {κ : eg_K} {d : Nat} (hd : 0 ≤ d) (M : eg_H) (l1 : Int32) (l2 : Int32)  (hg : gX10_swapInOrder M l1 l2) : eg_S κ gC mtX10_swapInOrder d [vR (10, 0), vI l1, vI l2] M (eQV κ gC (fun M1 => M1 = fX10_swapInOrder M l1 l2)) := by
  unfold gX10_swapInOrder at hg
  refine eg_S.of rfl (Nat.le_of_ble_eq_true rfl) (vX10_swapInOrder_0 M l1 l2 ?_)
  refine ⟨hg.1 , ?_⟩
  refine ⟨hg.2 , ?_⟩
  show _ = _
  exact (rfl)
theorem dX10_isNamed_0 : decode cX10_isNamed 0 = .ok (.iload_n 0, 1) := by decide +kernel
theorem dX10_isNamed_1 : decode cX10_isNamed 1 = .ok (.ifCond .lt 14, 3) := by decide +kernel
theorem dX10_isNamed_4 : decode cX10_isNamed 4 = .ok (.iload_n 0, 1) := by decide +kernel
theorem dX10_isNamed_5 : decode cX10_isNamed 5 = .ok (.sipush 9999, 3) := by decide +kernel
theorem dX10_isNamed_8 : decode cX10_isNamed 8 = .ok (.if_icmp .gt 7, 3) := by decide +kernel
theorem dX10_isNamed_11 : decode cX10_isNamed 11 = .ok (.iconst 1, 1) := by decide +kernel
theorem dX10_isNamed_12 : decode cX10_isNamed 12 = .ok (.goto 4, 3) := by decide +kernel
theorem dX10_isNamed_15 : decode cX10_isNamed 15 = .ok (.iconst 0, 1) := by decide +kernel
theorem dX10_isNamed_16 : decode cX10_isNamed 16 = .ok (.ireturn, 1) := by decide +kernel
set_option maxRecDepth 10000 in
theorem vX10_isNamed_0 {κ : eg_K} {d : Nat} {post : Int32 → eg_H → Prop} (M : eg_H) (l0 : Int32) (h : (l0 < 0 → post (0 : Int32) M) ∧ ((¬ l0 < 0) → ((9999 : Int32) < l0 → post (0 : Int32) M) ∧ ((¬ (9999 : Int32) < l0) → post (1 : Int32) M))) : eg_W κ gC mtX10_isNamed d (eQI κ gC post) 0 [(0, vI l0)] [] M := by
  refine eg_iload_n 0 dX10_isNamed_0 rfl rfl ?_
  refine eg_if_lt (tgt := 15) dX10_isNamed_1 rfl (fun c1 => ?_) (fun c1 => ?_)
  · have h := h.1 c1
    refine eg_iconst dX10_isNamed_15 ic_0 ?_
    exact eg_zreturn dX10_isNamed_16 rfl (Or.inl rfl) h
  · have h := h.2 c1
    refine eg_iload_n 0 dX10_isNamed_4 rfl rfl ?_
    refine eg_sipush dX10_isNamed_5 sp_9999 ?_
    refine eg_icmp_gt (tgt := 15) dX10_isNamed_8 rfl (fun c2 => ?_) (fun c2 => ?_)
    · have h := h.1 c2
      refine eg_iconst dX10_isNamed_15 ic_0 ?_
      exact eg_zreturn dX10_isNamed_16 rfl (Or.inl rfl) h
    · have h := h.2 c2
      refine eg_iconst dX10_isNamed_11 ic_1 ?_
      refine eg_goto (tgt := 16) dX10_isNamed_12 rfl ?_
      exact eg_zreturn dX10_isNamed_16 rfl (Or.inr rfl) h
def fX10_isNamed (M : eg_H) (l0 : Int32) : Int32 := (if l0 < 0 then (0 : Int32) else (if (9999 : Int32) < l0 then (0 : Int32) else (1 : Int32)))
theorem zX10_isNamed (M : eg_H) (l0 : Int32) : fX10_isNamed M l0 = 0 ∨ fX10_isNamed M l0 = 1 := by
  unfold fX10_isNamed
  exact (eg_zi (Or.inl rfl) (eg_zi (Or.inl rfl) (Or.inr rfl)))
set_option maxRecDepth 10000 in
theorem sX10_isNamed {κ : eg_K} {d : Nat} (hd : 0 ≤ d) (M : eg_H) (l0 : Int32)   : eg_S κ gC mtX10_isNamed d [vI l0] M (eQI κ gC (fun r M1 => r = fX10_isNamed M l0 ∧ M1 = M)) := by
  refine eg_S.of rfl (Nat.le_of_ble_eq_true rfl) (vX10_isNamed_0 M l0 ?_)
  refine ⟨fun c1 => ?_, fun c1 => ?_⟩
  · exact ⟨by unfold fX10_isNamed; rw [if_pos c1], rfl⟩
  · refine ⟨fun c2 => ?_, fun c2 => ?_⟩
    · exact ⟨by unfold fX10_isNamed; rw [if_neg c1, if_pos c2], rfl⟩
    · exact ⟨by unfold fX10_isNamed; rw [if_neg c1, if_neg c2], rfl⟩
theorem dX10_known_0 : decode cX10_known 0 = .ok (.iload_n 1, 1) := by decide +kernel
theorem dX10_known_1 : decode cX10_known 1 = .ok (.iconst (-1), 1) := by decide +kernel
theorem dX10_known_2 : decode cX10_known 2 = .ok (.if_icmp .lt 14, 3) := by decide +kernel
theorem dX10_known_5 : decode cX10_known 5 = .ok (.iload_n 1, 1) := by decide +kernel
theorem dX10_known_6 : decode cX10_known 6 = .ok (.aload_n 0, 1) := by decide +kernel
theorem dX10_known_7 : decode cX10_known 7 = .ok (.getfield 46, 3) := by decide +kernel
theorem dX10_known_10 : decode cX10_known 10 = .ok (.getfield 374, 3) := by decide +kernel
theorem dX10_known_13 : decode cX10_known 13 = .ok (.if_icmp .le 5, 3) := by decide +kernel
theorem dX10_known_16 : decode cX10_known 16 = .ok (.iconst 0, 1) := by decide +kernel
theorem dX10_known_17 : decode cX10_known 17 = .ok (.ireturn, 1) := by decide +kernel
theorem dX10_known_18 : decode cX10_known 18 = .ok (.aload_n 0, 1) := by decide +kernel
theorem dX10_known_19 : decode cX10_known 19 = .ok (.getfield 46, 3) := by decide +kernel
theorem dX10_known_22 : decode cX10_known 22 = .ok (.iload_n 1, 1) := by decide +kernel
theorem dX10_known_23 : decode cX10_known 23 = .ok (.putfield 375, 3) := by decide +kernel
theorem dX10_known_26 : decode cX10_known 26 = .ok (.iconst 1, 1) := by decide +kernel
theorem dX10_known_27 : decode cX10_known 27 = .ok (.ireturn, 1) := by decide +kernel
set_option maxRecDepth 10000 in
theorem vX10_known_0 {κ : eg_K} {d : Nat} {post : Int32 → eg_H → Prop} (M : eg_H) (l1 : Int32) (h : (l1 < (-1 : Int32) → post (0 : Int32) M) ∧ ((¬ l1 < (-1 : Int32)) → (l1 ≤ (M.1 (8, 0) 0) → post (1 : Int32) (sI M (8, 0) 1 l1)) ∧ ((¬ l1 ≤ (M.1 (8, 0) 0)) → post (0 : Int32) M))) : eg_W κ gC mtX10_known d (eQI κ gC post) 0 [(0, vR (10, 0)), (1, vI l1)] [] M := by
  refine eg_iload_n 1 dX10_known_0 rfl rfl ?_
  refine eg_iconst dX10_known_1 ic_m1 ?_
  refine eg_icmp_lt (tgt := 16) dX10_known_2 rfl (fun c1 => ?_) (fun c1 => ?_)
  · have h := h.1 c1
    refine eg_iconst dX10_known_16 ic_0 ?_
    exact eg_zreturn dX10_known_17 rfl (Or.inl rfl) h
  · have h := h.2 c1
    refine eg_iload_n 1 dX10_known_5 rfl rfl ?_
    refine eg_aload_n 0 dX10_known_6 rfl rfl ?_
    refine eg_getR dX10_known_7 fl_10_46 rfl rfl (obC_10 z1) ?_
    show eg_W κ gC mtX10_known d (eQI κ gC post) 10 [(0, vR (10, 0)), (1, vI l1)] [vR (8, 0), vI l1] M
    refine eg_getI dX10_known_10 fl_10_374 rfl trivial (obC_8 z1) ?_
    refine eg_icmp_le (tgt := 18) dX10_known_13 rfl (fun c2 => ?_) (fun c2 => ?_)
    · have h := h.1 c2
      refine eg_aload_n 0 dX10_known_18 rfl rfl ?_
      refine eg_getR dX10_known_19 fl_10_46 rfl rfl (obC_10 z1) ?_
      show eg_W κ gC mtX10_known d (eQI κ gC post) 22 [(0, vR (10, 0)), (1, vI l1)] [vR (8, 0)] M
      refine eg_iload_n 1 dX10_known_22 rfl rfl ?_
      refine eg_putI dX10_known_23 fl_10_375 rfl rfl trivial (obC_8 z1) ?_
      refine eg_iconst dX10_known_26 ic_1 ?_
      exact eg_zreturn dX10_known_27 rfl (Or.inr rfl) h
    · have h := h.2 c2
      refine eg_iconst dX10_known_16 ic_0 ?_
      exact eg_zreturn dX10_known_17 rfl (Or.inl rfl) h
def fX10_known (M : eg_H) (l1 : Int32) : Int32 × eg_H := (if l1 < (-1 : Int32) then ((0 : Int32), M) else (if l1 ≤ (M.1 (8, 0) 0) then ((1 : Int32), (sI M (8, 0) 1 l1)) else ((0 : Int32), M)))
theorem zX10_known (M : eg_H) (l1 : Int32) : (fX10_known M l1).1 = 0 ∨ (fX10_known M l1).1 = 1 := by
  unfold fX10_known
  first | (repeat' split) <;> first | exact (Or.inl rfl) | exact (Or.inr rfl)
set_option maxRecDepth 10000 in
theorem sX10_known {κ : eg_K} {d : Nat} (hd : 0 ≤ d) (M : eg_H) (l1 : Int32)   : eg_S κ gC mtX10_known d [vR (10, 0), vI l1] M (eQI κ gC (fun r M1 => (r, M1) = fX10_known M l1)) := by
  refine eg_S.of rfl (Nat.le_of_ble_eq_true rfl) (vX10_known_0 M l1 ?_)
  refine ⟨fun c1 => ?_, fun c1 => ?_⟩
  · show _ = _
    exact (by unfold fX10_known; rw [if_pos c1])
  · refine ⟨fun c2 => ?_, fun c2 => ?_⟩
    · show _ = _
      exact (by unfold fX10_known; rw [if_neg c1, if_pos c2])
    · show _ = _
      exact (by unfold fX10_known; rw [if_neg c1, if_neg c2])
theorem dX11_thrown_0 : decode cX11_thrown 0 = .ok (.aload_n 0, 1) := by decide +kernel
theorem dX11_thrown_1 : decode cX11_thrown 1 = .ok (.getfield 127, 3) := by decide +kernel
theorem dX11_thrown_4 : decode cX11_thrown 4 = .ok (.ireturn, 1) := by decide +kernel
set_option maxRecDepth 10000 in
theorem vX11_thrown_0 {κ : eg_K} {d : Nat} {post : Int32 → eg_H → Prop} (M : eg_H)  (h : post (M.1 (60, 0) 2) M) : eg_W κ gM mtX11_thrown d (eQI κ gM post) 0 [(0, vR (60, 0))] [] M := by
  refine eg_aload_n 0 dX11_thrown_0 rfl rfl ?_
  refine eg_getI dX11_thrown_1 fl_11_127 rfl trivial (obM_60 z1) ?_
  exact eg_ireturn dX11_thrown_4 rfl h
def fX11_thrown (M : eg_H)  : Int32 := (M.1 (60, 0) 2)
set_option maxRecDepth 10000 in
theorem sX11_thrown {κ : eg_K} {d : Nat} (hd : 0 ≤ d) (M : eg_H)    : eg_S κ gM mtX11_thrown d [vR (60, 0)] M (eQI κ gM (fun r M1 => r = fX11_thrown M ∧ M1 = M)) := by
  refine eg_S.of rfl (Nat.le_of_ble_eq_true rfl) (vX11_thrown_0 M  ?_)
  exact ⟨rfl, rfl⟩
theorem dX11_isIn_0 : decode cX11_isIn 0 = .ok (.iload_n 0, 1) := by decide +kernel
theorem dX11_isIn_1 : decode cX11_isIn 1 = .ok (.iload_n 1, 1) := by decide +kernel
theorem dX11_isIn_2 : decode cX11_isIn 2 = .ok (.if_icmp .lt 12, 3) := by decide +kernel
theorem dX11_isIn_5 : decode cX11_isIn 5 = .ok (.iload_n 0, 1) := by decide +kernel
theorem dX11_isIn_6 : decode cX11_isIn 6 = .ok (.iload_n 2, 1) := by decide +kernel
theorem dX11_isIn_7 : decode cX11_isIn 7 = .ok (.if_icmp .gt 7, 3) := by decide +kernel
theorem dX11_isIn_10 : decode cX11_isIn 10 = .ok (.iconst 1, 1) := by decide +kernel
theorem dX11_isIn_11 : decode cX11_isIn 11 = .ok (.goto 4, 3) := by decide +kernel
theorem dX11_isIn_14 : decode cX11_isIn 14 = .ok (.iconst 0, 1) := by decide +kernel
theorem dX11_isIn_15 : decode cX11_isIn 15 = .ok (.ireturn, 1) := by decide +kernel
set_option maxRecDepth 10000 in
theorem vX11_isIn_0 {κ : eg_K} {d : Nat} {post : Int32 → eg_H → Prop} (M : eg_H) (l0 : Int32) (l1 : Int32) (l2 : Int32) (h : (l0 < l1 → post (0 : Int32) M) ∧ ((¬ l0 < l1) → (l2 < l0 → post (0 : Int32) M) ∧ ((¬ l2 < l0) → post (1 : Int32) M))) : eg_W κ gM mtX11_isIn d (eQI κ gM post) 0 [(0, vI l0), (1, vI l1), (2, vI l2)] [] M := by
  refine eg_iload_n 0 dX11_isIn_0 rfl rfl ?_
  refine eg_iload_n 1 dX11_isIn_1 rfl rfl ?_
  refine eg_icmp_lt (tgt := 14) dX11_isIn_2 rfl (fun c1 => ?_) (fun c1 => ?_)
  · have h := h.1 c1
    refine eg_iconst dX11_isIn_14 ic_0 ?_
    exact eg_zreturn dX11_isIn_15 rfl (Or.inl rfl) h
  · have h := h.2 c1
    refine eg_iload_n 0 dX11_isIn_5 rfl rfl ?_
    refine eg_iload_n 2 dX11_isIn_6 rfl rfl ?_
    refine eg_icmp_gt (tgt := 14) dX11_isIn_7 rfl (fun c2 => ?_) (fun c2 => ?_)
    · have h := h.1 c2
      refine eg_iconst dX11_isIn_14 ic_0 ?_
      exact eg_zreturn dX11_isIn_15 rfl (Or.inl rfl) h
    · have h := h.2 c2
      refine eg_iconst dX11_isIn_10 ic_1 ?_
      refine eg_goto (tgt := 15) dX11_isIn_11 rfl ?_
      exact eg_zreturn dX11_isIn_15 rfl (Or.inr rfl) h
def fX11_isIn (M : eg_H) (l0 : Int32) (l1 : Int32) (l2 : Int32) : Int32 := (if l0 < l1 then (0 : Int32) else (if l2 < l0 then (0 : Int32) else (1 : Int32)))
theorem zX11_isIn (M : eg_H) (l0 : Int32) (l1 : Int32) (l2 : Int32) : fX11_isIn M l0 l1 l2 = 0 ∨ fX11_isIn M l0 l1 l2 = 1 := by
  unfold fX11_isIn
  exact (eg_zi (Or.inl rfl) (eg_zi (Or.inl rfl) (Or.inr rfl)))
set_option maxRecDepth 10000 in
theorem sX11_isIn {κ : eg_K} {d : Nat} (hd : 0 ≤ d) (M : eg_H) (l0 : Int32) (l1 : Int32) (l2 : Int32)   : eg_S κ gM mtX11_isIn d [vI l0, vI l1, vI l2] M (eQI κ gM (fun r M1 => r = fX11_isIn M l0 l1 l2 ∧ M1 = M)) := by
  refine eg_S.of rfl (Nat.le_of_ble_eq_true rfl) (vX11_isIn_0 M l0 l1 l2 ?_)
  refine ⟨fun c1 => ?_, fun c1 => ?_⟩
  · exact ⟨by unfold fX11_isIn; rw [if_pos c1], rfl⟩
  · refine ⟨fun c2 => ?_, fun c2 => ?_⟩
    · exact ⟨by unfold fX11_isIn; rw [if_neg c1, if_pos c2], rfl⟩
    · exact ⟨by unfold fX11_isIn; rw [if_neg c1, if_neg c2], rfl⟩
theorem dX11_wrong_0 : decode cX11_wrong 0 = .ok (.aload_n 0, 1) := by decide +kernel
theorem dX11_wrong_1 : decode cX11_wrong 1 = .ok (.iload_n 1, 1) := by decide +kernel
theorem dX11_wrong_2 : decode cX11_wrong 2 = .ok (.putfield 133, 3) := by decide +kernel
theorem dX11_wrong_5 : decode cX11_wrong 5 = .ok (.aload_n 0, 1) := by decide +kernel
theorem dX11_wrong_6 : decode cX11_wrong 6 = .ok (.aload_n 0, 1) := by decide +kernel
theorem dX11_wrong_7 : decode cX11_wrong 7 = .ok (.getfield 136, 3) := by decide +kernel
theorem dX11_wrong_10 : decode cX11_wrong 10 = .ok (.putfield 16, 3) := by decide +kernel
theorem dX11_wrong_13 : decode cX11_wrong 13 = .ok (.iconst 0, 1) := by decide +kernel
theorem dX11_wrong_14 : decode cX11_wrong 14 = .ok (.ireturn, 1) := by decide +kernel
set_option maxRecDepth 10000 in
theorem vX11_wrong_0 {κ : eg_K} {d : Nat} {post : Int32 → eg_H → Prop} (M : eg_H) (l1 : Int32) (h : post (0 : Int32) (sI (sI M (60, 0) 4 l1) (60, 0) 5 ((sI M (60, 0) 4 l1).1 (60, 0) 10))) : eg_W κ gM mtX11_wrong d (eQI κ gM post) 0 [(0, vR (60, 0)), (1, vI l1)] [] M := by
  refine eg_aload_n 0 dX11_wrong_0 rfl rfl ?_
  refine eg_iload_n 1 dX11_wrong_1 rfl rfl ?_
  refine eg_putI dX11_wrong_2 fl_11_133 rfl rfl trivial (obM_60 z1) ?_
  refine eg_aload_n 0 dX11_wrong_5 rfl rfl ?_
  refine eg_aload_n 0 dX11_wrong_6 rfl rfl ?_
  refine eg_getI dX11_wrong_7 fl_11_136 rfl trivial (obM_60 z1) ?_
  refine eg_putI dX11_wrong_10 fl_11_16 rfl rfl trivial (obM_60 z1) ?_
  refine eg_iconst dX11_wrong_13 ic_0 ?_
  exact eg_zreturn dX11_wrong_14 rfl (Or.inl rfl) h
def fX11_wrong (M : eg_H) (l1 : Int32) : Int32 × eg_H := ((0 : Int32), (sI (sI M (60, 0) 4 l1) (60, 0) 5 ((sI M (60, 0) 4 l1).1 (60, 0) 10)))
theorem zX11_wrong (M : eg_H) (l1 : Int32) : (fX11_wrong M l1).1 = 0 ∨ (fX11_wrong M l1).1 = 1 := by
  unfold fX11_wrong
  first | (repeat' split) <;> first | exact (Or.inl rfl)
set_option maxRecDepth 10000 in
theorem sX11_wrong {κ : eg_K} {d : Nat} (hd : 0 ≤ d) (M : eg_H) (l1 : Int32)   : eg_S κ gM mtX11_wrong d [vR (60, 0), vI l1] M (eQI κ gM (fun r M1 => (r, M1) = fX11_wrong M l1)) := by
  refine eg_S.of rfl (Nat.le_of_ble_eq_true rfl) (vX11_wrong_0 M l1 ?_)
  show _ = _
  exact (rfl)
theorem dX11_isSmall_0 : decode cX11_isSmall 0 = .ok (.iload_n 1, 1) := by decide +kernel
theorem dX11_isSmall_1 : decode cX11_isSmall 1 = .ok (.aload_n 0, 1) := by decide +kernel
theorem dX11_isSmall_2 : decode cX11_isSmall 2 = .ok (.getfield 139, 3) := by decide +kernel
theorem dX11_isSmall_5 : decode cX11_isSmall 5 = .ok (.if_icmp .ge 29, 3) := by decide +kernel
theorem dX11_isSmall_8 : decode cX11_isSmall 8 = .ok (.aload_n 0, 1) := by decide +kernel
theorem dX11_isSmall_9 : decode cX11_isSmall 9 = .ok (.getfield 7, 3) := by decide +kernel
theorem dX11_isSmall_12 : decode cX11_isSmall 12 = .ok (.iload_n 1, 1) := by decide +kernel
theorem dX11_isSmall_13 : decode cX11_isSmall 13 = .ok (.iaload, 1) := by decide +kernel
theorem dX11_isSmall_14 : decode cX11_isSmall 14 = .ok (.bipush 97, 2) := by decide +kernel
theorem dX11_isSmall_16 : decode cX11_isSmall 16 = .ok (.if_icmp .lt 18, 3) := by decide +kernel
theorem dX11_isSmall_19 : decode cX11_isSmall 19 = .ok (.aload_n 0, 1) := by decide +kernel
theorem dX11_isSmall_20 : decode cX11_isSmall 20 = .ok (.getfield 7, 3) := by decide +kernel
theorem dX11_isSmall_23 : decode cX11_isSmall 23 = .ok (.iload_n 1, 1) := by decide +kernel
theorem dX11_isSmall_24 : decode cX11_isSmall 24 = .ok (.iaload, 1) := by decide +kernel
theorem dX11_isSmall_25 : decode cX11_isSmall 25 = .ok (.bipush 122, 2) := by decide +kernel
theorem dX11_isSmall_27 : decode cX11_isSmall 27 = .ok (.if_icmp .gt 7, 3) := by decide +kernel
theorem dX11_isSmall_30 : decode cX11_isSmall 30 = .ok (.iconst 1, 1) := by decide +kernel
theorem dX11_isSmall_31 : decode cX11_isSmall 31 = .ok (.goto 4, 3) := by decide +kernel
theorem dX11_isSmall_34 : decode cX11_isSmall 34 = .ok (.iconst 0, 1) := by decide +kernel
theorem dX11_isSmall_35 : decode cX11_isSmall 35 = .ok (.ireturn, 1) := by decide +kernel
set_option maxRecDepth 10000 in
theorem vX11_isSmall_0 {κ : eg_K} {d : Nat} {post : Int32 → eg_H → Prop} (M : eg_H) (l1 : Int32) (h : ((M.1 (60, 0) 6) ≤ l1 → post (0 : Int32) M) ∧ ((¬ (M.1 (60, 0) 6) ≤ l1) → (vp_in l1 800 ∧ ((M.1 (61, 0) l1.toNatClampNeg) < (97 : Int32) → post (0 : Int32) M) ∧ ((¬ (M.1 (61, 0) l1.toNatClampNeg) < (97 : Int32)) → ((122 : Int32) < (M.1 (61, 0) l1.toNatClampNeg) → post (0 : Int32) M) ∧ ((¬ (122 : Int32) < (M.1 (61, 0) l1.toNatClampNeg)) → post (1 : Int32) M))))) : eg_W κ gM mtX11_isSmall d (eQI κ gM post) 0 [(0, vR (60, 0)), (1, vI l1)] [] M := by
  refine eg_iload_n 1 dX11_isSmall_0 rfl rfl ?_
  refine eg_aload_n 0 dX11_isSmall_1 rfl rfl ?_
  refine eg_getI dX11_isSmall_2 fl_11_139 rfl trivial (obM_60 z1) ?_
  refine eg_icmp_ge (tgt := 34) dX11_isSmall_5 rfl (fun c1 => ?_) (fun c1 => ?_)
  · have h := h.1 c1
    refine eg_iconst dX11_isSmall_34 ic_0 ?_
    exact eg_zreturn dX11_isSmall_35 rfl (Or.inl rfl) h
  · have h := h.2 c1
    refine eg_aload_n 0 dX11_isSmall_8 rfl rfl ?_
    refine eg_getR dX11_isSmall_9 fl_11_7 rfl rfl (obM_60 z1) ?_
    show eg_W κ gM mtX11_isSmall d (eQI κ gM post) 12 [(0, vR (60, 0)), (1, vI l1)] [vR (61, 0)] M
    refine eg_iload_n 1 dX11_isSmall_12 rfl rfl ?_
    obtain ⟨g2, h⟩ := h
    refine eg_iaload dX11_isSmall_13 (arM_61 z1 g2) ?_
    refine eg_bipush dX11_isSmall_14 bp_97 ?_
    refine eg_icmp_lt (tgt := 34) dX11_isSmall_16 rfl (fun c3 => ?_) (fun c3 => ?_)
    · have h := h.1 c3
      refine eg_iconst dX11_isSmall_34 ic_0 ?_
      exact eg_zreturn dX11_isSmall_35 rfl (Or.inl rfl) h
    · have h := h.2 c3
      refine eg_aload_n 0 dX11_isSmall_19 rfl rfl ?_
      refine eg_getR dX11_isSmall_20 fl_11_7 rfl rfl (obM_60 z1) ?_
      show eg_W κ gM mtX11_isSmall d (eQI κ gM post) 23 [(0, vR (60, 0)), (1, vI l1)] [vR (61, 0)] M
      refine eg_iload_n 1 dX11_isSmall_23 rfl rfl ?_
      refine eg_iaload dX11_isSmall_24 (arM_61 z1 g2) ?_
      refine eg_bipush dX11_isSmall_25 bp_122 ?_
      refine eg_icmp_gt (tgt := 34) dX11_isSmall_27 rfl (fun c4 => ?_) (fun c4 => ?_)
      · have h := h.1 c4
        refine eg_iconst dX11_isSmall_34 ic_0 ?_
        exact eg_zreturn dX11_isSmall_35 rfl (Or.inl rfl) h
      · have h := h.2 c4
        refine eg_iconst dX11_isSmall_30 ic_1 ?_
        refine eg_goto (tgt := 35) dX11_isSmall_31 rfl ?_
        exact eg_zreturn dX11_isSmall_35 rfl (Or.inr rfl) h
def fX11_isSmall (M : eg_H) (l1 : Int32) : Int32 := (if (M.1 (60, 0) 6) ≤ l1 then (0 : Int32) else (if (M.1 (61, 0) l1.toNatClampNeg) < (97 : Int32) then (0 : Int32) else (if (122 : Int32) < (M.1 (61, 0) l1.toNatClampNeg) then (0 : Int32) else (1 : Int32))))
def gX11_isSmall (M : eg_H) (l1 : Int32) : Prop := ((¬ (M.1 (60, 0) 6) ≤ l1) → vp_in l1 800)
theorem zX11_isSmall (M : eg_H) (l1 : Int32) : fX11_isSmall M l1 = 0 ∨ fX11_isSmall M l1 = 1 := by
  unfold fX11_isSmall
  exact (eg_zi (Or.inl rfl) (eg_zi (Or.inl rfl) (eg_zi (Or.inl rfl) (Or.inr rfl))))
set_option maxRecDepth 10000 in
theorem sX11_isSmall {κ : eg_K} {d : Nat} (hd : 0 ≤ d) (M : eg_H) (l1 : Int32)  (hg : gX11_isSmall M l1) : eg_S κ gM mtX11_isSmall d [vR (60, 0), vI l1] M (eQI κ gM (fun r M1 => r = fX11_isSmall M l1 ∧ M1 = M)) := by
  unfold gX11_isSmall at hg
  refine eg_S.of rfl (Nat.le_of_ble_eq_true rfl) (vX11_isSmall_0 M l1 ?_)
  refine ⟨fun c1 => ?_, fun c1 => ?_⟩
  · exact ⟨by unfold fX11_isSmall; rw [if_pos c1], rfl⟩
  · refine ⟨hg c1, ?_⟩
    refine ⟨fun c2 => ?_, fun c2 => ?_⟩
    · exact ⟨by unfold fX11_isSmall; rw [if_neg c1, if_pos c2], rfl⟩
    · refine ⟨fun c3 => ?_, fun c3 => ?_⟩
      · exact ⟨by unfold fX11_isSmall; rw [if_neg c1, if_neg c2, if_pos c3], rfl⟩
      · exact ⟨by unfold fX11_isSmall; rw [if_neg c1, if_neg c2, if_neg c3], rfl⟩
theorem dX11_isDigit_0 : decode cX11_isDigit 0 = .ok (.iload_n 1, 1) := by decide +kernel
theorem dX11_isDigit_1 : decode cX11_isDigit 1 = .ok (.aload_n 0, 1) := by decide +kernel
theorem dX11_isDigit_2 : decode cX11_isDigit 2 = .ok (.getfield 139, 3) := by decide +kernel
theorem dX11_isDigit_5 : decode cX11_isDigit 5 = .ok (.if_icmp .ge 29, 3) := by decide +kernel
theorem dX11_isDigit_8 : decode cX11_isDigit 8 = .ok (.aload_n 0, 1) := by decide +kernel
theorem dX11_isDigit_9 : decode cX11_isDigit 9 = .ok (.getfield 7, 3) := by decide +kernel
theorem dX11_isDigit_12 : decode cX11_isDigit 12 = .ok (.iload_n 1, 1) := by decide +kernel
theorem dX11_isDigit_13 : decode cX11_isDigit 13 = .ok (.iaload, 1) := by decide +kernel
theorem dX11_isDigit_14 : decode cX11_isDigit 14 = .ok (.bipush 48, 2) := by decide +kernel
theorem dX11_isDigit_16 : decode cX11_isDigit 16 = .ok (.if_icmp .lt 18, 3) := by decide +kernel
theorem dX11_isDigit_19 : decode cX11_isDigit 19 = .ok (.aload_n 0, 1) := by decide +kernel
theorem dX11_isDigit_20 : decode cX11_isDigit 20 = .ok (.getfield 7, 3) := by decide +kernel
theorem dX11_isDigit_23 : decode cX11_isDigit 23 = .ok (.iload_n 1, 1) := by decide +kernel
theorem dX11_isDigit_24 : decode cX11_isDigit 24 = .ok (.iaload, 1) := by decide +kernel
theorem dX11_isDigit_25 : decode cX11_isDigit 25 = .ok (.bipush 57, 2) := by decide +kernel
theorem dX11_isDigit_27 : decode cX11_isDigit 27 = .ok (.if_icmp .gt 7, 3) := by decide +kernel
theorem dX11_isDigit_30 : decode cX11_isDigit 30 = .ok (.iconst 1, 1) := by decide +kernel
theorem dX11_isDigit_31 : decode cX11_isDigit 31 = .ok (.goto 4, 3) := by decide +kernel
theorem dX11_isDigit_34 : decode cX11_isDigit 34 = .ok (.iconst 0, 1) := by decide +kernel
theorem dX11_isDigit_35 : decode cX11_isDigit 35 = .ok (.ireturn, 1) := by decide +kernel
set_option maxRecDepth 10000 in
theorem vX11_isDigit_0 {κ : eg_K} {d : Nat} {post : Int32 → eg_H → Prop} (M : eg_H) (l1 : Int32) (h : ((M.1 (60, 0) 6) ≤ l1 → post (0 : Int32) M) ∧ ((¬ (M.1 (60, 0) 6) ≤ l1) → (vp_in l1 800 ∧ ((M.1 (61, 0) l1.toNatClampNeg) < (48 : Int32) → post (0 : Int32) M) ∧ ((¬ (M.1 (61, 0) l1.toNatClampNeg) < (48 : Int32)) → ((57 : Int32) < (M.1 (61, 0) l1.toNatClampNeg) → post (0 : Int32) M) ∧ ((¬ (57 : Int32) < (M.1 (61, 0) l1.toNatClampNeg)) → post (1 : Int32) M))))) : eg_W κ gM mtX11_isDigit d (eQI κ gM post) 0 [(0, vR (60, 0)), (1, vI l1)] [] M := by
  refine eg_iload_n 1 dX11_isDigit_0 rfl rfl ?_
  refine eg_aload_n 0 dX11_isDigit_1 rfl rfl ?_
  refine eg_getI dX11_isDigit_2 fl_11_139 rfl trivial (obM_60 z1) ?_
  refine eg_icmp_ge (tgt := 34) dX11_isDigit_5 rfl (fun c1 => ?_) (fun c1 => ?_)
  · have h := h.1 c1
    refine eg_iconst dX11_isDigit_34 ic_0 ?_
    exact eg_zreturn dX11_isDigit_35 rfl (Or.inl rfl) h
  · have h := h.2 c1
    refine eg_aload_n 0 dX11_isDigit_8 rfl rfl ?_
    refine eg_getR dX11_isDigit_9 fl_11_7 rfl rfl (obM_60 z1) ?_
    show eg_W κ gM mtX11_isDigit d (eQI κ gM post) 12 [(0, vR (60, 0)), (1, vI l1)] [vR (61, 0)] M
    refine eg_iload_n 1 dX11_isDigit_12 rfl rfl ?_
    obtain ⟨g2, h⟩ := h
    refine eg_iaload dX11_isDigit_13 (arM_61 z1 g2) ?_
    refine eg_bipush dX11_isDigit_14 bp_48 ?_
    refine eg_icmp_lt (tgt := 34) dX11_isDigit_16 rfl (fun c3 => ?_) (fun c3 => ?_)
    · have h := h.1 c3
      refine eg_iconst dX11_isDigit_34 ic_0 ?_
      exact eg_zreturn dX11_isDigit_35 rfl (Or.inl rfl) h
    · have h := h.2 c3
      refine eg_aload_n 0 dX11_isDigit_19 rfl rfl ?_
      refine eg_getR dX11_isDigit_20 fl_11_7 rfl rfl (obM_60 z1) ?_
      show eg_W κ gM mtX11_isDigit d (eQI κ gM post) 23 [(0, vR (60, 0)), (1, vI l1)] [vR (61, 0)] M
      refine eg_iload_n 1 dX11_isDigit_23 rfl rfl ?_
      refine eg_iaload dX11_isDigit_24 (arM_61 z1 g2) ?_
      refine eg_bipush dX11_isDigit_25 bp_57 ?_
      refine eg_icmp_gt (tgt := 34) dX11_isDigit_27 rfl (fun c4 => ?_) (fun c4 => ?_)
      · have h := h.1 c4
        refine eg_iconst dX11_isDigit_34 ic_0 ?_
        exact eg_zreturn dX11_isDigit_35 rfl (Or.inl rfl) h
      · have h := h.2 c4
        refine eg_iconst dX11_isDigit_30 ic_1 ?_
        refine eg_goto (tgt := 35) dX11_isDigit_31 rfl ?_
        exact eg_zreturn dX11_isDigit_35 rfl (Or.inr rfl) h
def fX11_isDigit (M : eg_H) (l1 : Int32) : Int32 := (if (M.1 (60, 0) 6) ≤ l1 then (0 : Int32) else (if (M.1 (61, 0) l1.toNatClampNeg) < (48 : Int32) then (0 : Int32) else (if (57 : Int32) < (M.1 (61, 0) l1.toNatClampNeg) then (0 : Int32) else (1 : Int32))))
def gX11_isDigit (M : eg_H) (l1 : Int32) : Prop := ((¬ (M.1 (60, 0) 6) ≤ l1) → vp_in l1 800)
theorem zX11_isDigit (M : eg_H) (l1 : Int32) : fX11_isDigit M l1 = 0 ∨ fX11_isDigit M l1 = 1 := by
  unfold fX11_isDigit
  exact (eg_zi (Or.inl rfl) (eg_zi (Or.inl rfl) (eg_zi (Or.inl rfl) (Or.inr rfl))))
set_option maxRecDepth 10000 in
theorem sX11_isDigit {κ : eg_K} {d : Nat} (hd : 0 ≤ d) (M : eg_H) (l1 : Int32)  (hg : gX11_isDigit M l1) : eg_S κ gM mtX11_isDigit d [vR (60, 0), vI l1] M (eQI κ gM (fun r M1 => r = fX11_isDigit M l1 ∧ M1 = M)) := by
  unfold gX11_isDigit at hg
  refine eg_S.of rfl (Nat.le_of_ble_eq_true rfl) (vX11_isDigit_0 M l1 ?_)
  refine ⟨fun c1 => ?_, fun c1 => ?_⟩
  · exact ⟨by unfold fX11_isDigit; rw [if_pos c1], rfl⟩
  · refine ⟨hg c1, ?_⟩
    refine ⟨fun c2 => ?_, fun c2 => ?_⟩
    · exact ⟨by unfold fX11_isDigit; rw [if_neg c1, if_pos c2], rfl⟩
    · refine ⟨fun c3 => ?_, fun c3 => ?_⟩
      · exact ⟨by unfold fX11_isDigit; rw [if_neg c1, if_neg c2, if_pos c3], rfl⟩
      · exact ⟨by unfold fX11_isDigit; rw [if_neg c1, if_neg c2, if_neg c3], rfl⟩
theorem dX11_isKey_0 : decode cX11_isKey 0 = .ok (.aload_n 0, 1) := by decide +kernel
theorem dX11_isKey_1 : decode cX11_isKey 1 = .ok (.getfield 145, 3) := by decide +kernel
theorem dX11_isKey_4 : decode cX11_isKey 4 = .ok (.iconst 1, 1) := by decide +kernel
theorem dX11_isKey_5 : decode cX11_isKey 5 = .ok (.if_icmp .ne 15, 3) := by decide +kernel
theorem dX11_isKey_8 : decode cX11_isKey 8 = .ok (.aload_n 0, 1) := by decide +kernel
theorem dX11_isKey_9 : decode cX11_isKey 9 = .ok (.getfield 156, 3) := by decide +kernel
theorem dX11_isKey_12 : decode cX11_isKey 12 = .ok (.iload_n 1, 1) := by decide +kernel
theorem dX11_isKey_13 : decode cX11_isKey 13 = .ok (.if_icmp .ne 7, 3) := by decide +kernel
theorem dX11_isKey_16 : decode cX11_isKey 16 = .ok (.iconst 1, 1) := by decide +kernel
theorem dX11_isKey_17 : decode cX11_isKey 17 = .ok (.goto 4, 3) := by decide +kernel
theorem dX11_isKey_20 : decode cX11_isKey 20 = .ok (.iconst 0, 1) := by decide +kernel
theorem dX11_isKey_21 : decode cX11_isKey 21 = .ok (.ireturn, 1) := by decide +kernel
set_option maxRecDepth 10000 in
theorem vX11_isKey_0 {κ : eg_K} {d : Nat} {post : Int32 → eg_H → Prop} (M : eg_H) (l1 : Int32) (h : ((¬ (M.1 (60, 0) 8) = (1 : Int32)) → post (0 : Int32) M) ∧ ((M.1 (60, 0) 8) = (1 : Int32) → ((¬ (M.1 (60, 0) 9) = l1) → post (0 : Int32) M) ∧ ((M.1 (60, 0) 9) = l1 → post (1 : Int32) M))) : eg_W κ gM mtX11_isKey d (eQI κ gM post) 0 [(0, vR (60, 0)), (1, vI l1)] [] M := by
  refine eg_aload_n 0 dX11_isKey_0 rfl rfl ?_
  refine eg_getI dX11_isKey_1 fl_11_145 rfl trivial (obM_60 z1) ?_
  refine eg_iconst dX11_isKey_4 ic_1 ?_
  refine eg_icmp_ne (tgt := 20) dX11_isKey_5 rfl (fun c1 => ?_) (fun c1 => ?_)
  · have h := h.1 c1
    refine eg_iconst dX11_isKey_20 ic_0 ?_
    exact eg_zreturn dX11_isKey_21 rfl (Or.inl rfl) h
  · have h := h.2 c1
    refine eg_aload_n 0 dX11_isKey_8 rfl rfl ?_
    refine eg_getI dX11_isKey_9 fl_11_156 rfl trivial (obM_60 z1) ?_
    refine eg_iload_n 1 dX11_isKey_12 rfl rfl ?_
    refine eg_icmp_ne (tgt := 20) dX11_isKey_13 rfl (fun c2 => ?_) (fun c2 => ?_)
    · have h := h.1 c2
      refine eg_iconst dX11_isKey_20 ic_0 ?_
      exact eg_zreturn dX11_isKey_21 rfl (Or.inl rfl) h
    · have h := h.2 c2
      refine eg_iconst dX11_isKey_16 ic_1 ?_
      refine eg_goto (tgt := 21) dX11_isKey_17 rfl ?_
      exact eg_zreturn dX11_isKey_21 rfl (Or.inr rfl) h
def fX11_isKey (M : eg_H) (l1 : Int32) : Int32 := (if (¬ (M.1 (60, 0) 8) = (1 : Int32)) then (0 : Int32) else (if (¬ (M.1 (60, 0) 9) = l1) then (0 : Int32) else (1 : Int32)))
theorem zX11_isKey (M : eg_H) (l1 : Int32) : fX11_isKey M l1 = 0 ∨ fX11_isKey M l1 = 1 := by
  unfold fX11_isKey
  exact (eg_zi (Or.inl rfl) (eg_zi (Or.inl rfl) (Or.inr rfl)))
set_option maxRecDepth 10000 in
theorem sX11_isKey {κ : eg_K} {d : Nat} (hd : 0 ≤ d) (M : eg_H) (l1 : Int32)   : eg_S κ gM mtX11_isKey d [vR (60, 0), vI l1] M (eQI κ gM (fun r M1 => r = fX11_isKey M l1 ∧ M1 = M)) := by
  refine eg_S.of rfl (Nat.le_of_ble_eq_true rfl) (vX11_isKey_0 M l1 ?_)
  refine ⟨fun c1 => ?_, fun c1 => ?_⟩
  · exact ⟨by unfold fX11_isKey; rw [if_pos c1], rfl⟩
  · refine ⟨fun c2 => ?_, fun c2 => ?_⟩
    · exact ⟨by unfold fX11_isKey; rw [if_neg (fun z_ => z_ c1), if_pos c2], rfl⟩
    · exact ⟨by unfold fX11_isKey; rw [if_neg (fun z_ => z_ c1), if_neg (fun z_ => z_ c2)], rfl⟩
theorem dX11_isSign_0 : decode cX11_isSign 0 = .ok (.aload_n 0, 1) := by decide +kernel
theorem dX11_isSign_1 : decode cX11_isSign 1 = .ok (.getfield 145, 3) := by decide +kernel
theorem dX11_isSign_4 : decode cX11_isSign 4 = .ok (.iconst 4, 1) := by decide +kernel
theorem dX11_isSign_5 : decode cX11_isSign 5 = .ok (.if_icmp .ne 15, 3) := by decide +kernel
theorem dX11_isSign_8 : decode cX11_isSign 8 = .ok (.aload_n 0, 1) := by decide +kernel
theorem dX11_isSign_9 : decode cX11_isSign 9 = .ok (.getfield 156, 3) := by decide +kernel
theorem dX11_isSign_12 : decode cX11_isSign 12 = .ok (.iload_n 1, 1) := by decide +kernel
theorem dX11_isSign_13 : decode cX11_isSign 13 = .ok (.if_icmp .ne 7, 3) := by decide +kernel
theorem dX11_isSign_16 : decode cX11_isSign 16 = .ok (.iconst 1, 1) := by decide +kernel
theorem dX11_isSign_17 : decode cX11_isSign 17 = .ok (.goto 4, 3) := by decide +kernel
theorem dX11_isSign_20 : decode cX11_isSign 20 = .ok (.iconst 0, 1) := by decide +kernel
theorem dX11_isSign_21 : decode cX11_isSign 21 = .ok (.ireturn, 1) := by decide +kernel
set_option maxRecDepth 10000 in
theorem vX11_isSign_0 {κ : eg_K} {d : Nat} {post : Int32 → eg_H → Prop} (M : eg_H) (l1 : Int32) (h : ((¬ (M.1 (60, 0) 8) = (4 : Int32)) → post (0 : Int32) M) ∧ ((M.1 (60, 0) 8) = (4 : Int32) → ((¬ (M.1 (60, 0) 9) = l1) → post (0 : Int32) M) ∧ ((M.1 (60, 0) 9) = l1 → post (1 : Int32) M))) : eg_W κ gM mtX11_isSign d (eQI κ gM post) 0 [(0, vR (60, 0)), (1, vI l1)] [] M := by
  refine eg_aload_n 0 dX11_isSign_0 rfl rfl ?_
  refine eg_getI dX11_isSign_1 fl_11_145 rfl trivial (obM_60 z1) ?_
  refine eg_iconst dX11_isSign_4 ic_4 ?_
  refine eg_icmp_ne (tgt := 20) dX11_isSign_5 rfl (fun c1 => ?_) (fun c1 => ?_)
  · have h := h.1 c1
    refine eg_iconst dX11_isSign_20 ic_0 ?_
    exact eg_zreturn dX11_isSign_21 rfl (Or.inl rfl) h
  · have h := h.2 c1
    refine eg_aload_n 0 dX11_isSign_8 rfl rfl ?_
    refine eg_getI dX11_isSign_9 fl_11_156 rfl trivial (obM_60 z1) ?_
    refine eg_iload_n 1 dX11_isSign_12 rfl rfl ?_
    refine eg_icmp_ne (tgt := 20) dX11_isSign_13 rfl (fun c2 => ?_) (fun c2 => ?_)
    · have h := h.1 c2
      refine eg_iconst dX11_isSign_20 ic_0 ?_
      exact eg_zreturn dX11_isSign_21 rfl (Or.inl rfl) h
    · have h := h.2 c2
      refine eg_iconst dX11_isSign_16 ic_1 ?_
      refine eg_goto (tgt := 21) dX11_isSign_17 rfl ?_
      exact eg_zreturn dX11_isSign_21 rfl (Or.inr rfl) h
def fX11_isSign (M : eg_H) (l1 : Int32) : Int32 := (if (¬ (M.1 (60, 0) 8) = (4 : Int32)) then (0 : Int32) else (if (¬ (M.1 (60, 0) 9) = l1) then (0 : Int32) else (1 : Int32)))
theorem zX11_isSign (M : eg_H) (l1 : Int32) : fX11_isSign M l1 = 0 ∨ fX11_isSign M l1 = 1 := by
  unfold fX11_isSign
  exact (eg_zi (Or.inl rfl) (eg_zi (Or.inl rfl) (Or.inr rfl)))
set_option maxRecDepth 10000 in
theorem sX11_isSign {κ : eg_K} {d : Nat} (hd : 0 ≤ d) (M : eg_H) (l1 : Int32)   : eg_S κ gM mtX11_isSign d [vR (60, 0), vI l1] M (eQI κ gM (fun r M1 => r = fX11_isSign M l1 ∧ M1 = M)) := by
  refine eg_S.of rfl (Nat.le_of_ble_eq_true rfl) (vX11_isSign_0 M l1 ?_)
  refine ⟨fun c1 => ?_, fun c1 => ?_⟩
  · exact ⟨by unfold fX11_isSign; rw [if_pos c1], rfl⟩
  · refine ⟨fun c2 => ?_, fun c2 => ?_⟩
    · exact ⟨by unfold fX11_isSign; rw [if_neg (fun z_ => z_ c1), if_pos c2], rfl⟩
    · exact ⟨by unfold fX11_isSign; rw [if_neg (fun z_ => z_ c1), if_neg (fun z_ => z_ c2)], rfl⟩
theorem dX11_lawKind_0 : decode cX11_lawKind 0 = .ok (.aload_n 0, 1) := by decide +kernel
theorem dX11_lawKind_1 : decode cX11_lawKind 1 = .ok (.getfield 145, 3) := by decide +kernel
theorem dX11_lawKind_4 : decode cX11_lawKind 4 = .ok (.iconst 1, 1) := by decide +kernel
theorem dX11_lawKind_5 : decode cX11_lawKind 5 = .ok (.if_icmp .ne 25, 3) := by decide +kernel
theorem dX11_lawKind_8 : decode cX11_lawKind 8 = .ok (.aload_n 0, 1) := by decide +kernel
theorem dX11_lawKind_9 : decode cX11_lawKind 9 = .ok (.getfield 156, 3) := by decide +kernel
theorem dX11_lawKind_12 : decode cX11_lawKind 12 = .ok (.bipush 10, 2) := by decide +kernel
theorem dX11_lawKind_14 : decode cX11_lawKind 14 = .ok (.bipush 12, 2) := by decide +kernel
theorem dX11_lawKind_16 : decode cX11_lawKind 16 = .ok (.invokestatic 171, 3) := by decide +kernel
theorem dX11_lawKind_19 : decode cX11_lawKind 19 = .ok (.ifCond .eq 11, 3) := by decide +kernel
theorem dX11_lawKind_22 : decode cX11_lawKind 22 = .ok (.aload_n 0, 1) := by decide +kernel
theorem dX11_lawKind_23 : decode cX11_lawKind 23 = .ok (.getfield 156, 3) := by decide +kernel
theorem dX11_lawKind_26 : decode cX11_lawKind 26 = .ok (.bipush 10, 2) := by decide +kernel
theorem dX11_lawKind_28 : decode cX11_lawKind 28 = .ok (.isub, 1) := by decide +kernel
theorem dX11_lawKind_29 : decode cX11_lawKind 29 = .ok (.ireturn, 1) := by decide +kernel
theorem dX11_lawKind_30 : decode cX11_lawKind 30 = .ok (.aload_n 0, 1) := by decide +kernel
theorem dX11_lawKind_31 : decode cX11_lawKind 31 = .ok (.iconst 1, 1) := by decide +kernel
theorem dX11_lawKind_32 : decode cX11_lawKind 32 = .ok (.invokevirtual 168, 3) := by decide +kernel
theorem dX11_lawKind_35 : decode cX11_lawKind 35 = .ok (.pop, 1) := by decide +kernel
theorem dX11_lawKind_36 : decode cX11_lawKind 36 = .ok (.iconst (-1), 1) := by decide +kernel
theorem dX11_lawKind_37 : decode cX11_lawKind 37 = .ok (.ireturn, 1) := by decide +kernel
set_option maxRecDepth 10000 in
theorem vX11_lawKind_0 {κ : eg_K} {d : Nat} (hd : 1 ≤ d) {post : Int32 → eg_H → Prop} (M : eg_H)  (h : ((¬ (M.1 (60, 0) 8) = (1 : Int32)) → post (-1 : Int32) (fX11_wrong M (1 : Int32)).2) ∧ ((M.1 (60, 0) 8) = (1 : Int32) → ((fX11_isIn M (M.1 (60, 0) 9) (10 : Int32) (12 : Int32)) = 0 → post (-1 : Int32) (fX11_wrong M (1 : Int32)).2) ∧ ((¬ (fX11_isIn M (M.1 (60, 0) 9) (10 : Int32) (12 : Int32)) = 0) → post ((M.1 (60, 0) 9) - (10 : Int32)) M))) : eg_W κ gM mtX11_lawKind d (eQI κ gM post) 0 [(0, vR (60, 0))] [] M := by
  refine eg_aload_n 0 dX11_lawKind_0 rfl rfl ?_
  refine eg_getI dX11_lawKind_1 fl_11_145 rfl trivial (obM_60 z1) ?_
  refine eg_iconst dX11_lawKind_4 ic_1 ?_
  refine eg_icmp_ne (tgt := 30) dX11_lawKind_5 rfl (fun c1 => ?_) (fun c1 => ?_)
  · have h := h.1 c1
    refine eg_aload_n 0 dX11_lawKind_30 rfl rfl ?_
    refine eg_iconst dX11_lawKind_31 ic_1 ?_
    refine eg_callVI (av := [vI (1 : Int32)]) (st := []) dX11_lawKind_32 ml_11_168 rfl rfl (obM_60 z1) (by decide) rfl (Nat.le_of_ble_eq_true rfl) (eg_dd (by omega)) (sX11_wrong (by omega) M (1 : Int32)  ) (fun x3 M2 eM2 => ?_)
    rw [show x3 = _ from congrArg Prod.fst eM2, show M2 = _ from congrArg Prod.snd eM2]
    refine eg_pop dX11_lawKind_35 rfl ?_
    refine eg_iconst dX11_lawKind_36 ic_m1 ?_
    exact eg_ireturn dX11_lawKind_37 rfl h
  · have h := h.2 c1
    refine eg_aload_n 0 dX11_lawKind_8 rfl rfl ?_
    refine eg_getI dX11_lawKind_9 fl_11_156 rfl trivial (obM_60 z1) ?_
    refine eg_bipush dX11_lawKind_12 bp_10 ?_
    refine eg_bipush dX11_lawKind_14 bp_12 ?_
    refine eg_callSI (av := [vI (M.1 (60, 0) 9), vI (10 : Int32), vI (12 : Int32)]) (st := []) dX11_lawKind_16 ml_11_171 rfl rfl (Nat.le_of_ble_eq_true rfl) (eg_dd (by omega)) (sX11_isIn (by omega) M (M.1 (60, 0) 9) (10 : Int32) (12 : Int32)  ) (fun x5 M4 hp => ?_)
    rw [hp.1, hp.2]
    refine eg_if_eq (tgt := 30) dX11_lawKind_19 rfl (fun c6 => ?_) (fun c6 => ?_)
    · have h := h.1 c6
      refine eg_aload_n 0 dX11_lawKind_30 rfl rfl ?_
      refine eg_iconst dX11_lawKind_31 ic_1 ?_
      refine eg_callVI (av := [vI (1 : Int32)]) (st := []) dX11_lawKind_32 ml_11_168 rfl rfl (obM_60 z1) (by decide) rfl (Nat.le_of_ble_eq_true rfl) (eg_dd (by omega)) (sX11_wrong (by omega) M (1 : Int32)  ) (fun x8 M7 eM7 => ?_)
      rw [show x8 = _ from congrArg Prod.fst eM7, show M7 = _ from congrArg Prod.snd eM7]
      refine eg_pop dX11_lawKind_35 rfl ?_
      refine eg_iconst dX11_lawKind_36 ic_m1 ?_
      exact eg_ireturn dX11_lawKind_37 rfl h
    · have h := h.2 c6
      refine eg_aload_n 0 dX11_lawKind_22 rfl rfl ?_
      refine eg_getI dX11_lawKind_23 fl_11_156 rfl trivial (obM_60 z1) ?_
      refine eg_bipush dX11_lawKind_26 bp_10 ?_
      refine eg_isub dX11_lawKind_28 ?_
      exact eg_ireturn dX11_lawKind_29 rfl h
def fX11_lawKind (M : eg_H)  : Int32 × eg_H := (if (¬ (M.1 (60, 0) 8) = (1 : Int32)) then ((-1 : Int32), (fX11_wrong M (1 : Int32)).2) else (if (fX11_isIn M (M.1 (60, 0) 9) (10 : Int32) (12 : Int32)) = 0 then ((-1 : Int32), (fX11_wrong M (1 : Int32)).2) else (((M.1 (60, 0) 9) - (10 : Int32)), M)))
set_option maxRecDepth 10000 in
theorem sX11_lawKind {κ : eg_K} {d : Nat} (hd : 1 ≤ d) (M : eg_H)    : eg_S κ gM mtX11_lawKind d [vR (60, 0)] M (eQI κ gM (fun r M1 => (r, M1) = fX11_lawKind M)) := by
  refine eg_S.of rfl (Nat.le_of_ble_eq_true rfl) (vX11_lawKind_0 (by omega) M  ?_)
  refine ⟨fun c1 => ?_, fun c1 => ?_⟩
  · show _ = _
    exact (by unfold fX11_lawKind; rw [if_pos c1])
  · refine ⟨fun c2 => ?_, fun c2 => ?_⟩
    · show _ = _
      exact (by unfold fX11_lawKind; rw [if_neg (fun z_ => z_ c1), if_pos c2])
    · show _ = _
      exact (by unfold fX11_lawKind; rw [if_neg (fun z_ => z_ c1), if_neg c2])
theorem dX11_fault_0 : decode cX11_fault 0 = .ok (.aload_n 0, 1) := by decide +kernel
theorem dX11_fault_1 : decode cX11_fault 1 = .ok (.iconst 0, 1) := by decide +kernel
theorem dX11_fault_2 : decode cX11_fault 2 = .ok (.putfield 127, 3) := by decide +kernel
theorem dX11_fault_5 : decode cX11_fault 5 = .ok (.iload_n 1, 1) := by decide +kernel
theorem dX11_fault_6 : decode cX11_fault 6 = .ok (.ifCond .ne 10, 3) := by decide +kernel
theorem dX11_fault_9 : decode cX11_fault 9 = .ok (.aload_n 0, 1) := by decide +kernel
theorem dX11_fault_10 : decode cX11_fault 10 = .ok (.getfield 133, 3) := by decide +kernel
theorem dX11_fault_13 : decode cX11_fault 13 = .ok (.goto 16, 3) := by decide +kernel
theorem dX11_fault_16 : decode cX11_fault 16 = .ok (.iload_n 1, 1) := by decide +kernel
theorem dX11_fault_17 : decode cX11_fault 17 = .ok (.iconst 1, 1) := by decide +kernel
theorem dX11_fault_18 : decode cX11_fault 18 = .ok (.if_icmp .ne 10, 3) := by decide +kernel
theorem dX11_fault_21 : decode cX11_fault 21 = .ok (.aload_n 0, 1) := by decide +kernel
theorem dX11_fault_22 : decode cX11_fault 22 = .ok (.getfield 16, 3) := by decide +kernel
theorem dX11_fault_25 : decode cX11_fault 25 = .ok (.goto 4, 3) := by decide +kernel
theorem dX11_fault_28 : decode cX11_fault 28 = .ok (.iconst (-1), 1) := by decide +kernel
theorem dX11_fault_29 : decode cX11_fault 29 = .ok (.ireturn, 1) := by decide +kernel
set_option maxRecDepth 10000 in
theorem vX11_fault_0 {κ : eg_K} {d : Nat} {post : Int32 → eg_H → Prop} (M : eg_H) (l1 : Int32) (h : ((¬ l1 = 0) → ((¬ l1 = (1 : Int32)) → post (-1 : Int32) (sI M (60, 0) 2 (0 : Int32))) ∧ (l1 = (1 : Int32) → post ((sI M (60, 0) 2 (0 : Int32)).1 (60, 0) 5) (sI M (60, 0) 2 (0 : Int32)))) ∧ (l1 = 0 → post ((sI M (60, 0) 2 (0 : Int32)).1 (60, 0) 4) (sI M (60, 0) 2 (0 : Int32)))) : eg_W κ gM mtX11_fault d (eQI κ gM post) 0 [(0, vR (60, 0)), (1, vI l1)] [] M := by
  refine eg_aload_n 0 dX11_fault_0 rfl rfl ?_
  refine eg_iconst dX11_fault_1 ic_0 ?_
  refine eg_putI dX11_fault_2 fl_11_127 rfl rfl trivial (obM_60 z1) ?_
  refine eg_iload_n 1 dX11_fault_5 rfl rfl ?_
  refine eg_if_ne (tgt := 16) dX11_fault_6 rfl (fun c2 => ?_) (fun c2 => ?_)
  · have h := h.1 c2
    refine eg_iload_n 1 dX11_fault_16 rfl rfl ?_
    refine eg_iconst dX11_fault_17 ic_1 ?_
    refine eg_icmp_ne (tgt := 28) dX11_fault_18 rfl (fun c3 => ?_) (fun c3 => ?_)
    · have h := h.1 c3
      refine eg_iconst dX11_fault_28 ic_m1 ?_
      exact eg_ireturn dX11_fault_29 rfl h
    · have h := h.2 c3
      refine eg_aload_n 0 dX11_fault_21 rfl rfl ?_
      refine eg_getI dX11_fault_22 fl_11_16 rfl trivial (obM_60 z1) ?_
      refine eg_goto (tgt := 29) dX11_fault_25 rfl ?_
      exact eg_ireturn dX11_fault_29 rfl h
  · have h := h.2 c2
    refine eg_aload_n 0 dX11_fault_9 rfl rfl ?_
    refine eg_getI dX11_fault_10 fl_11_133 rfl trivial (obM_60 z1) ?_
    refine eg_goto (tgt := 29) dX11_fault_13 rfl ?_
    exact eg_ireturn dX11_fault_29 rfl h
def fX11_fault (M : eg_H) (l1 : Int32) : Int32 × eg_H := (if (¬ l1 = 0) then (if (¬ l1 = (1 : Int32)) then ((-1 : Int32), (sI M (60, 0) 2 (0 : Int32))) else (((sI M (60, 0) 2 (0 : Int32)).1 (60, 0) 5), (sI M (60, 0) 2 (0 : Int32)))) else (((sI M (60, 0) 2 (0 : Int32)).1 (60, 0) 4), (sI M (60, 0) 2 (0 : Int32))))
set_option maxRecDepth 10000 in
theorem sX11_fault {κ : eg_K} {d : Nat} (hd : 0 ≤ d) (M : eg_H) (l1 : Int32)   : eg_S κ gM mtX11_fault d [vR (60, 0), vI l1] M (eQI κ gM (fun r M1 => (r, M1) = fX11_fault M l1)) := by
  refine eg_S.of rfl (Nat.le_of_ble_eq_true rfl) (vX11_fault_0 M l1 ?_)
  refine ⟨fun c1 => ?_, fun c1 => ?_⟩
  · refine ⟨fun c2 => ?_, fun c2 => ?_⟩
    · show _ = _
      exact (by unfold fX11_fault; rw [if_pos c1, if_pos c2])
    · show _ = _
      exact (by unfold fX11_fault; rw [if_pos c1, if_neg (fun z_ => z_ c2)])
  · show _ = _
    exact (by unfold fX11_fault; rw [if_neg (fun z_ => z_ c1)])
theorem dX11_rank_0 : decode cX11_rank 0 = .ok (.iload_n 0, 1) := by decide +kernel
theorem dX11_rank_1 : decode cX11_rank 1 = .ok (.bipush 13, 2) := by decide +kernel
theorem dX11_rank_3 : decode cX11_rank 3 = .ok (.if_icmp .lt 8, 3) := by decide +kernel
theorem dX11_rank_6 : decode cX11_rank 6 = .ok (.bipush 6, 2) := by decide +kernel
theorem dX11_rank_8 : decode cX11_rank 8 = .ok (.goto 50, 3) := by decide +kernel
theorem dX11_rank_11 : decode cX11_rank 11 = .ok (.iload_n 0, 1) := by decide +kernel
theorem dX11_rank_12 : decode cX11_rank 12 = .ok (.bipush 11, 2) := by decide +kernel
theorem dX11_rank_14 : decode cX11_rank 14 = .ok (.if_icmp .lt 7, 3) := by decide +kernel
theorem dX11_rank_17 : decode cX11_rank 17 = .ok (.iconst 5, 1) := by decide +kernel
theorem dX11_rank_18 : decode cX11_rank 18 = .ok (.goto 40, 3) := by decide +kernel
theorem dX11_rank_21 : decode cX11_rank 21 = .ok (.iload_n 0, 1) := by decide +kernel
theorem dX11_rank_22 : decode cX11_rank 22 = .ok (.iconst 5, 1) := by decide +kernel
theorem dX11_rank_23 : decode cX11_rank 23 = .ok (.if_icmp .lt 7, 3) := by decide +kernel
theorem dX11_rank_26 : decode cX11_rank 26 = .ok (.iconst 4, 1) := by decide +kernel
theorem dX11_rank_27 : decode cX11_rank 27 = .ok (.goto 31, 3) := by decide +kernel
theorem dX11_rank_30 : decode cX11_rank 30 = .ok (.iload_n 0, 1) := by decide +kernel
theorem dX11_rank_31 : decode cX11_rank 31 = .ok (.iconst 2, 1) := by decide +kernel
theorem dX11_rank_32 : decode cX11_rank 32 = .ok (.if_icmp .ne 7, 3) := by decide +kernel
theorem dX11_rank_35 : decode cX11_rank 35 = .ok (.iconst 3, 1) := by decide +kernel
theorem dX11_rank_36 : decode cX11_rank 36 = .ok (.goto 22, 3) := by decide +kernel
theorem dX11_rank_39 : decode cX11_rank 39 = .ok (.iload_n 0, 1) := by decide +kernel
theorem dX11_rank_40 : decode cX11_rank 40 = .ok (.iconst 3, 1) := by decide +kernel
theorem dX11_rank_41 : decode cX11_rank 41 = .ok (.if_icmp .ne 7, 3) := by decide +kernel
theorem dX11_rank_44 : decode cX11_rank 44 = .ok (.iconst 2, 1) := by decide +kernel
theorem dX11_rank_45 : decode cX11_rank 45 = .ok (.goto 13, 3) := by decide +kernel
theorem dX11_rank_48 : decode cX11_rank 48 = .ok (.iload_n 0, 1) := by decide +kernel
theorem dX11_rank_49 : decode cX11_rank 49 = .ok (.iconst 4, 1) := by decide +kernel
theorem dX11_rank_50 : decode cX11_rank 50 = .ok (.if_icmp .ne 7, 3) := by decide +kernel
theorem dX11_rank_53 : decode cX11_rank 53 = .ok (.iconst 1, 1) := by decide +kernel
theorem dX11_rank_54 : decode cX11_rank 54 = .ok (.goto 4, 3) := by decide +kernel
theorem dX11_rank_57 : decode cX11_rank 57 = .ok (.iconst 0, 1) := by decide +kernel
theorem dX11_rank_58 : decode cX11_rank 58 = .ok (.ireturn, 1) := by decide +kernel
set_option maxRecDepth 10000 in
theorem vX11_rank_0 {κ : eg_K} {d : Nat} {post : Int32 → eg_H → Prop} (M : eg_H) (l0 : Int32) (h : (l0 < (13 : Int32) → (l0 < (11 : Int32) → (l0 < (5 : Int32) → ((¬ l0 = (2 : Int32)) → ((¬ l0 = (3 : Int32)) → ((¬ l0 = (4 : Int32)) → post (0 : Int32) M) ∧ (l0 = (4 : Int32) → post (1 : Int32) M)) ∧ (l0 = (3 : Int32) → post (2 : Int32) M)) ∧ (l0 = (2 : Int32) → post (3 : Int32) M)) ∧ ((¬ l0 < (5 : Int32)) → post (4 : Int32) M)) ∧ ((¬ l0 < (11 : Int32)) → post (5 : Int32) M)) ∧ ((¬ l0 < (13 : Int32)) → post (6 : Int32) M)) : eg_W κ gM mtX11_rank d (eQI κ gM post) 0 [(0, vI l0)] [] M := by
  refine eg_iload_n 0 dX11_rank_0 rfl rfl ?_
  refine eg_bipush dX11_rank_1 bp_13 ?_
  refine eg_icmp_lt (tgt := 11) dX11_rank_3 rfl (fun c1 => ?_) (fun c1 => ?_)
  · have h := h.1 c1
    refine eg_iload_n 0 dX11_rank_11 rfl rfl ?_
    refine eg_bipush dX11_rank_12 bp_11 ?_
    refine eg_icmp_lt (tgt := 21) dX11_rank_14 rfl (fun c2 => ?_) (fun c2 => ?_)
    · have h := h.1 c2
      refine eg_iload_n 0 dX11_rank_21 rfl rfl ?_
      refine eg_iconst dX11_rank_22 ic_5 ?_
      refine eg_icmp_lt (tgt := 30) dX11_rank_23 rfl (fun c3 => ?_) (fun c3 => ?_)
      · have h := h.1 c3
        refine eg_iload_n 0 dX11_rank_30 rfl rfl ?_
        refine eg_iconst dX11_rank_31 ic_2 ?_
        refine eg_icmp_ne (tgt := 39) dX11_rank_32 rfl (fun c4 => ?_) (fun c4 => ?_)
        · have h := h.1 c4
          refine eg_iload_n 0 dX11_rank_39 rfl rfl ?_
          refine eg_iconst dX11_rank_40 ic_3 ?_
          refine eg_icmp_ne (tgt := 48) dX11_rank_41 rfl (fun c5 => ?_) (fun c5 => ?_)
          · have h := h.1 c5
            refine eg_iload_n 0 dX11_rank_48 rfl rfl ?_
            refine eg_iconst dX11_rank_49 ic_4 ?_
            refine eg_icmp_ne (tgt := 57) dX11_rank_50 rfl (fun c6 => ?_) (fun c6 => ?_)
            · have h := h.1 c6
              refine eg_iconst dX11_rank_57 ic_0 ?_
              exact eg_ireturn dX11_rank_58 rfl h
            · have h := h.2 c6
              refine eg_iconst dX11_rank_53 ic_1 ?_
              refine eg_goto (tgt := 58) dX11_rank_54 rfl ?_
              exact eg_ireturn dX11_rank_58 rfl h
          · have h := h.2 c5
            refine eg_iconst dX11_rank_44 ic_2 ?_
            refine eg_goto (tgt := 58) dX11_rank_45 rfl ?_
            exact eg_ireturn dX11_rank_58 rfl h
        · have h := h.2 c4
          refine eg_iconst dX11_rank_35 ic_3 ?_
          refine eg_goto (tgt := 58) dX11_rank_36 rfl ?_
          exact eg_ireturn dX11_rank_58 rfl h
      · have h := h.2 c3
        refine eg_iconst dX11_rank_26 ic_4 ?_
        refine eg_goto (tgt := 58) dX11_rank_27 rfl ?_
        exact eg_ireturn dX11_rank_58 rfl h
    · have h := h.2 c2
      refine eg_iconst dX11_rank_17 ic_5 ?_
      refine eg_goto (tgt := 58) dX11_rank_18 rfl ?_
      exact eg_ireturn dX11_rank_58 rfl h
  · have h := h.2 c1
    refine eg_bipush dX11_rank_6 bp_6 ?_
    refine eg_goto (tgt := 58) dX11_rank_8 rfl ?_
    exact eg_ireturn dX11_rank_58 rfl h
def fX11_rank (M : eg_H) (l0 : Int32) : Int32 := (if l0 < (13 : Int32) then (if l0 < (11 : Int32) then (if l0 < (5 : Int32) then (if (¬ l0 = (2 : Int32)) then (if (¬ l0 = (3 : Int32)) then (if (¬ l0 = (4 : Int32)) then (0 : Int32) else (1 : Int32)) else (2 : Int32)) else (3 : Int32)) else (4 : Int32)) else (5 : Int32)) else (6 : Int32))
set_option maxRecDepth 10000 in
theorem sX11_rank {κ : eg_K} {d : Nat} (hd : 0 ≤ d) (M : eg_H) (l0 : Int32)   : eg_S κ gM mtX11_rank d [vI l0] M (eQI κ gM (fun r M1 => r = fX11_rank M l0 ∧ M1 = M)) := by
  refine eg_S.of rfl (Nat.le_of_ble_eq_true rfl) (vX11_rank_0 M l0 ?_)
  refine ⟨fun c1 => ?_, fun c1 => ?_⟩
  · refine ⟨fun c2 => ?_, fun c2 => ?_⟩
    · refine ⟨fun c3 => ?_, fun c3 => ?_⟩
      · refine ⟨fun c4 => ?_, fun c4 => ?_⟩
        · refine ⟨fun c5 => ?_, fun c5 => ?_⟩
          · refine ⟨fun c6 => ?_, fun c6 => ?_⟩
            · exact ⟨by unfold fX11_rank; rw [if_pos c1, if_pos c2, if_pos c3, if_pos c4, if_pos c5, if_pos c6], rfl⟩
            · exact ⟨by unfold fX11_rank; rw [if_pos c1, if_pos c2, if_pos c3, if_pos c4, if_pos c5, if_neg (fun z_ => z_ c6)], rfl⟩
          · exact ⟨by unfold fX11_rank; rw [if_pos c1, if_pos c2, if_pos c3, if_pos c4, if_neg (fun z_ => z_ c5)], rfl⟩
        · exact ⟨by unfold fX11_rank; rw [if_pos c1, if_pos c2, if_pos c3, if_neg (fun z_ => z_ c4)], rfl⟩
      · exact ⟨by unfold fX11_rank; rw [if_pos c1, if_pos c2, if_neg c3], rfl⟩
    · exact ⟨by unfold fX11_rank; rw [if_pos c1, if_neg c2], rfl⟩
  · exact ⟨by unfold fX11_rank; rw [if_neg c1], rfl⟩
theorem dX11_dropHeld_0 : decode cX11_dropHeld 0 = .ok (.aload_n 0, 1) := by decide +kernel
theorem dX11_dropHeld_1 : decode cX11_dropHeld 1 = .ok (.dup, 1) := by decide +kernel
theorem dX11_dropHeld_2 : decode cX11_dropHeld 2 = .ok (.getfield 297, 3) := by decide +kernel
theorem dX11_dropHeld_5 : decode cX11_dropHeld 5 = .ok (.iconst 1, 1) := by decide +kernel
theorem dX11_dropHeld_6 : decode cX11_dropHeld 6 = .ok (.isub, 1) := by decide +kernel
theorem dX11_dropHeld_7 : decode cX11_dropHeld 7 = .ok (.putfield 297, 3) := by decide +kernel
theorem dX11_dropHeld_10 : decode cX11_dropHeld 10 = .ok (.aload_n 0, 1) := by decide +kernel
theorem dX11_dropHeld_11 : decode cX11_dropHeld 11 = .ok (.getfield 66, 3) := by decide +kernel
theorem dX11_dropHeld_14 : decode cX11_dropHeld 14 = .ok (.aload_n 0, 1) := by decide +kernel
theorem dX11_dropHeld_15 : decode cX11_dropHeld 15 = .ok (.getfield 297, 3) := by decide +kernel
theorem dX11_dropHeld_18 : decode cX11_dropHeld 18 = .ok (.iaload, 1) := by decide +kernel
theorem dX11_dropHeld_19 : decode cX11_dropHeld 19 = .ok (.ireturn, 1) := by decide +kernel
set_option maxRecDepth 10000 in
theorem vX11_dropHeld_0 {κ : eg_K} {d : Nat} {post : Int32 → eg_H → Prop} (M : eg_H)  (h : (vp_in ((sI M (60, 0) 44 ((M.1 (60, 0) 44) - (1 : Int32))).1 (60, 0) 44) 96 ∧ post ((sI M (60, 0) 44 ((M.1 (60, 0) 44) - (1 : Int32))).1 (103, 0) ((sI M (60, 0) 44 ((M.1 (60, 0) 44) - (1 : Int32))).1 (60, 0) 44).toNatClampNeg) (sI M (60, 0) 44 ((M.1 (60, 0) 44) - (1 : Int32))))) : eg_W κ gM mtX11_dropHeld d (eQI κ gM post) 0 [(0, vR (60, 0))] [] M := by
  refine eg_aload_n 0 dX11_dropHeld_0 rfl rfl ?_
  refine eg_dup dX11_dropHeld_1 rfl ?_
  refine eg_getI dX11_dropHeld_2 fl_11_297 rfl trivial (obM_60 z1) ?_
  refine eg_iconst dX11_dropHeld_5 ic_1 ?_
  refine eg_isub dX11_dropHeld_6 ?_
  refine eg_putI dX11_dropHeld_7 fl_11_297 rfl rfl trivial (obM_60 z1) ?_
  refine eg_aload_n 0 dX11_dropHeld_10 rfl rfl ?_
  refine eg_getR dX11_dropHeld_11 fl_11_66 rfl rfl (obM_60 z1) ?_
  show eg_W κ gM mtX11_dropHeld d (eQI κ gM post) 14 [(0, vR (60, 0))] [vR (103, 0)] (sI M (60, 0) 44 ((M.1 (60, 0) 44) - (1 : Int32)))
  refine eg_aload_n 0 dX11_dropHeld_14 rfl rfl ?_
  refine eg_getI dX11_dropHeld_15 fl_11_297 rfl trivial (obM_60 z1) ?_
  obtain ⟨g2, h⟩ := h
  refine eg_iaload dX11_dropHeld_18 (arM_103 z1 g2) ?_
  exact eg_ireturn dX11_dropHeld_19 rfl h
def fX11_dropHeld (M : eg_H)  : Int32 × eg_H := (((sI M (60, 0) 44 ((M.1 (60, 0) 44) - (1 : Int32))).1 (103, 0) ((sI M (60, 0) 44 ((M.1 (60, 0) 44) - (1 : Int32))).1 (60, 0) 44).toNatClampNeg), (sI M (60, 0) 44 ((M.1 (60, 0) 44) - (1 : Int32))))
def gX11_dropHeld (M : eg_H)  : Prop := (vp_in ((sI M (60, 0) 44 ((M.1 (60, 0) 44) - (1 : Int32))).1 (60, 0) 44) 96)
set_option maxRecDepth 10000 in
theorem sX11_dropHeld {κ : eg_K} {d : Nat} (hd : 0 ≤ d) (M : eg_H)   (hg : gX11_dropHeld M) : eg_S κ gM mtX11_dropHeld d [vR (60, 0)] M (eQI κ gM (fun r M1 => (r, M1) = fX11_dropHeld M)) := by
  unfold gX11_dropHeld at hg
  refine eg_S.of rfl (Nat.le_of_ble_eq_true rfl) (vX11_dropHeld_0 M  ?_)
  refine ⟨hg , ?_⟩
  show _ = _
  exact (rfl)
theorem dX11_isCounted_0 : decode cX11_isCounted 0 = .ok (.aload_n 0, 1) := by decide +kernel
theorem dX11_isCounted_1 : decode cX11_isCounted 1 = .ok (.getfield 193, 3) := by decide +kernel
theorem dX11_isCounted_4 : decode cX11_isCounted 4 = .ok (.bipush 64, 2) := by decide +kernel
theorem dX11_isCounted_6 : decode cX11_isCounted 6 = .ok (.if_icmp .ne 9, 3) := by decide +kernel
theorem dX11_isCounted_9 : decode cX11_isCounted 9 = .ok (.aload_n 0, 1) := by decide +kernel
theorem dX11_isCounted_10 : decode cX11_isCounted 10 = .ok (.iconst 2, 1) := by decide +kernel
theorem dX11_isCounted_11 : decode cX11_isCounted 11 = .ok (.invokevirtual 168, 3) := by decide +kernel
theorem dX11_isCounted_14 : decode cX11_isCounted 14 = .ok (.ireturn, 1) := by decide +kernel
theorem dX11_isCounted_15 : decode cX11_isCounted 15 = .ok (.aload_n 0, 1) := by decide +kernel
theorem dX11_isCounted_16 : decode cX11_isCounted 16 = .ok (.dup, 1) := by decide +kernel
theorem dX11_isCounted_17 : decode cX11_isCounted 17 = .ok (.getfield 193, 3) := by decide +kernel
theorem dX11_isCounted_20 : decode cX11_isCounted 20 = .ok (.iconst 1, 1) := by decide +kernel
theorem dX11_isCounted_21 : decode cX11_isCounted 21 = .ok (.iadd, 1) := by decide +kernel
theorem dX11_isCounted_22 : decode cX11_isCounted 22 = .ok (.putfield 193, 3) := by decide +kernel
theorem dX11_isCounted_25 : decode cX11_isCounted 25 = .ok (.iconst 1, 1) := by decide +kernel
theorem dX11_isCounted_26 : decode cX11_isCounted 26 = .ok (.ireturn, 1) := by decide +kernel
set_option maxRecDepth 10000 in
theorem vX11_isCounted_0 {κ : eg_K} {d : Nat} (hd : 1 ≤ d) {post : Int32 → eg_H → Prop} (M : eg_H)  (h : ((¬ (M.1 (60, 0) 46) = (64 : Int32)) → post (1 : Int32) (sI M (60, 0) 46 ((M.1 (60, 0) 46) + (1 : Int32)))) ∧ ((M.1 (60, 0) 46) = (64 : Int32) → post (fX11_wrong M (2 : Int32)).1 (fX11_wrong M (2 : Int32)).2)) : eg_W κ gM mtX11_isCounted d (eQI κ gM post) 0 [(0, vR (60, 0))] [] M := by
  refine eg_aload_n 0 dX11_isCounted_0 rfl rfl ?_
  refine eg_getI dX11_isCounted_1 fl_11_193 rfl trivial (obM_60 z1) ?_
  refine eg_bipush dX11_isCounted_4 bp_64 ?_
  refine eg_icmp_ne (tgt := 15) dX11_isCounted_6 rfl (fun c1 => ?_) (fun c1 => ?_)
  · have h := h.1 c1
    refine eg_aload_n 0 dX11_isCounted_15 rfl rfl ?_
    refine eg_dup dX11_isCounted_16 rfl ?_
    refine eg_getI dX11_isCounted_17 fl_11_193 rfl trivial (obM_60 z1) ?_
    refine eg_iconst dX11_isCounted_20 ic_1 ?_
    refine eg_iadd dX11_isCounted_21 ?_
    refine eg_putI dX11_isCounted_22 fl_11_193 rfl rfl trivial (obM_60 z1) ?_
    refine eg_iconst dX11_isCounted_25 ic_1 ?_
    exact eg_zreturn dX11_isCounted_26 rfl (Or.inr rfl) h
  · have h := h.2 c1
    refine eg_aload_n 0 dX11_isCounted_9 rfl rfl ?_
    refine eg_iconst dX11_isCounted_10 ic_2 ?_
    refine eg_callVI (av := [vI (2 : Int32)]) (st := []) dX11_isCounted_11 ml_11_168 rfl rfl (obM_60 z1) (by decide) rfl (Nat.le_of_ble_eq_true rfl) (eg_dd (by omega)) (sX11_wrong (by omega) M (2 : Int32)  ) (fun x4 M3 eM3 => ?_)
    rw [show x4 = _ from congrArg Prod.fst eM3, show M3 = _ from congrArg Prod.snd eM3]
    exact eg_zreturn dX11_isCounted_14 rfl (zX11_wrong M (2 : Int32)) h
def fX11_isCounted (M : eg_H)  : Int32 × eg_H := (if (¬ (M.1 (60, 0) 46) = (64 : Int32)) then ((1 : Int32), (sI M (60, 0) 46 ((M.1 (60, 0) 46) + (1 : Int32)))) else ((fX11_wrong M (2 : Int32)).1, (fX11_wrong M (2 : Int32)).2))
theorem zX11_isCounted (M : eg_H)  : (fX11_isCounted M ).1 = 0 ∨ (fX11_isCounted M ).1 = 1 := by
  unfold fX11_isCounted
  first | (repeat' split) <;> first | exact (Or.inr rfl) | exact (zX11_wrong M (2 : Int32))
set_option maxRecDepth 10000 in
theorem sX11_isCounted {κ : eg_K} {d : Nat} (hd : 1 ≤ d) (M : eg_H)    : eg_S κ gM mtX11_isCounted d [vR (60, 0)] M (eQI κ gM (fun r M1 => (r, M1) = fX11_isCounted M)) := by
  refine eg_S.of rfl (Nat.le_of_ble_eq_true rfl) (vX11_isCounted_0 (by omega) M  ?_)
  refine ⟨fun c1 => ?_, fun c1 => ?_⟩
  · show _ = _
    exact (by unfold fX11_isCounted; rw [if_pos c1])
  · show _ = _
    exact (by unfold fX11_isCounted; rw [if_neg (fun z_ => z_ c1)])
theorem dX11_waitsFor_0 : decode cX11_waitsFor 0 = .ok (.aload_n 0, 1) := by decide +kernel
theorem dX11_waitsFor_1 : decode cX11_waitsFor 1 = .ok (.getfield 63, 3) := by decide +kernel
theorem dX11_waitsFor_4 : decode cX11_waitsFor 4 = .ok (.aload_n 0, 1) := by decide +kernel
theorem dX11_waitsFor_5 : decode cX11_waitsFor 5 = .ok (.getfield 300, 3) := by decide +kernel
theorem dX11_waitsFor_8 : decode cX11_waitsFor 8 = .ok (.iload_n 1, 1) := by decide +kernel
theorem dX11_waitsFor_9 : decode cX11_waitsFor 9 = .ok (.iastore, 1) := by decide +kernel
theorem dX11_waitsFor_10 : decode cX11_waitsFor 10 = .ok (.aload_n 0, 1) := by decide +kernel
theorem dX11_waitsFor_11 : decode cX11_waitsFor 11 = .ok (.dup, 1) := by decide +kernel
theorem dX11_waitsFor_12 : decode cX11_waitsFor 12 = .ok (.getfield 300, 3) := by decide +kernel
theorem dX11_waitsFor_15 : decode cX11_waitsFor 15 = .ok (.iconst 1, 1) := by decide +kernel
theorem dX11_waitsFor_16 : decode cX11_waitsFor 16 = .ok (.iadd, 1) := by decide +kernel
theorem dX11_waitsFor_17 : decode cX11_waitsFor 17 = .ok (.putfield 300, 3) := by decide +kernel
theorem dX11_waitsFor_20 : decode cX11_waitsFor 20 = .ok (.return_, 1) := by decide +kernel
set_option maxRecDepth 10000 in
theorem vX11_waitsFor_0 {κ : eg_K} {d : Nat} {post : eg_H → Prop} (M : eg_H) (l1 : Int32) (h : (vp_in (M.1 (60, 0) 43) 96 ∧ post (sI (sI M (102, 0) (M.1 (60, 0) 43).toNatClampNeg l1) (60, 0) 43 (((sI M (102, 0) (M.1 (60, 0) 43).toNatClampNeg l1).1 (60, 0) 43) + (1 : Int32))))) : eg_W κ gM mtX11_waitsFor d (eQV κ gM post) 0 [(0, vR (60, 0)), (1, vI l1)] [] M := by
  refine eg_aload_n 0 dX11_waitsFor_0 rfl rfl ?_
  refine eg_getR dX11_waitsFor_1 fl_11_63 rfl rfl (obM_60 z1) ?_
  show eg_W κ gM mtX11_waitsFor d (eQV κ gM post) 4 [(0, vR (60, 0)), (1, vI l1)] [vR (102, 0)] M
  refine eg_aload_n 0 dX11_waitsFor_4 rfl rfl ?_
  refine eg_getI dX11_waitsFor_5 fl_11_300 rfl trivial (obM_60 z1) ?_
  refine eg_iload_n 1 dX11_waitsFor_8 rfl rfl ?_
  obtain ⟨g1, h⟩ := h
  refine eg_iastore dX11_waitsFor_9 (arM_102 z1 g1) ?_
  refine eg_aload_n 0 dX11_waitsFor_10 rfl rfl ?_
  refine eg_dup dX11_waitsFor_11 rfl ?_
  refine eg_getI dX11_waitsFor_12 fl_11_300 rfl trivial (obM_60 z1) ?_
  refine eg_iconst dX11_waitsFor_15 ic_1 ?_
  refine eg_iadd dX11_waitsFor_16 ?_
  refine eg_putI dX11_waitsFor_17 fl_11_300 rfl rfl trivial (obM_60 z1) ?_
  exact eg_vreturn dX11_waitsFor_20 rfl h
def fX11_waitsFor (M : eg_H) (l1 : Int32) : eg_H := (sI (sI M (102, 0) (M.1 (60, 0) 43).toNatClampNeg l1) (60, 0) 43 (((sI M (102, 0) (M.1 (60, 0) 43).toNatClampNeg l1).1 (60, 0) 43) + (1 : Int32)))
def gX11_waitsFor (M : eg_H) (l1 : Int32) : Prop := (vp_in (M.1 (60, 0) 43) 96)
set_option maxRecDepth 10000 in
theorem sX11_waitsFor {κ : eg_K} {d : Nat} (hd : 0 ≤ d) (M : eg_H) (l1 : Int32)  (hg : gX11_waitsFor M l1) : eg_S κ gM mtX11_waitsFor d [vR (60, 0), vI l1] M (eQV κ gM (fun M1 => M1 = fX11_waitsFor M l1)) := by
  unfold gX11_waitsFor at hg
  refine eg_S.of rfl (Nat.le_of_ble_eq_true rfl) (vX11_waitsFor_0 M l1 ?_)
  refine ⟨hg , ?_⟩
  show _ = _
  exact (rfl)
theorem dX11_has_0 : decode cX11_has 0 = .ok (.aload_n 0, 1) := by decide +kernel
theorem dX11_has_1 : decode cX11_has 1 = .ok (.getfield 23, 3) := by decide +kernel
theorem dX11_has_4 : decode cX11_has 4 = .ok (.bipush 6, 2) := by decide +kernel
theorem dX11_has_6 : decode cX11_has 6 = .ok (.iload_n 1, 1) := by decide +kernel
theorem dX11_has_7 : decode cX11_has 7 = .ok (.imul, 1) := by decide +kernel
theorem dX11_has_8 : decode cX11_has 8 = .ok (.iload_n 2, 1) := by decide +kernel
theorem dX11_has_9 : decode cX11_has 9 = .ok (.iadd, 1) := by decide +kernel
theorem dX11_has_10 : decode cX11_has 10 = .ok (.iaload, 1) := by decide +kernel
theorem dX11_has_11 : decode cX11_has 11 = .ok (.ireturn, 1) := by decide +kernel
set_option maxRecDepth 10000 in
theorem vX11_has_0 {κ : eg_K} {d : Nat} {post : Int32 → eg_H → Prop} (M : eg_H) (l1 : Int32) (l2 : Int32) (h : (vp_in (((6 : Int32) * l1) + l2) 60 ∧ post (M.1 (89, 0) (((6 : Int32) * l1) + l2).toNatClampNeg) M)) : eg_W κ gM mtX11_has d (eQI κ gM post) 0 [(0, vR (60, 0)), (1, vI l1), (2, vI l2)] [] M := by
  refine eg_aload_n 0 dX11_has_0 rfl rfl ?_
  refine eg_getR dX11_has_1 fl_11_23 rfl rfl (obM_60 z1) ?_
  show eg_W κ gM mtX11_has d (eQI κ gM post) 4 [(0, vR (60, 0)), (1, vI l1), (2, vI l2)] [vR (89, 0)] M
  refine eg_bipush dX11_has_4 bp_6 ?_
  refine eg_iload_n 1 dX11_has_6 rfl rfl ?_
  refine eg_imul dX11_has_7 ?_
  refine eg_iload_n 2 dX11_has_8 rfl rfl ?_
  refine eg_iadd dX11_has_9 ?_
  obtain ⟨g1, h⟩ := h
  refine eg_iaload dX11_has_10 (arM_89 z1 g1) ?_
  exact eg_ireturn dX11_has_11 rfl h
def fX11_has (M : eg_H) (l1 : Int32) (l2 : Int32) : Int32 := (M.1 (89, 0) (((6 : Int32) * l1) + l2).toNatClampNeg)
def gX11_has (M : eg_H) (l1 : Int32) (l2 : Int32) : Prop := (vp_in (((6 : Int32) * l1) + l2) 60)
set_option maxRecDepth 10000 in
theorem sX11_has {κ : eg_K} {d : Nat} (hd : 0 ≤ d) (M : eg_H) (l1 : Int32) (l2 : Int32)  (hg : gX11_has M l1 l2) : eg_S κ gM mtX11_has d [vR (60, 0), vI l1, vI l2] M (eQI κ gM (fun r M1 => r = fX11_has M l1 l2 ∧ M1 = M)) := by
  unfold gX11_has at hg
  refine eg_S.of rfl (Nat.le_of_ble_eq_true rfl) (vX11_has_0 M l1 l2 ?_)
  refine ⟨hg , ?_⟩
  exact ⟨rfl, rfl⟩
theorem dX11_portionsOf_0 : decode cX11_portionsOf 0 = .ok (.iload_n 1, 1) := by decide +kernel
theorem dX11_portionsOf_1 : decode cX11_portionsOf 1 = .ok (.aload_n 0, 1) := by decide +kernel
theorem dX11_portionsOf_2 : decode cX11_portionsOf 2 = .ok (.getfield 348, 3) := by decide +kernel
theorem dX11_portionsOf_5 : decode cX11_portionsOf 5 = .ok (.if_icmp .ne 10, 3) := by decide +kernel
theorem dX11_portionsOf_8 : decode cX11_portionsOf 8 = .ok (.aload_n 0, 1) := by decide +kernel
theorem dX11_portionsOf_9 : decode cX11_portionsOf 9 = .ok (.getfield 363, 3) := by decide +kernel
theorem dX11_portionsOf_12 : decode cX11_portionsOf 12 = .ok (.goto 9, 3) := by decide +kernel
theorem dX11_portionsOf_15 : decode cX11_portionsOf 15 = .ok (.aload_n 0, 1) := by decide +kernel
theorem dX11_portionsOf_16 : decode cX11_portionsOf 16 = .ok (.iload_n 1, 1) := by decide +kernel
theorem dX11_portionsOf_17 : decode cX11_portionsOf 17 = .ok (.iconst 2, 1) := by decide +kernel
theorem dX11_portionsOf_18 : decode cX11_portionsOf 18 = .ok (.invokevirtual 366, 3) := by decide +kernel
theorem dX11_portionsOf_21 : decode cX11_portionsOf 21 = .ok (.ireturn, 1) := by decide +kernel
set_option maxRecDepth 10000 in
theorem vX11_portionsOf_0 {κ : eg_K} {d : Nat} (hd : 1 ≤ d) {post : Int32 → eg_H → Prop} (M : eg_H) (l1 : Int32) (h : ((¬ l1 = (M.1 (60, 0) 57)) → (gX11_has M l1 (2 : Int32) ∧ post (fX11_has M l1 (2 : Int32)) M)) ∧ (l1 = (M.1 (60, 0) 57) → post (M.1 (60, 0) 58) M)) : eg_W κ gM mtX11_portionsOf d (eQI κ gM post) 0 [(0, vR (60, 0)), (1, vI l1)] [] M := by
  refine eg_iload_n 1 dX11_portionsOf_0 rfl rfl ?_
  refine eg_aload_n 0 dX11_portionsOf_1 rfl rfl ?_
  refine eg_getI dX11_portionsOf_2 fl_11_348 rfl trivial (obM_60 z1) ?_
  refine eg_icmp_ne (tgt := 15) dX11_portionsOf_5 rfl (fun c1 => ?_) (fun c1 => ?_)
  · have h := h.1 c1
    refine eg_aload_n 0 dX11_portionsOf_15 rfl rfl ?_
    refine eg_iload_n 1 dX11_portionsOf_16 rfl rfl ?_
    refine eg_iconst dX11_portionsOf_17 ic_2 ?_
    obtain ⟨g2, h⟩ := h
    refine eg_callVI (av := [vI l1, vI (2 : Int32)]) (st := []) dX11_portionsOf_18 ml_11_366 rfl rfl (obM_60 z1) (by decide) rfl (Nat.le_of_ble_eq_true rfl) (eg_dd (by omega)) (sX11_has (by omega) M l1 (2 : Int32)  g2) (fun x4 M3 hp => ?_)
    rw [hp.1, hp.2]
    exact eg_ireturn dX11_portionsOf_21 rfl h
  · have h := h.2 c1
    refine eg_aload_n 0 dX11_portionsOf_8 rfl rfl ?_
    refine eg_getI dX11_portionsOf_9 fl_11_363 rfl trivial (obM_60 z1) ?_
    refine eg_goto (tgt := 21) dX11_portionsOf_12 rfl ?_
    exact eg_ireturn dX11_portionsOf_21 rfl h
def fX11_portionsOf (M : eg_H) (l1 : Int32) : Int32 := (if (¬ l1 = (M.1 (60, 0) 57)) then (fX11_has M l1 (2 : Int32)) else (M.1 (60, 0) 58))
def gX11_portionsOf (M : eg_H) (l1 : Int32) : Prop := ((¬ l1 = (M.1 (60, 0) 57)) → gX11_has M l1 (2 : Int32))
set_option maxRecDepth 10000 in
theorem sX11_portionsOf {κ : eg_K} {d : Nat} (hd : 1 ≤ d) (M : eg_H) (l1 : Int32)  (hg : gX11_portionsOf M l1) : eg_S κ gM mtX11_portionsOf d [vR (60, 0), vI l1] M (eQI κ gM (fun r M1 => r = fX11_portionsOf M l1 ∧ M1 = M)) := by
  unfold gX11_portionsOf at hg
  refine eg_S.of rfl (Nat.le_of_ble_eq_true rfl) (vX11_portionsOf_0 (by omega) M l1 ?_)
  refine ⟨fun c1 => ?_, fun c1 => ?_⟩
  · refine ⟨hg c1, ?_⟩
    exact ⟨by unfold fX11_portionsOf; rw [if_pos c1], rfl⟩
  · exact ⟨by unfold fX11_portionsOf; rw [if_neg (fun z_ => z_ c1)], rfl⟩
theorem dX11_sizeOf_0 : decode cX11_sizeOf 0 = .ok (.aload_n 0, 1) := by decide +kernel
theorem dX11_sizeOf_1 : decode cX11_sizeOf 1 = .ok (.getfield 351, 3) := by decide +kernel
theorem dX11_sizeOf_4 : decode cX11_sizeOf 4 = .ok (.ifCond .le 10, 3) := by decide +kernel
theorem dX11_sizeOf_7 : decode cX11_sizeOf 7 = .ok (.aload_n 0, 1) := by decide +kernel
theorem dX11_sizeOf_8 : decode cX11_sizeOf 8 = .ok (.getfield 351, 3) := by decide +kernel
theorem dX11_sizeOf_11 : decode cX11_sizeOf 11 = .ok (.goto 9, 3) := by decide +kernel
theorem dX11_sizeOf_14 : decode cX11_sizeOf 14 = .ok (.aload_n 0, 1) := by decide +kernel
theorem dX11_sizeOf_15 : decode cX11_sizeOf 15 = .ok (.getfield 32, 3) := by decide +kernel
theorem dX11_sizeOf_18 : decode cX11_sizeOf 18 = .ok (.iload_n 1, 1) := by decide +kernel
theorem dX11_sizeOf_19 : decode cX11_sizeOf 19 = .ok (.iaload, 1) := by decide +kernel
theorem dX11_sizeOf_20 : decode cX11_sizeOf 20 = .ok (.ireturn, 1) := by decide +kernel
set_option maxRecDepth 10000 in
theorem vX11_sizeOf_0 {κ : eg_K} {d : Nat} {post : Int32 → eg_H → Prop} (M : eg_H) (l1 : Int32) (h : ((M.1 (60, 0) 59) ≤ 0 → (vp_in l1 24 ∧ post (M.1 (92, 0) l1.toNatClampNeg) M)) ∧ ((¬ (M.1 (60, 0) 59) ≤ 0) → post (M.1 (60, 0) 59) M)) : eg_W κ gM mtX11_sizeOf d (eQI κ gM post) 0 [(0, vR (60, 0)), (1, vI l1)] [] M := by
  refine eg_aload_n 0 dX11_sizeOf_0 rfl rfl ?_
  refine eg_getI dX11_sizeOf_1 fl_11_351 rfl trivial (obM_60 z1) ?_
  refine eg_if_le (tgt := 14) dX11_sizeOf_4 rfl (fun c1 => ?_) (fun c1 => ?_)
  · have h := h.1 c1
    refine eg_aload_n 0 dX11_sizeOf_14 rfl rfl ?_
    refine eg_getR dX11_sizeOf_15 fl_11_32 rfl rfl (obM_60 z1) ?_
    show eg_W κ gM mtX11_sizeOf d (eQI κ gM post) 18 [(0, vR (60, 0)), (1, vI l1)] [vR (92, 0)] M
    refine eg_iload_n 1 dX11_sizeOf_18 rfl rfl ?_
    obtain ⟨g2, h⟩ := h
    refine eg_iaload dX11_sizeOf_19 (arM_92 z1 g2) ?_
    exact eg_ireturn dX11_sizeOf_20 rfl h
  · have h := h.2 c1
    refine eg_aload_n 0 dX11_sizeOf_7 rfl rfl ?_
    refine eg_getI dX11_sizeOf_8 fl_11_351 rfl trivial (obM_60 z1) ?_
    refine eg_goto (tgt := 20) dX11_sizeOf_11 rfl ?_
    exact eg_ireturn dX11_sizeOf_20 rfl h
def fX11_sizeOf (M : eg_H) (l1 : Int32) : Int32 := (if (M.1 (60, 0) 59) ≤ 0 then (M.1 (92, 0) l1.toNatClampNeg) else (M.1 (60, 0) 59))
def gX11_sizeOf (M : eg_H) (l1 : Int32) : Prop := ((M.1 (60, 0) 59) ≤ 0 → vp_in l1 24)
set_option maxRecDepth 10000 in
theorem sX11_sizeOf {κ : eg_K} {d : Nat} (hd : 0 ≤ d) (M : eg_H) (l1 : Int32)  (hg : gX11_sizeOf M l1) : eg_S κ gM mtX11_sizeOf d [vR (60, 0), vI l1] M (eQI κ gM (fun r M1 => r = fX11_sizeOf M l1 ∧ M1 = M)) := by
  unfold gX11_sizeOf at hg
  refine eg_S.of rfl (Nat.le_of_ble_eq_true rfl) (vX11_sizeOf_0 M l1 ?_)
  refine ⟨fun c1 => ?_, fun c1 => ?_⟩
  · refine ⟨hg c1, ?_⟩
    exact ⟨by unfold fX11_sizeOf; rw [if_pos c1], rfl⟩
  · exact ⟨by unfold fX11_sizeOf; rw [if_neg c1], rfl⟩
theorem dX11_everybody_0 : decode cX11_everybody 0 = .ok (.aload_n 0, 1) := by decide +kernel
theorem dX11_everybody_1 : decode cX11_everybody 1 = .ok (.getfield 212, 3) := by decide +kernel
theorem dX11_everybody_4 : decode cX11_everybody 4 = .ok (.aload_n 0, 1) := by decide +kernel
theorem dX11_everybody_5 : decode cX11_everybody 5 = .ok (.getfield 357, 3) := by decide +kernel
theorem dX11_everybody_8 : decode cX11_everybody 8 = .ok (.iadd, 1) := by decide +kernel
theorem dX11_everybody_9 : decode cX11_everybody 9 = .ok (.ireturn, 1) := by decide +kernel
set_option maxRecDepth 10000 in
theorem vX11_everybody_0 {κ : eg_K} {d : Nat} {post : Int32 → eg_H → Prop} (M : eg_H)  (h : post ((M.1 (60, 0) 13) + (M.1 (60, 0) 61)) M) : eg_W κ gM mtX11_everybody d (eQI κ gM post) 0 [(0, vR (60, 0))] [] M := by
  refine eg_aload_n 0 dX11_everybody_0 rfl rfl ?_
  refine eg_getI dX11_everybody_1 fl_11_212 rfl trivial (obM_60 z1) ?_
  refine eg_aload_n 0 dX11_everybody_4 rfl rfl ?_
  refine eg_getI dX11_everybody_5 fl_11_357 rfl trivial (obM_60 z1) ?_
  refine eg_iadd dX11_everybody_8 ?_
  exact eg_ireturn dX11_everybody_9 rfl h
def fX11_everybody (M : eg_H)  : Int32 := ((M.1 (60, 0) 13) + (M.1 (60, 0) 61))
set_option maxRecDepth 10000 in
theorem sX11_everybody {κ : eg_K} {d : Nat} (hd : 0 ≤ d) (M : eg_H)    : eg_S κ gM mtX11_everybody d [vR (60, 0)] M (eQI κ gM (fun r M1 => r = fX11_everybody M ∧ M1 = M)) := by
  refine eg_S.of rfl (Nat.le_of_ble_eq_true rfl) (vX11_everybody_0 M  ?_)
  exact ⟨rfl, rfl⟩
theorem dX11_at_0 : decode cX11_at 0 = .ok (.bipush 20, 2) := by decide +kernel
theorem dX11_at_2 : decode cX11_at 2 = .ok (.bipush 20, 2) := by decide +kernel
theorem dX11_at_4 : decode cX11_at 4 = .ok (.iload_n 0, 1) := by decide +kernel
theorem dX11_at_5 : decode cX11_at 5 = .ok (.imul, 1) := by decide +kernel
theorem dX11_at_6 : decode cX11_at 6 = .ok (.iadd, 1) := by decide +kernel
theorem dX11_at_7 : decode cX11_at 7 = .ok (.ireturn, 1) := by decide +kernel
set_option maxRecDepth 10000 in
theorem vX11_at_0 {κ : eg_K} {d : Nat} {post : Int32 → eg_H → Prop} (M : eg_H) (l0 : Int32) (h : post ((20 : Int32) + ((20 : Int32) * l0)) M) : eg_W κ gM mtX11_at d (eQI κ gM post) 0 [(0, vI l0)] [] M := by
  refine eg_bipush dX11_at_0 bp_20 ?_
  refine eg_bipush dX11_at_2 bp_20 ?_
  refine eg_iload_n 0 dX11_at_4 rfl rfl ?_
  refine eg_imul dX11_at_5 ?_
  refine eg_iadd dX11_at_6 ?_
  exact eg_ireturn dX11_at_7 rfl h
def fX11_at (M : eg_H) (l0 : Int32) : Int32 := ((20 : Int32) + ((20 : Int32) * l0))
set_option maxRecDepth 10000 in
theorem sX11_at {κ : eg_K} {d : Nat} (hd : 0 ≤ d) (M : eg_H) (l0 : Int32)   : eg_S κ gM mtX11_at d [vI l0] M (eQI κ gM (fun r M1 => r = fX11_at M l0 ∧ M1 = M)) := by
  refine eg_S.of rfl (Nat.le_of_ble_eq_true rfl) (vX11_at_0 M l0 ?_)
  exact ⟨rfl, rfl⟩
theorem dX11_pan_0 : decode cX11_pan 0 = .ok (.sipush 320, 3) := by decide +kernel
theorem dX11_pan_3 : decode cX11_pan 3 = .ok (.bipush 8, 2) := by decide +kernel
theorem dX11_pan_5 : decode cX11_pan 5 = .ok (.iload_n 0, 1) := by decide +kernel
theorem dX11_pan_6 : decode cX11_pan 6 = .ok (.imul, 1) := by decide +kernel
theorem dX11_pan_7 : decode cX11_pan 7 = .ok (.iadd, 1) := by decide +kernel
theorem dX11_pan_8 : decode cX11_pan 8 = .ok (.ireturn, 1) := by decide +kernel
set_option maxRecDepth 10000 in
theorem vX11_pan_0 {κ : eg_K} {d : Nat} {post : Int32 → eg_H → Prop} (M : eg_H) (l0 : Int32) (h : post ((320 : Int32) + ((8 : Int32) * l0)) M) : eg_W κ gM mtX11_pan d (eQI κ gM post) 0 [(0, vI l0)] [] M := by
  refine eg_sipush dX11_pan_0 sp_320 ?_
  refine eg_bipush dX11_pan_3 bp_8 ?_
  refine eg_iload_n 0 dX11_pan_5 rfl rfl ?_
  refine eg_imul dX11_pan_6 ?_
  refine eg_iadd dX11_pan_7 ?_
  exact eg_ireturn dX11_pan_8 rfl h
def fX11_pan (M : eg_H) (l0 : Int32) : Int32 := ((320 : Int32) + ((8 : Int32) * l0))
set_option maxRecDepth 10000 in
theorem sX11_pan {κ : eg_K} {d : Nat} (hd : 0 ≤ d) (M : eg_H) (l0 : Int32)   : eg_S κ gM mtX11_pan d [vI l0] M (eQI κ gM (fun r M1 => r = fX11_pan M l0 ∧ M1 = M)) := by
  refine eg_S.of rfl (Nat.le_of_ble_eq_true rfl) (vX11_pan_0 M l0 ?_)
  exact ⟨rfl, rfl⟩
theorem dX11_plateOf_0 : decode cX11_plateOf 0 = .ok (.aload_n 0, 1) := by decide +kernel
theorem dX11_plateOf_1 : decode cX11_plateOf 1 = .ok (.iload_n 1, 1) := by decide +kernel
theorem dX11_plateOf_2 : decode cX11_plateOf 2 = .ok (.invokevirtual 374, 3) := by decide +kernel
theorem dX11_plateOf_5 : decode cX11_plateOf 5 = .ok (.aload_n 0, 1) := by decide +kernel
theorem dX11_plateOf_6 : decode cX11_plateOf 6 = .ok (.getfield 69, 3) := by decide +kernel
theorem dX11_plateOf_9 : decode cX11_plateOf 9 = .ok (.iload_n 1, 1) := by decide +kernel
theorem dX11_plateOf_10 : decode cX11_plateOf 10 = .ok (.invokestatic 372, 3) := by decide +kernel
theorem dX11_plateOf_13 : decode cX11_plateOf 13 = .ok (.iconst 2, 1) := by decide +kernel
theorem dX11_plateOf_14 : decode cX11_plateOf 14 = .ok (.iadd, 1) := by decide +kernel
theorem dX11_plateOf_15 : decode cX11_plateOf 15 = .ok (.iaload, 1) := by decide +kernel
theorem dX11_plateOf_16 : decode cX11_plateOf 16 = .ok (.isub, 1) := by decide +kernel
theorem dX11_plateOf_17 : decode cX11_plateOf 17 = .ok (.ireturn, 1) := by decide +kernel
set_option maxRecDepth 10000 in
theorem vX11_plateOf_0 {κ : eg_K} {d : Nat} (hd : 1 ≤ d) {post : Int32 → eg_H → Prop} (M : eg_H) (l1 : Int32) (h : (gX11_sizeOf M l1 ∧ (vp_in ((fX11_at M l1) + (2 : Int32)) 366 ∧ post ((fX11_sizeOf M l1) - (M.1 (110, 0) ((fX11_at M l1) + (2 : Int32)).toNatClampNeg)) M))) : eg_W κ gM mtX11_plateOf d (eQI κ gM post) 0 [(0, vR (60, 0)), (1, vI l1)] [] M := by
  refine eg_aload_n 0 dX11_plateOf_0 rfl rfl ?_
  refine eg_iload_n 1 dX11_plateOf_1 rfl rfl ?_
  obtain ⟨g1, h⟩ := h
  refine eg_callVI (av := [vI l1]) (st := []) dX11_plateOf_2 ml_11_374 rfl rfl (obM_60 z1) (by decide) rfl (Nat.le_of_ble_eq_true rfl) (eg_dd (by omega)) (sX11_sizeOf (by omega) M l1  g1) (fun x3 M2 hp => ?_)
  rw [hp.1, hp.2]
  refine eg_aload_n 0 dX11_plateOf_5 rfl rfl ?_
  refine eg_getR dX11_plateOf_6 fl_11_69 rfl rfl (obM_60 z1) ?_
  show eg_W κ gM mtX11_plateOf d (eQI κ gM post) 9 [(0, vR (60, 0)), (1, vI l1)] [vR (110, 0), vI (fX11_sizeOf M l1)] M
  refine eg_iload_n 1 dX11_plateOf_9 rfl rfl ?_
  refine eg_callSI (av := [vI l1]) (st := [vR (110, 0), vI (fX11_sizeOf M l1)]) dX11_plateOf_10 ml_11_372 rfl rfl (Nat.le_of_ble_eq_true rfl) (eg_dd (by omega)) (sX11_at (by omega) M l1  ) (fun x5 M4 hp => ?_)
  rw [hp.1, hp.2]
  refine eg_iconst dX11_plateOf_13 ic_2 ?_
  refine eg_iadd dX11_plateOf_14 ?_
  obtain ⟨g6, h⟩ := h
  refine eg_iaload dX11_plateOf_15 (arM_110 z1 g6) ?_
  refine eg_isub dX11_plateOf_16 ?_
  exact eg_ireturn dX11_plateOf_17 rfl h
def fX11_plateOf (M : eg_H) (l1 : Int32) : Int32 := ((fX11_sizeOf M l1) - (M.1 (110, 0) ((fX11_at M l1) + (2 : Int32)).toNatClampNeg))
def gX11_plateOf (M : eg_H) (l1 : Int32) : Prop := (gX11_sizeOf M l1) ∧ (vp_in ((fX11_at M l1) + (2 : Int32)) 366)
set_option maxRecDepth 10000 in
theorem sX11_plateOf {κ : eg_K} {d : Nat} (hd : 1 ≤ d) (M : eg_H) (l1 : Int32)  (hg : gX11_plateOf M l1) : eg_S κ gM mtX11_plateOf d [vR (60, 0), vI l1] M (eQI κ gM (fun r M1 => r = fX11_plateOf M l1 ∧ M1 = M)) := by
  unfold gX11_plateOf at hg
  refine eg_S.of rfl (Nat.le_of_ble_eq_true rfl) (vX11_plateOf_0 (by omega) M l1 ?_)
  refine ⟨hg.1 , ?_⟩
  refine ⟨hg.2 , ?_⟩
  exact ⟨rfl, rfl⟩
theorem dX11_hasPan_0 : decode cX11_hasPan 0 = .ok (.aload_n 0, 1) := by decide +kernel
theorem dX11_hasPan_1 : decode cX11_hasPan 1 = .ok (.iload_n 1, 1) := by decide +kernel
theorem dX11_hasPan_2 : decode cX11_hasPan 2 = .ok (.iconst 2, 1) := by decide +kernel
theorem dX11_hasPan_3 : decode cX11_hasPan 3 = .ok (.invokevirtual 366, 3) := by decide +kernel
theorem dX11_hasPan_6 : decode cX11_hasPan 6 = .ok (.ifCond .lt 7, 3) := by decide +kernel
theorem dX11_hasPan_9 : decode cX11_hasPan 9 = .ok (.iconst 1, 1) := by decide +kernel
theorem dX11_hasPan_10 : decode cX11_hasPan 10 = .ok (.goto 4, 3) := by decide +kernel
theorem dX11_hasPan_13 : decode cX11_hasPan 13 = .ok (.iconst 0, 1) := by decide +kernel
theorem dX11_hasPan_14 : decode cX11_hasPan 14 = .ok (.ireturn, 1) := by decide +kernel
set_option maxRecDepth 10000 in
theorem vX11_hasPan_0 {κ : eg_K} {d : Nat} (hd : 1 ≤ d) {post : Int32 → eg_H → Prop} (M : eg_H) (l1 : Int32) (h : (gX11_has M l1 (2 : Int32) ∧ ((fX11_has M l1 (2 : Int32)) < 0 → post (0 : Int32) M) ∧ ((¬ (fX11_has M l1 (2 : Int32)) < 0) → post (1 : Int32) M))) : eg_W κ gM mtX11_hasPan d (eQI κ gM post) 0 [(0, vR (60, 0)), (1, vI l1)] [] M := by
  refine eg_aload_n 0 dX11_hasPan_0 rfl rfl ?_
  refine eg_iload_n 1 dX11_hasPan_1 rfl rfl ?_
  refine eg_iconst dX11_hasPan_2 ic_2 ?_
  obtain ⟨g1, h⟩ := h
  refine eg_callVI (av := [vI l1, vI (2 : Int32)]) (st := []) dX11_hasPan_3 ml_11_366 rfl rfl (obM_60 z1) (by decide) rfl (Nat.le_of_ble_eq_true rfl) (eg_dd (by omega)) (sX11_has (by omega) M l1 (2 : Int32)  g1) (fun x3 M2 hp => ?_)
  rw [hp.1, hp.2]
  refine eg_if_lt (tgt := 13) dX11_hasPan_6 rfl (fun c4 => ?_) (fun c4 => ?_)
  · have h := h.1 c4
    refine eg_iconst dX11_hasPan_13 ic_0 ?_
    exact eg_zreturn dX11_hasPan_14 rfl (Or.inl rfl) h
  · have h := h.2 c4
    refine eg_iconst dX11_hasPan_9 ic_1 ?_
    refine eg_goto (tgt := 14) dX11_hasPan_10 rfl ?_
    exact eg_zreturn dX11_hasPan_14 rfl (Or.inr rfl) h
def fX11_hasPan (M : eg_H) (l1 : Int32) : Int32 := (if (fX11_has M l1 (2 : Int32)) < 0 then (0 : Int32) else (1 : Int32))
def gX11_hasPan (M : eg_H) (l1 : Int32) : Prop := (gX11_has M l1 (2 : Int32))
theorem zX11_hasPan (M : eg_H) (l1 : Int32) : fX11_hasPan M l1 = 0 ∨ fX11_hasPan M l1 = 1 := by
  unfold fX11_hasPan
  exact (eg_zi (Or.inl rfl) (Or.inr rfl))
set_option maxRecDepth 10000 in
theorem sX11_hasPan {κ : eg_K} {d : Nat} (hd : 1 ≤ d) (M : eg_H) (l1 : Int32)  (hg : gX11_hasPan M l1) : eg_S κ gM mtX11_hasPan d [vR (60, 0), vI l1] M (eQI κ gM (fun r M1 => r = fX11_hasPan M l1 ∧ M1 = M)) := by
  unfold gX11_hasPan at hg
  refine eg_S.of rfl (Nat.le_of_ble_eq_true rfl) (vX11_hasPan_0 (by omega) M l1 ?_)
  refine ⟨hg , ?_⟩
  refine ⟨fun c1 => ?_, fun c1 => ?_⟩
  · exact ⟨by unfold fX11_hasPan; rw [if_pos c1], rfl⟩
  · exact ⟨by unfold fX11_hasPan; rw [if_neg c1], rfl⟩
theorem dX11_isStation_0 : decode cX11_isStation 0 = .ok (.iload_n 1, 1) := by decide +kernel
theorem dX11_isStation_1 : decode cX11_isStation 1 = .ok (.ifCond .lt 15, 3) := by decide +kernel
theorem dX11_isStation_4 : decode cX11_isStation 4 = .ok (.iload_n 1, 1) := by decide +kernel
theorem dX11_isStation_5 : decode cX11_isStation 5 = .ok (.aload_n 0, 1) := by decide +kernel
theorem dX11_isStation_6 : decode cX11_isStation 6 = .ok (.getfield 209, 3) := by decide +kernel
theorem dX11_isStation_9 : decode cX11_isStation 9 = .ok (.if_icmp .ge 7, 3) := by decide +kernel
theorem dX11_isStation_12 : decode cX11_isStation 12 = .ok (.iconst 1, 1) := by decide +kernel
theorem dX11_isStation_13 : decode cX11_isStation 13 = .ok (.goto 4, 3) := by decide +kernel
theorem dX11_isStation_16 : decode cX11_isStation 16 = .ok (.iconst 0, 1) := by decide +kernel
theorem dX11_isStation_17 : decode cX11_isStation 17 = .ok (.ireturn, 1) := by decide +kernel
set_option maxRecDepth 10000 in
theorem vX11_isStation_0 {κ : eg_K} {d : Nat} {post : Int32 → eg_H → Prop} (M : eg_H) (l1 : Int32) (h : (l1 < 0 → post (0 : Int32) M) ∧ ((¬ l1 < 0) → ((M.1 (60, 0) 12) ≤ l1 → post (0 : Int32) M) ∧ ((¬ (M.1 (60, 0) 12) ≤ l1) → post (1 : Int32) M))) : eg_W κ gM mtX11_isStation d (eQI κ gM post) 0 [(0, vR (60, 0)), (1, vI l1)] [] M := by
  refine eg_iload_n 1 dX11_isStation_0 rfl rfl ?_
  refine eg_if_lt (tgt := 16) dX11_isStation_1 rfl (fun c1 => ?_) (fun c1 => ?_)
  · have h := h.1 c1
    refine eg_iconst dX11_isStation_16 ic_0 ?_
    exact eg_zreturn dX11_isStation_17 rfl (Or.inl rfl) h
  · have h := h.2 c1
    refine eg_iload_n 1 dX11_isStation_4 rfl rfl ?_
    refine eg_aload_n 0 dX11_isStation_5 rfl rfl ?_
    refine eg_getI dX11_isStation_6 fl_11_209 rfl trivial (obM_60 z1) ?_
    refine eg_icmp_ge (tgt := 16) dX11_isStation_9 rfl (fun c2 => ?_) (fun c2 => ?_)
    · have h := h.1 c2
      refine eg_iconst dX11_isStation_16 ic_0 ?_
      exact eg_zreturn dX11_isStation_17 rfl (Or.inl rfl) h
    · have h := h.2 c2
      refine eg_iconst dX11_isStation_12 ic_1 ?_
      refine eg_goto (tgt := 17) dX11_isStation_13 rfl ?_
      exact eg_zreturn dX11_isStation_17 rfl (Or.inr rfl) h
def fX11_isStation (M : eg_H) (l1 : Int32) : Int32 := (if l1 < 0 then (0 : Int32) else (if (M.1 (60, 0) 12) ≤ l1 then (0 : Int32) else (1 : Int32)))
theorem zX11_isStation (M : eg_H) (l1 : Int32) : fX11_isStation M l1 = 0 ∨ fX11_isStation M l1 = 1 := by
  unfold fX11_isStation
  exact (eg_zi (Or.inl rfl) (eg_zi (Or.inl rfl) (Or.inr rfl)))
set_option maxRecDepth 10000 in
theorem sX11_isStation {κ : eg_K} {d : Nat} (hd : 0 ≤ d) (M : eg_H) (l1 : Int32)   : eg_S κ gM mtX11_isStation d [vR (60, 0), vI l1] M (eQI κ gM (fun r M1 => r = fX11_isStation M l1 ∧ M1 = M)) := by
  refine eg_S.of rfl (Nat.le_of_ble_eq_true rfl) (vX11_isStation_0 M l1 ?_)
  refine ⟨fun c1 => ?_, fun c1 => ?_⟩
  · exact ⟨by unfold fX11_isStation; rw [if_pos c1], rfl⟩
  · refine ⟨fun c2 => ?_, fun c2 => ?_⟩
    · exact ⟨by unfold fX11_isStation; rw [if_neg c1, if_pos c2], rfl⟩
    · exact ⟨by unfold fX11_isStation; rw [if_neg c1, if_neg c2], rfl⟩
theorem dX11_isGuest_0 : decode cX11_isGuest 0 = .ok (.iload_n 1, 1) := by decide +kernel
theorem dX11_isGuest_1 : decode cX11_isGuest 1 = .ok (.ifCond .lt 15, 3) := by decide +kernel
theorem dX11_isGuest_4 : decode cX11_isGuest 4 = .ok (.iload_n 1, 1) := by decide +kernel
theorem dX11_isGuest_5 : decode cX11_isGuest 5 = .ok (.aload_n 0, 1) := by decide +kernel
theorem dX11_isGuest_6 : decode cX11_isGuest 6 = .ok (.getfield 212, 3) := by decide +kernel
theorem dX11_isGuest_9 : decode cX11_isGuest 9 = .ok (.if_icmp .ge 7, 3) := by decide +kernel
theorem dX11_isGuest_12 : decode cX11_isGuest 12 = .ok (.iconst 1, 1) := by decide +kernel
theorem dX11_isGuest_13 : decode cX11_isGuest 13 = .ok (.goto 4, 3) := by decide +kernel
theorem dX11_isGuest_16 : decode cX11_isGuest 16 = .ok (.iconst 0, 1) := by decide +kernel
theorem dX11_isGuest_17 : decode cX11_isGuest 17 = .ok (.ireturn, 1) := by decide +kernel
set_option maxRecDepth 10000 in
theorem vX11_isGuest_0 {κ : eg_K} {d : Nat} {post : Int32 → eg_H → Prop} (M : eg_H) (l1 : Int32) (h : (l1 < 0 → post (0 : Int32) M) ∧ ((¬ l1 < 0) → ((M.1 (60, 0) 13) ≤ l1 → post (0 : Int32) M) ∧ ((¬ (M.1 (60, 0) 13) ≤ l1) → post (1 : Int32) M))) : eg_W κ gM mtX11_isGuest d (eQI κ gM post) 0 [(0, vR (60, 0)), (1, vI l1)] [] M := by
  refine eg_iload_n 1 dX11_isGuest_0 rfl rfl ?_
  refine eg_if_lt (tgt := 16) dX11_isGuest_1 rfl (fun c1 => ?_) (fun c1 => ?_)
  · have h := h.1 c1
    refine eg_iconst dX11_isGuest_16 ic_0 ?_
    exact eg_zreturn dX11_isGuest_17 rfl (Or.inl rfl) h
  · have h := h.2 c1
    refine eg_iload_n 1 dX11_isGuest_4 rfl rfl ?_
    refine eg_aload_n 0 dX11_isGuest_5 rfl rfl ?_
    refine eg_getI dX11_isGuest_6 fl_11_212 rfl trivial (obM_60 z1) ?_
    refine eg_icmp_ge (tgt := 16) dX11_isGuest_9 rfl (fun c2 => ?_) (fun c2 => ?_)
    · have h := h.1 c2
      refine eg_iconst dX11_isGuest_16 ic_0 ?_
      exact eg_zreturn dX11_isGuest_17 rfl (Or.inl rfl) h
    · have h := h.2 c2
      refine eg_iconst dX11_isGuest_12 ic_1 ?_
      refine eg_goto (tgt := 17) dX11_isGuest_13 rfl ?_
      exact eg_zreturn dX11_isGuest_17 rfl (Or.inr rfl) h
def fX11_isGuest (M : eg_H) (l1 : Int32) : Int32 := (if l1 < 0 then (0 : Int32) else (if (M.1 (60, 0) 13) ≤ l1 then (0 : Int32) else (1 : Int32)))
theorem zX11_isGuest (M : eg_H) (l1 : Int32) : fX11_isGuest M l1 = 0 ∨ fX11_isGuest M l1 = 1 := by
  unfold fX11_isGuest
  exact (eg_zi (Or.inl rfl) (eg_zi (Or.inl rfl) (Or.inr rfl)))
set_option maxRecDepth 10000 in
theorem sX11_isGuest {κ : eg_K} {d : Nat} (hd : 0 ≤ d) (M : eg_H) (l1 : Int32)   : eg_S κ gM mtX11_isGuest d [vR (60, 0), vI l1] M (eQI κ gM (fun r M1 => r = fX11_isGuest M l1 ∧ M1 = M)) := by
  refine eg_S.of rfl (Nat.le_of_ble_eq_true rfl) (vX11_isGuest_0 M l1 ?_)
  refine ⟨fun c1 => ?_, fun c1 => ?_⟩
  · exact ⟨by unfold fX11_isGuest; rw [if_pos c1], rfl⟩
  · refine ⟨fun c2 => ?_, fun c2 => ?_⟩
    · exact ⟨by unfold fX11_isGuest; rw [if_neg c1, if_pos c2], rfl⟩
    · exact ⟨by unfold fX11_isGuest; rw [if_neg c1, if_neg c2], rfl⟩
theorem dX11_isTime_0 : decode cX11_isTime 0 = .ok (.iload_n 0, 1) := by decide +kernel
theorem dX11_isTime_1 : decode cX11_isTime 1 = .ok (.iconst 0, 1) := by decide +kernel
theorem dX11_isTime_2 : decode cX11_isTime 2 = .ok (.sipush 3600, 3) := by decide +kernel
theorem dX11_isTime_5 : decode cX11_isTime 5 = .ok (.invokestatic 171, 3) := by decide +kernel
theorem dX11_isTime_8 : decode cX11_isTime 8 = .ok (.ireturn, 1) := by decide +kernel
set_option maxRecDepth 10000 in
theorem vX11_isTime_0 {κ : eg_K} {d : Nat} (hd : 1 ≤ d) {post : Int32 → eg_H → Prop} (M : eg_H) (l0 : Int32) (h : post (fX11_isIn M l0 (0 : Int32) (3600 : Int32)) M) : eg_W κ gM mtX11_isTime d (eQI κ gM post) 0 [(0, vI l0)] [] M := by
  refine eg_iload_n 0 dX11_isTime_0 rfl rfl ?_
  refine eg_iconst dX11_isTime_1 ic_0 ?_
  refine eg_sipush dX11_isTime_2 sp_3600 ?_
  refine eg_callSI (av := [vI l0, vI (0 : Int32), vI (3600 : Int32)]) (st := []) dX11_isTime_5 ml_11_171 rfl rfl (Nat.le_of_ble_eq_true rfl) (eg_dd (by omega)) (sX11_isIn (by omega) M l0 (0 : Int32) (3600 : Int32)  ) (fun x2 M1 hp => ?_)
  rw [hp.1, hp.2]
  exact eg_zreturn dX11_isTime_8 rfl (zX11_isIn M l0 (0 : Int32) (3600 : Int32)) h
def fX11_isTime (M : eg_H) (l0 : Int32) : Int32 := (fX11_isIn M l0 (0 : Int32) (3600 : Int32))
theorem zX11_isTime (M : eg_H) (l0 : Int32) : fX11_isTime M l0 = 0 ∨ fX11_isTime M l0 = 1 := by
  unfold fX11_isTime
  exact (zX11_isIn M l0 (0 : Int32) (3600 : Int32))
set_option maxRecDepth 10000 in
theorem sX11_isTime {κ : eg_K} {d : Nat} (hd : 1 ≤ d) (M : eg_H) (l0 : Int32)   : eg_S κ gM mtX11_isTime d [vI l0] M (eQI κ gM (fun r M1 => r = fX11_isTime M l0 ∧ M1 = M)) := by
  refine eg_S.of rfl (Nat.le_of_ble_eq_true rfl) (vX11_isTime_0 (by omega) M l0 ?_)
  exact ⟨rfl, rfl⟩
theorem dX11_isBound_0 : decode cX11_isBound 0 = .ok (.iload_n 0, 1) := by decide +kernel
theorem dX11_isBound_1 : decode cX11_isBound 1 = .ok (.iconst 0, 1) := by decide +kernel
theorem dX11_isBound_2 : decode cX11_isBound 2 = .ok (.ldc_w 471, 3) := by decide +kernel
theorem dX11_isBound_5 : decode cX11_isBound 5 = .ok (.invokestatic 171, 3) := by decide +kernel
theorem dX11_isBound_8 : decode cX11_isBound 8 = .ok (.ireturn, 1) := by decide +kernel
set_option maxRecDepth 10000 in
theorem vX11_isBound_0 {κ : eg_K} {d : Nat} (hd : 1 ≤ d) {post : Int32 → eg_H → Prop} (M : eg_H) (l0 : Int32) (h : post (fX11_isIn M l0 (0 : Int32) (99999 : Int32)) M) : eg_W κ gM mtX11_isBound d (eQI κ gM post) 0 [(0, vI l0)] [] M := by
  refine eg_iload_n 0 dX11_isBound_0 rfl rfl ?_
  refine eg_iconst dX11_isBound_1 ic_0 ?_
  refine eg_ldcw dX11_isBound_2 kc_11_471 ?_
  refine eg_callSI (av := [vI l0, vI (0 : Int32), vI (99999 : Int32)]) (st := []) dX11_isBound_5 ml_11_171 rfl rfl (Nat.le_of_ble_eq_true rfl) (eg_dd (by omega)) (sX11_isIn (by omega) M l0 (0 : Int32) (99999 : Int32)  ) (fun x2 M1 hp => ?_)
  rw [hp.1, hp.2]
  exact eg_zreturn dX11_isBound_8 rfl (zX11_isIn M l0 (0 : Int32) (99999 : Int32)) h
def fX11_isBound (M : eg_H) (l0 : Int32) : Int32 := (fX11_isIn M l0 (0 : Int32) (99999 : Int32))
theorem zX11_isBound (M : eg_H) (l0 : Int32) : fX11_isBound M l0 = 0 ∨ fX11_isBound M l0 = 1 := by
  unfold fX11_isBound
  exact (zX11_isIn M l0 (0 : Int32) (99999 : Int32))
set_option maxRecDepth 10000 in
theorem sX11_isBound {κ : eg_K} {d : Nat} (hd : 1 ≤ d) (M : eg_H) (l0 : Int32)   : eg_S κ gM mtX11_isBound d [vI l0] M (eQI κ gM (fun r M1 => r = fX11_isBound M l0 ∧ M1 = M)) := by
  refine eg_S.of rfl (Nat.le_of_ble_eq_true rfl) (vX11_isBound_0 (by omega) M l0 ?_)
  exact ⟨rfl, rfl⟩
theorem dX11_fails_0 : decode cX11_fails 0 = .ok (.aload_n 0, 1) := by decide +kernel
theorem dX11_fails_1 : decode cX11_fails 1 = .ok (.iload_n 1, 1) := by decide +kernel
theorem dX11_fails_2 : decode cX11_fails 2 = .ok (.putfield 127, 3) := by decide +kernel
theorem dX11_fails_5 : decode cX11_fails 5 = .ok (.iconst 0, 1) := by decide +kernel
theorem dX11_fails_6 : decode cX11_fails 6 = .ok (.ireturn, 1) := by decide +kernel
set_option maxRecDepth 10000 in
theorem vX11_fails_0 {κ : eg_K} {d : Nat} {post : Int32 → eg_H → Prop} (M : eg_H) (l1 : Int32) (h : post (0 : Int32) (sI M (60, 0) 2 l1)) : eg_W κ gM mtX11_fails d (eQI κ gM post) 0 [(0, vR (60, 0)), (1, vI l1)] [] M := by
  refine eg_aload_n 0 dX11_fails_0 rfl rfl ?_
  refine eg_iload_n 1 dX11_fails_1 rfl rfl ?_
  refine eg_putI dX11_fails_2 fl_11_127 rfl rfl trivial (obM_60 z1) ?_
  refine eg_iconst dX11_fails_5 ic_0 ?_
  exact eg_ireturn dX11_fails_6 rfl h
def fX11_fails (M : eg_H) (l1 : Int32) : Int32 × eg_H := ((0 : Int32), (sI M (60, 0) 2 l1))
set_option maxRecDepth 10000 in
theorem sX11_fails {κ : eg_K} {d : Nat} (hd : 0 ≤ d) (M : eg_H) (l1 : Int32)   : eg_S κ gM mtX11_fails d [vR (60, 0), vI l1] M (eQI κ gM (fun r M1 => (r, M1) = fX11_fails M l1)) := by
  refine eg_S.of rfl (Nat.le_of_ble_eq_true rfl) (vX11_fails_0 M l1 ?_)
  show _ = _
  exact (rfl)
theorem dX11_row_0 : decode cX11_row 0 = .ok (.aload_n 0, 1) := by decide +kernel
theorem dX11_row_1 : decode cX11_row 1 = .ok (.iconst 0, 1) := by decide +kernel
theorem dX11_row_2 : decode cX11_row 2 = .ok (.putfield 127, 3) := by decide +kernel
theorem dX11_row_5 : decode cX11_row 5 = .ok (.aload_n 0, 1) := by decide +kernel
theorem dX11_row_6 : decode cX11_row 6 = .ok (.iload_n 1, 1) := by decide +kernel
theorem dX11_row_7 : decode cX11_row 7 = .ok (.invokevirtual 478, 3) := by decide +kernel
theorem dX11_row_10 : decode cX11_row 10 = .ok (.ifCond .eq 16, 3) := by decide +kernel
theorem dX11_row_13 : decode cX11_row 13 = .ok (.aload_n 0, 1) := by decide +kernel
theorem dX11_row_14 : decode cX11_row 14 = .ok (.getfield 72, 3) := by decide +kernel
theorem dX11_row_17 : decode cX11_row 17 = .ok (.sipush 360, 3) := by decide +kernel
theorem dX11_row_20 : decode cX11_row 20 = .ok (.iload_n 1, 1) := by decide +kernel
theorem dX11_row_21 : decode cX11_row 21 = .ok (.iadd, 1) := by decide +kernel
theorem dX11_row_22 : decode cX11_row 22 = .ok (.iaload, 1) := by decide +kernel
theorem dX11_row_23 : decode cX11_row 23 = .ok (.goto 4, 3) := by decide +kernel
theorem dX11_row_26 : decode cX11_row 26 = .ok (.iconst (-1), 1) := by decide +kernel
theorem dX11_row_27 : decode cX11_row 27 = .ok (.ireturn, 1) := by decide +kernel
set_option maxRecDepth 10000 in
theorem vX11_row_0 {κ : eg_K} {d : Nat} (hd : 1 ≤ d) {post : Int32 → eg_H → Prop} (M : eg_H) (l1 : Int32) (h : ((fX11_isStation (sI M (60, 0) 2 (0 : Int32)) l1) = 0 → post (-1 : Int32) (sI M (60, 0) 2 (0 : Int32))) ∧ ((¬ (fX11_isStation (sI M (60, 0) 2 (0 : Int32)) l1) = 0) → (vp_in ((360 : Int32) + l1) 366 ∧ post ((sI M (60, 0) 2 (0 : Int32)).1 (111, 0) ((360 : Int32) + l1).toNatClampNeg) (sI M (60, 0) 2 (0 : Int32))))) : eg_W κ gM mtX11_row d (eQI κ gM post) 0 [(0, vR (60, 0)), (1, vI l1)] [] M := by
  refine eg_aload_n 0 dX11_row_0 rfl rfl ?_
  refine eg_iconst dX11_row_1 ic_0 ?_
  refine eg_putI dX11_row_2 fl_11_127 rfl rfl trivial (obM_60 z1) ?_
  refine eg_aload_n 0 dX11_row_5 rfl rfl ?_
  refine eg_iload_n 1 dX11_row_6 rfl rfl ?_
  refine eg_callVI (av := [vI l1]) (st := []) dX11_row_7 ml_11_478 rfl rfl (obM_60 z1) (by decide) rfl (Nat.le_of_ble_eq_true rfl) (eg_dd (by omega)) (sX11_isStation (by omega) (sI M (60, 0) 2 (0 : Int32)) l1  ) (fun x3 M2 hp => ?_)
  rw [hp.1, hp.2]
  refine eg_if_eq (tgt := 26) dX11_row_10 rfl (fun c4 => ?_) (fun c4 => ?_)
  · have h := h.1 c4
    refine eg_iconst dX11_row_26 ic_m1 ?_
    exact eg_ireturn dX11_row_27 rfl h
  · have h := h.2 c4
    refine eg_aload_n 0 dX11_row_13 rfl rfl ?_
    refine eg_getR dX11_row_14 fl_11_72 rfl rfl (obM_60 z1) ?_
    show eg_W κ gM mtX11_row d (eQI κ gM post) 17 [(0, vR (60, 0)), (1, vI l1)] [vR (111, 0)] (sI M (60, 0) 2 (0 : Int32))
    refine eg_sipush dX11_row_17 sp_360 ?_
    refine eg_iload_n 1 dX11_row_20 rfl rfl ?_
    refine eg_iadd dX11_row_21 ?_
    obtain ⟨g5, h⟩ := h
    refine eg_iaload dX11_row_22 (arM_111 z1 g5) ?_
    refine eg_goto (tgt := 27) dX11_row_23 rfl ?_
    exact eg_ireturn dX11_row_27 rfl h
def fX11_row (M : eg_H) (l1 : Int32) : Int32 × eg_H := (if (fX11_isStation (sI M (60, 0) 2 (0 : Int32)) l1) = 0 then ((-1 : Int32), (sI M (60, 0) 2 (0 : Int32))) else (((sI M (60, 0) 2 (0 : Int32)).1 (111, 0) ((360 : Int32) + l1).toNatClampNeg), (sI M (60, 0) 2 (0 : Int32))))
def gX11_row (M : eg_H) (l1 : Int32) : Prop := ((¬ (fX11_isStation (sI M (60, 0) 2 (0 : Int32)) l1) = 0) → vp_in ((360 : Int32) + l1) 366)
set_option maxRecDepth 10000 in
theorem sX11_row {κ : eg_K} {d : Nat} (hd : 1 ≤ d) (M : eg_H) (l1 : Int32)  (hg : gX11_row M l1) : eg_S κ gM mtX11_row d [vR (60, 0), vI l1] M (eQI κ gM (fun r M1 => (r, M1) = fX11_row M l1)) := by
  unfold gX11_row at hg
  refine eg_S.of rfl (Nat.le_of_ble_eq_true rfl) (vX11_row_0 (by omega) M l1 ?_)
  refine ⟨fun c1 => ?_, fun c1 => ?_⟩
  · show _ = _
    exact (by unfold fX11_row; rw [if_pos c1])
  · refine ⟨hg c1, ?_⟩
    show _ = _
    exact (by unfold fX11_row; rw [if_neg c1])
theorem dX11_line_0 : decode cX11_line 0 = .ok (.aload_n 0, 1) := by decide +kernel
theorem dX11_line_1 : decode cX11_line 1 = .ok (.iconst 0, 1) := by decide +kernel
theorem dX11_line_2 : decode cX11_line 2 = .ok (.putfield 127, 3) := by decide +kernel
theorem dX11_line_5 : decode cX11_line 5 = .ok (.iload_n 1, 1) := by decide +kernel
theorem dX11_line_6 : decode cX11_line 6 = .ok (.ifCond .lt 24, 3) := by decide +kernel
theorem dX11_line_9 : decode cX11_line 9 = .ok (.iload_n 1, 1) := by decide +kernel
theorem dX11_line_10 : decode cX11_line 10 = .ok (.aload_n 0, 1) := by decide +kernel
theorem dX11_line_11 : decode cX11_line 11 = .ok (.getfield 72, 3) := by decide +kernel
theorem dX11_line_14 : decode cX11_line 14 = .ok (.iconst 1, 1) := by decide +kernel
theorem dX11_line_15 : decode cX11_line 15 = .ok (.iaload, 1) := by decide +kernel
theorem dX11_line_16 : decode cX11_line 16 = .ok (.if_icmp .ge 14, 3) := by decide +kernel
theorem dX11_line_19 : decode cX11_line 19 = .ok (.aload_n 0, 1) := by decide +kernel
theorem dX11_line_20 : decode cX11_line 20 = .ok (.getfield 72, 3) := by decide +kernel
theorem dX11_line_23 : decode cX11_line 23 = .ok (.iconst 2, 1) := by decide +kernel
theorem dX11_line_24 : decode cX11_line 24 = .ok (.iload_n 1, 1) := by decide +kernel
theorem dX11_line_25 : decode cX11_line 25 = .ok (.iadd, 1) := by decide +kernel
theorem dX11_line_26 : decode cX11_line 26 = .ok (.iaload, 1) := by decide +kernel
theorem dX11_line_27 : decode cX11_line 27 = .ok (.goto 4, 3) := by decide +kernel
theorem dX11_line_30 : decode cX11_line 30 = .ok (.iconst (-1), 1) := by decide +kernel
theorem dX11_line_31 : decode cX11_line 31 = .ok (.ireturn, 1) := by decide +kernel
set_option maxRecDepth 10000 in
theorem vX11_line_0 {κ : eg_K} {d : Nat} {post : Int32 → eg_H → Prop} (M : eg_H) (l1 : Int32) (h : (l1 < 0 → post (-1 : Int32) (sI M (60, 0) 2 (0 : Int32))) ∧ ((¬ l1 < 0) → (vp_in (1 : Int32) 366 ∧ (((sI M (60, 0) 2 (0 : Int32)).1 (111, 0) (1 : Int32).toNatClampNeg) ≤ l1 → post (-1 : Int32) (sI M (60, 0) 2 (0 : Int32))) ∧ ((¬ ((sI M (60, 0) 2 (0 : Int32)).1 (111, 0) (1 : Int32).toNatClampNeg) ≤ l1) → (vp_in ((2 : Int32) + l1) 366 ∧ post ((sI M (60, 0) 2 (0 : Int32)).1 (111, 0) ((2 : Int32) + l1).toNatClampNeg) (sI M (60, 0) 2 (0 : Int32))))))) : eg_W κ gM mtX11_line d (eQI κ gM post) 0 [(0, vR (60, 0)), (1, vI l1)] [] M := by
  refine eg_aload_n 0 dX11_line_0 rfl rfl ?_
  refine eg_iconst dX11_line_1 ic_0 ?_
  refine eg_putI dX11_line_2 fl_11_127 rfl rfl trivial (obM_60 z1) ?_
  refine eg_iload_n 1 dX11_line_5 rfl rfl ?_
  refine eg_if_lt (tgt := 30) dX11_line_6 rfl (fun c2 => ?_) (fun c2 => ?_)
  · have h := h.1 c2
    refine eg_iconst dX11_line_30 ic_m1 ?_
    exact eg_ireturn dX11_line_31 rfl h
  · have h := h.2 c2
    refine eg_iload_n 1 dX11_line_9 rfl rfl ?_
    refine eg_aload_n 0 dX11_line_10 rfl rfl ?_
    refine eg_getR dX11_line_11 fl_11_72 rfl rfl (obM_60 z1) ?_
    show eg_W κ gM mtX11_line d (eQI κ gM post) 14 [(0, vR (60, 0)), (1, vI l1)] [vR (111, 0), vI l1] (sI M (60, 0) 2 (0 : Int32))
    refine eg_iconst dX11_line_14 ic_1 ?_
    obtain ⟨g3, h⟩ := h
    refine eg_iaload dX11_line_15 (arM_111 z1 g3) ?_
    refine eg_icmp_ge (tgt := 30) dX11_line_16 rfl (fun c4 => ?_) (fun c4 => ?_)
    · have h := h.1 c4
      refine eg_iconst dX11_line_30 ic_m1 ?_
      exact eg_ireturn dX11_line_31 rfl h
    · have h := h.2 c4
      refine eg_aload_n 0 dX11_line_19 rfl rfl ?_
      refine eg_getR dX11_line_20 fl_11_72 rfl rfl (obM_60 z1) ?_
      show eg_W κ gM mtX11_line d (eQI κ gM post) 23 [(0, vR (60, 0)), (1, vI l1)] [vR (111, 0)] (sI M (60, 0) 2 (0 : Int32))
      refine eg_iconst dX11_line_23 ic_2 ?_
      refine eg_iload_n 1 dX11_line_24 rfl rfl ?_
      refine eg_iadd dX11_line_25 ?_
      obtain ⟨g5, h⟩ := h
      refine eg_iaload dX11_line_26 (arM_111 z1 g5) ?_
      refine eg_goto (tgt := 31) dX11_line_27 rfl ?_
      exact eg_ireturn dX11_line_31 rfl h
def fX11_line (M : eg_H) (l1 : Int32) : Int32 × eg_H := (if l1 < 0 then ((-1 : Int32), (sI M (60, 0) 2 (0 : Int32))) else (if ((sI M (60, 0) 2 (0 : Int32)).1 (111, 0) (1 : Int32).toNatClampNeg) ≤ l1 then ((-1 : Int32), (sI M (60, 0) 2 (0 : Int32))) else (((sI M (60, 0) 2 (0 : Int32)).1 (111, 0) ((2 : Int32) + l1).toNatClampNeg), (sI M (60, 0) 2 (0 : Int32)))))
def gX11_line (M : eg_H) (l1 : Int32) : Prop := ((¬ l1 < 0) → vp_in (1 : Int32) 366) ∧ ((¬ l1 < 0) → (¬ ((sI M (60, 0) 2 (0 : Int32)).1 (111, 0) (1 : Int32).toNatClampNeg) ≤ l1) → vp_in ((2 : Int32) + l1) 366)
set_option maxRecDepth 10000 in
theorem sX11_line {κ : eg_K} {d : Nat} (hd : 0 ≤ d) (M : eg_H) (l1 : Int32)  (hg : gX11_line M l1) : eg_S κ gM mtX11_line d [vR (60, 0), vI l1] M (eQI κ gM (fun r M1 => (r, M1) = fX11_line M l1)) := by
  unfold gX11_line at hg
  refine eg_S.of rfl (Nat.le_of_ble_eq_true rfl) (vX11_line_0 M l1 ?_)
  refine ⟨fun c1 => ?_, fun c1 => ?_⟩
  · show _ = _
    exact (by unfold fX11_line; rw [if_pos c1])
  · refine ⟨hg.1 c1, ?_⟩
    refine ⟨fun c2 => ?_, fun c2 => ?_⟩
    · show _ = _
      exact (by unfold fX11_line; rw [if_neg c1, if_pos c2])
    · refine ⟨hg.2 c1 c2, ?_⟩
      show _ = _
      exact (by unfold fX11_line; rw [if_neg c1, if_neg c2])
theorem dX11_isRule_0 : decode cX11_isRule 0 = .ok (.aload_n 0, 1) := by decide +kernel
theorem dX11_isRule_1 : decode cX11_isRule 1 = .ok (.iload_n 1, 1) := by decide +kernel
theorem dX11_isRule_2 : decode cX11_isRule 2 = .ok (.invokevirtual 478, 3) := by decide +kernel
theorem dX11_isRule_5 : decode cX11_isRule 5 = .ok (.ifCond .eq 53, 3) := by decide +kernel
theorem dX11_isRule_8 : decode cX11_isRule 8 = .ok (.aload_n 0, 1) := by decide +kernel
theorem dX11_isRule_9 : decode cX11_isRule 9 = .ok (.iload_n 1, 1) := by decide +kernel
theorem dX11_isRule_10 : decode cX11_isRule 10 = .ok (.invokevirtual 415, 3) := by decide +kernel
theorem dX11_isRule_13 : decode cX11_isRule 13 = .ok (.ifCond .eq 45, 3) := by decide +kernel
theorem dX11_isRule_16 : decode cX11_isRule 16 = .ok (.iload_n 2, 1) := by decide +kernel
theorem dX11_isRule_17 : decode cX11_isRule 17 = .ok (.invokestatic 487, 3) := by decide +kernel
theorem dX11_isRule_20 : decode cX11_isRule 20 = .ok (.ifCond .eq 38, 3) := by decide +kernel
theorem dX11_isRule_23 : decode cX11_isRule 23 = .ok (.iload_n 3, 1) := by decide +kernel
theorem dX11_isRule_24 : decode cX11_isRule 24 = .ok (.iconst 0, 1) := by decide +kernel
theorem dX11_isRule_25 : decode cX11_isRule 25 = .ok (.bipush 99, 2) := by decide +kernel
theorem dX11_isRule_27 : decode cX11_isRule 27 = .ok (.invokestatic 171, 3) := by decide +kernel
theorem dX11_isRule_30 : decode cX11_isRule 30 = .ok (.ifCond .eq 28, 3) := by decide +kernel
theorem dX11_isRule_33 : decode cX11_isRule 33 = .ok (.iload 4, 2) := by decide +kernel
theorem dX11_isRule_35 : decode cX11_isRule 35 = .ok (.iconst 0, 1) := by decide +kernel
theorem dX11_isRule_36 : decode cX11_isRule 36 = .ok (.bipush 99, 2) := by decide +kernel
theorem dX11_isRule_38 : decode cX11_isRule 38 = .ok (.invokestatic 171, 3) := by decide +kernel
theorem dX11_isRule_41 : decode cX11_isRule 41 = .ok (.ifCond .eq 17, 3) := by decide +kernel
theorem dX11_isRule_44 : decode cX11_isRule 44 = .ok (.iload 5, 2) := by decide +kernel
theorem dX11_isRule_46 : decode cX11_isRule 46 = .ok (.iconst 0, 1) := by decide +kernel
theorem dX11_isRule_47 : decode cX11_isRule 47 = .ok (.iconst 1, 1) := by decide +kernel
theorem dX11_isRule_48 : decode cX11_isRule 48 = .ok (.invokestatic 171, 3) := by decide +kernel
theorem dX11_isRule_51 : decode cX11_isRule 51 = .ok (.ifCond .eq 7, 3) := by decide +kernel
theorem dX11_isRule_54 : decode cX11_isRule 54 = .ok (.iconst 1, 1) := by decide +kernel
theorem dX11_isRule_55 : decode cX11_isRule 55 = .ok (.goto 4, 3) := by decide +kernel
theorem dX11_isRule_58 : decode cX11_isRule 58 = .ok (.iconst 0, 1) := by decide +kernel
theorem dX11_isRule_59 : decode cX11_isRule 59 = .ok (.ireturn, 1) := by decide +kernel
set_option maxRecDepth 10000 in
theorem vX11_isRule_0 {κ : eg_K} {d : Nat} (hd : 2 ≤ d) {post : Int32 → eg_H → Prop} (M : eg_H) (l1 : Int32) (l2 : Int32) (l3 : Int32) (l4 : Int32) (l5 : Int32) (h : ((fX11_isStation M l1) = 0 → post (0 : Int32) M) ∧ ((¬ (fX11_isStation M l1) = 0) → (gX11_hasPan M l1 ∧ ((fX11_hasPan M l1) = 0 → post (0 : Int32) M) ∧ ((¬ (fX11_hasPan M l1) = 0) → ((fX11_isTime M l2) = 0 → post (0 : Int32) M) ∧ ((¬ (fX11_isTime M l2) = 0) → ((fX11_isIn M l3 (0 : Int32) (99 : Int32)) = 0 → post (0 : Int32) M) ∧ ((¬ (fX11_isIn M l3 (0 : Int32) (99 : Int32)) = 0) → ((fX11_isIn M l4 (0 : Int32) (99 : Int32)) = 0 → post (0 : Int32) M) ∧ ((¬ (fX11_isIn M l4 (0 : Int32) (99 : Int32)) = 0) → ((fX11_isIn M l5 (0 : Int32) (1 : Int32)) = 0 → post (0 : Int32) M) ∧ ((¬ (fX11_isIn M l5 (0 : Int32) (1 : Int32)) = 0) → post (1 : Int32) M)))))))) : eg_W κ gM mtX11_isRule d (eQI κ gM post) 0 [(0, vR (60, 0)), (1, vI l1), (2, vI l2), (3, vI l3), (4, vI l4), (5, vI l5)] [] M := by
  refine eg_aload_n 0 dX11_isRule_0 rfl rfl ?_
  refine eg_iload_n 1 dX11_isRule_1 rfl rfl ?_
  refine eg_callVI (av := [vI l1]) (st := []) dX11_isRule_2 ml_11_478 rfl rfl (obM_60 z1) (by decide) rfl (Nat.le_of_ble_eq_true rfl) (eg_dd (by omega)) (sX11_isStation (by omega) M l1  ) (fun x2 M1 hp => ?_)
  rw [hp.1, hp.2]
  refine eg_if_eq (tgt := 58) dX11_isRule_5 rfl (fun c3 => ?_) (fun c3 => ?_)
  · have h := h.1 c3
    refine eg_iconst dX11_isRule_58 ic_0 ?_
    exact eg_zreturn dX11_isRule_59 rfl (Or.inl rfl) h
  · have h := h.2 c3
    refine eg_aload_n 0 dX11_isRule_8 rfl rfl ?_
    refine eg_iload_n 1 dX11_isRule_9 rfl rfl ?_
    obtain ⟨g4, h⟩ := h
    refine eg_callVI (av := [vI l1]) (st := []) dX11_isRule_10 ml_11_415 rfl rfl (obM_60 z1) (by decide) rfl (Nat.le_of_ble_eq_true rfl) (eg_dd (by omega)) (sX11_hasPan (by omega) M l1  g4) (fun x6 M5 hp => ?_)
    rw [hp.1, hp.2]
    refine eg_if_eq (tgt := 58) dX11_isRule_13 rfl (fun c7 => ?_) (fun c7 => ?_)
    · have h := h.1 c7
      refine eg_iconst dX11_isRule_58 ic_0 ?_
      exact eg_zreturn dX11_isRule_59 rfl (Or.inl rfl) h
    · have h := h.2 c7
      refine eg_iload_n 2 dX11_isRule_16 rfl rfl ?_
      refine eg_callSI (av := [vI l2]) (st := []) dX11_isRule_17 ml_11_487 rfl rfl (Nat.le_of_ble_eq_true rfl) (eg_dd (by omega)) (sX11_isTime (by omega) M l2  ) (fun x9 M8 hp => ?_)
      rw [hp.1, hp.2]
      refine eg_if_eq (tgt := 58) dX11_isRule_20 rfl (fun c10 => ?_) (fun c10 => ?_)
      · have h := h.1 c10
        refine eg_iconst dX11_isRule_58 ic_0 ?_
        exact eg_zreturn dX11_isRule_59 rfl (Or.inl rfl) h
      · have h := h.2 c10
        refine eg_iload_n 3 dX11_isRule_23 rfl rfl ?_
        refine eg_iconst dX11_isRule_24 ic_0 ?_
        refine eg_bipush dX11_isRule_25 bp_99 ?_
        refine eg_callSI (av := [vI l3, vI (0 : Int32), vI (99 : Int32)]) (st := []) dX11_isRule_27 ml_11_171 rfl rfl (Nat.le_of_ble_eq_true rfl) (eg_dd (by omega)) (sX11_isIn (by omega) M l3 (0 : Int32) (99 : Int32)  ) (fun x12 M11 hp => ?_)
        rw [hp.1, hp.2]
        refine eg_if_eq (tgt := 58) dX11_isRule_30 rfl (fun c13 => ?_) (fun c13 => ?_)
        · have h := h.1 c13
          refine eg_iconst dX11_isRule_58 ic_0 ?_
          exact eg_zreturn dX11_isRule_59 rfl (Or.inl rfl) h
        · have h := h.2 c13
          refine eg_iload 4 dX11_isRule_33 rfl ?_
          refine eg_iconst dX11_isRule_35 ic_0 ?_
          refine eg_bipush dX11_isRule_36 bp_99 ?_
          refine eg_callSI (av := [vI l4, vI (0 : Int32), vI (99 : Int32)]) (st := []) dX11_isRule_38 ml_11_171 rfl rfl (Nat.le_of_ble_eq_true rfl) (eg_dd (by omega)) (sX11_isIn (by omega) M l4 (0 : Int32) (99 : Int32)  ) (fun x15 M14 hp => ?_)
          rw [hp.1, hp.2]
          refine eg_if_eq (tgt := 58) dX11_isRule_41 rfl (fun c16 => ?_) (fun c16 => ?_)
          · have h := h.1 c16
            refine eg_iconst dX11_isRule_58 ic_0 ?_
            exact eg_zreturn dX11_isRule_59 rfl (Or.inl rfl) h
          · have h := h.2 c16
            refine eg_iload 5 dX11_isRule_44 rfl ?_
            refine eg_iconst dX11_isRule_46 ic_0 ?_
            refine eg_iconst dX11_isRule_47 ic_1 ?_
            refine eg_callSI (av := [vI l5, vI (0 : Int32), vI (1 : Int32)]) (st := []) dX11_isRule_48 ml_11_171 rfl rfl (Nat.le_of_ble_eq_true rfl) (eg_dd (by omega)) (sX11_isIn (by omega) M l5 (0 : Int32) (1 : Int32)  ) (fun x18 M17 hp => ?_)
            rw [hp.1, hp.2]
            refine eg_if_eq (tgt := 58) dX11_isRule_51 rfl (fun c19 => ?_) (fun c19 => ?_)
            · have h := h.1 c19
              refine eg_iconst dX11_isRule_58 ic_0 ?_
              exact eg_zreturn dX11_isRule_59 rfl (Or.inl rfl) h
            · have h := h.2 c19
              refine eg_iconst dX11_isRule_54 ic_1 ?_
              refine eg_goto (tgt := 59) dX11_isRule_55 rfl ?_
              exact eg_zreturn dX11_isRule_59 rfl (Or.inr rfl) h
def fX11_isRule (M : eg_H) (l1 : Int32) (l2 : Int32) (l3 : Int32) (l4 : Int32) (l5 : Int32) : Int32 := (if (fX11_isStation M l1) = 0 then (0 : Int32) else (if (fX11_hasPan M l1) = 0 then (0 : Int32) else (if (fX11_isTime M l2) = 0 then (0 : Int32) else (if (fX11_isIn M l3 (0 : Int32) (99 : Int32)) = 0 then (0 : Int32) else (if (fX11_isIn M l4 (0 : Int32) (99 : Int32)) = 0 then (0 : Int32) else (if (fX11_isIn M l5 (0 : Int32) (1 : Int32)) = 0 then (0 : Int32) else (1 : Int32)))))))
def gX11_isRule (M : eg_H) (l1 : Int32) (l2 : Int32) (l3 : Int32) (l4 : Int32) (l5 : Int32) : Prop := ((¬ (fX11_isStation M l1) = 0) → gX11_hasPan M l1)
theorem zX11_isRule (M : eg_H) (l1 : Int32) (l2 : Int32) (l3 : Int32) (l4 : Int32) (l5 : Int32) : fX11_isRule M l1 l2 l3 l4 l5 = 0 ∨ fX11_isRule M l1 l2 l3 l4 l5 = 1 := by
  unfold fX11_isRule
  exact (eg_zi (Or.inl rfl) (eg_zi (Or.inl rfl) (eg_zi (Or.inl rfl) (eg_zi (Or.inl rfl) (eg_zi (Or.inl rfl) (eg_zi (Or.inl rfl) (Or.inr rfl)))))))
set_option maxRecDepth 10000 in
theorem sX11_isRule {κ : eg_K} {d : Nat} (hd : 2 ≤ d) (M : eg_H) (l1 : Int32) (l2 : Int32) (l3 : Int32) (l4 : Int32) (l5 : Int32)  (hg : gX11_isRule M l1 l2 l3 l4 l5) : eg_S κ gM mtX11_isRule d [vR (60, 0), vI l1, vI l2, vI l3, vI l4, vI l5] M (eQI κ gM (fun r M1 => r = fX11_isRule M l1 l2 l3 l4 l5 ∧ M1 = M)) := by
  unfold gX11_isRule at hg
  refine eg_S.of rfl (Nat.le_of_ble_eq_true rfl) (vX11_isRule_0 (by omega) M l1 l2 l3 l4 l5 ?_)
  refine ⟨fun c1 => ?_, fun c1 => ?_⟩
  · exact ⟨by unfold fX11_isRule; rw [if_pos c1], rfl⟩
  · refine ⟨hg c1, ?_⟩
    refine ⟨fun c2 => ?_, fun c2 => ?_⟩
    · exact ⟨by unfold fX11_isRule; rw [if_neg c1, if_pos c2], rfl⟩
    · refine ⟨fun c3 => ?_, fun c3 => ?_⟩
      · exact ⟨by unfold fX11_isRule; rw [if_neg c1, if_neg c2, if_pos c3], rfl⟩
      · refine ⟨fun c4 => ?_, fun c4 => ?_⟩
        · exact ⟨by unfold fX11_isRule; rw [if_neg c1, if_neg c2, if_neg c3, if_pos c4], rfl⟩
        · refine ⟨fun c5 => ?_, fun c5 => ?_⟩
          · exact ⟨by unfold fX11_isRule; rw [if_neg c1, if_neg c2, if_neg c3, if_neg c4, if_pos c5], rfl⟩
          · refine ⟨fun c6 => ?_, fun c6 => ?_⟩
            · exact ⟨by unfold fX11_isRule; rw [if_neg c1, if_neg c2, if_neg c3, if_neg c4, if_neg c5, if_pos c6], rfl⟩
            · exact ⟨by unfold fX11_isRule; rw [if_neg c1, if_neg c2, if_neg c3, if_neg c4, if_neg c5, if_neg c6], rfl⟩
theorem dX11_known_0 : decode cX11_known 0 = .ok (.aload_n 0, 1) := by decide +kernel
theorem dX11_known_1 : decode cX11_known 1 = .ok (.iconst 0, 1) := by decide +kernel
theorem dX11_known_2 : decode cX11_known 2 = .ok (.putfield 127, 3) := by decide +kernel
theorem dX11_known_5 : decode cX11_known 5 = .ok (.iload_n 1, 1) := by decide +kernel
theorem dX11_known_6 : decode cX11_known 6 = .ok (.iconst (-1), 1) := by decide +kernel
theorem dX11_known_7 : decode cX11_known 7 = .ok (.aload_n 0, 1) := by decide +kernel
theorem dX11_known_8 : decode cX11_known 8 = .ok (.getfield 234, 3) := by decide +kernel
theorem dX11_known_11 : decode cX11_known 11 = .ok (.invokestatic 171, 3) := by decide +kernel
theorem dX11_known_14 : decode cX11_known 14 = .ok (.ifCond .ne 5, 3) := by decide +kernel
theorem dX11_known_17 : decode cX11_known 17 = .ok (.iconst 0, 1) := by decide +kernel
theorem dX11_known_18 : decode cX11_known 18 = .ok (.ireturn, 1) := by decide +kernel
theorem dX11_known_19 : decode cX11_known 19 = .ok (.aload_n 0, 1) := by decide +kernel
theorem dX11_known_20 : decode cX11_known 20 = .ok (.iload_n 1, 1) := by decide +kernel
theorem dX11_known_21 : decode cX11_known 21 = .ok (.putfield 100, 3) := by decide +kernel
theorem dX11_known_24 : decode cX11_known 24 = .ok (.iconst 1, 1) := by decide +kernel
theorem dX11_known_25 : decode cX11_known 25 = .ok (.ireturn, 1) := by decide +kernel
set_option maxRecDepth 10000 in
theorem vX11_known_0 {κ : eg_K} {d : Nat} (hd : 1 ≤ d) {post : Int32 → eg_H → Prop} (M : eg_H) (l1 : Int32) (h : ((¬ (fX11_isIn (sI M (60, 0) 2 (0 : Int32)) l1 (-1 : Int32) ((sI M (60, 0) 2 (0 : Int32)).1 (60, 0) 73)) = 0) → post (1 : Int32) (sI (sI M (60, 0) 2 (0 : Int32)) (60, 0) 74 l1)) ∧ ((fX11_isIn (sI M (60, 0) 2 (0 : Int32)) l1 (-1 : Int32) ((sI M (60, 0) 2 (0 : Int32)).1 (60, 0) 73)) = 0 → post (0 : Int32) (sI M (60, 0) 2 (0 : Int32)))) : eg_W κ gM mtX11_known d (eQI κ gM post) 0 [(0, vR (60, 0)), (1, vI l1)] [] M := by
  refine eg_aload_n 0 dX11_known_0 rfl rfl ?_
  refine eg_iconst dX11_known_1 ic_0 ?_
  refine eg_putI dX11_known_2 fl_11_127 rfl rfl trivial (obM_60 z1) ?_
  refine eg_iload_n 1 dX11_known_5 rfl rfl ?_
  refine eg_iconst dX11_known_6 ic_m1 ?_
  refine eg_aload_n 0 dX11_known_7 rfl rfl ?_
  refine eg_getI dX11_known_8 fl_11_234 rfl trivial (obM_60 z1) ?_
  refine eg_callSI (av := [vI l1, vI (-1 : Int32), vI ((sI M (60, 0) 2 (0 : Int32)).1 (60, 0) 73)]) (st := []) dX11_known_11 ml_11_171 rfl rfl (Nat.le_of_ble_eq_true rfl) (eg_dd (by omega)) (sX11_isIn (by omega) (sI M (60, 0) 2 (0 : Int32)) l1 (-1 : Int32) ((sI M (60, 0) 2 (0 : Int32)).1 (60, 0) 73)  ) (fun x3 M2 hp => ?_)
  rw [hp.1, hp.2]
  refine eg_if_ne (tgt := 19) dX11_known_14 rfl (fun c4 => ?_) (fun c4 => ?_)
  · have h := h.1 c4
    refine eg_aload_n 0 dX11_known_19 rfl rfl ?_
    refine eg_iload_n 1 dX11_known_20 rfl rfl ?_
    refine eg_putI dX11_known_21 fl_11_100 rfl rfl trivial (obM_60 z1) ?_
    refine eg_iconst dX11_known_24 ic_1 ?_
    exact eg_zreturn dX11_known_25 rfl (Or.inr rfl) h
  · have h := h.2 c4
    refine eg_iconst dX11_known_17 ic_0 ?_
    exact eg_zreturn dX11_known_18 rfl (Or.inl rfl) h
def fX11_known (M : eg_H) (l1 : Int32) : Int32 × eg_H := (if (¬ (fX11_isIn (sI M (60, 0) 2 (0 : Int32)) l1 (-1 : Int32) ((sI M (60, 0) 2 (0 : Int32)).1 (60, 0) 73)) = 0) then ((1 : Int32), (sI (sI M (60, 0) 2 (0 : Int32)) (60, 0) 74 l1)) else ((0 : Int32), (sI M (60, 0) 2 (0 : Int32))))
theorem zX11_known (M : eg_H) (l1 : Int32) : (fX11_known M l1).1 = 0 ∨ (fX11_known M l1).1 = 1 := by
  unfold fX11_known
  first | (repeat' split) <;> first | exact (Or.inl rfl) | exact (Or.inr rfl)
set_option maxRecDepth 10000 in
theorem sX11_known {κ : eg_K} {d : Nat} (hd : 1 ≤ d) (M : eg_H) (l1 : Int32)   : eg_S κ gM mtX11_known d [vR (60, 0), vI l1] M (eQI κ gM (fun r M1 => (r, M1) = fX11_known M l1)) := by
  refine eg_S.of rfl (Nat.le_of_ble_eq_true rfl) (vX11_known_0 (by omega) M l1 ?_)
  refine ⟨fun c1 => ?_, fun c1 => ?_⟩
  · show _ = _
    exact (by unfold fX11_known; rw [if_pos c1])
  · show _ = _
    exact (by unfold fX11_known; rw [if_neg (fun z_ => z_ c1)])
theorem dX11_knownMany_0 : decode cX11_knownMany 0 = .ok (.aload_n 0, 1) := by decide +kernel
theorem dX11_knownMany_1 : decode cX11_knownMany 1 = .ok (.getfield 100, 3) := by decide +kernel
theorem dX11_knownMany_4 : decode cX11_knownMany 4 = .ok (.ifCond .ge 10, 3) := by decide +kernel
theorem dX11_knownMany_7 : decode cX11_knownMany 7 = .ok (.aload_n 0, 1) := by decide +kernel
theorem dX11_knownMany_8 : decode cX11_knownMany 8 = .ok (.getfield 234, 3) := by decide +kernel
theorem dX11_knownMany_11 : decode cX11_knownMany 11 = .ok (.goto 7, 3) := by decide +kernel
theorem dX11_knownMany_14 : decode cX11_knownMany 14 = .ok (.aload_n 0, 1) := by decide +kernel
theorem dX11_knownMany_15 : decode cX11_knownMany 15 = .ok (.getfield 100, 3) := by decide +kernel
theorem dX11_knownMany_18 : decode cX11_knownMany 18 = .ok (.ireturn, 1) := by decide +kernel
set_option maxRecDepth 10000 in
theorem vX11_knownMany_0 {κ : eg_K} {d : Nat} {post : Int32 → eg_H → Prop} (M : eg_H)  (h : (0 ≤ (M.1 (60, 0) 74) → post (M.1 (60, 0) 74) M) ∧ ((¬ 0 ≤ (M.1 (60, 0) 74)) → post (M.1 (60, 0) 73) M)) : eg_W κ gM mtX11_knownMany d (eQI κ gM post) 0 [(0, vR (60, 0))] [] M := by
  refine eg_aload_n 0 dX11_knownMany_0 rfl rfl ?_
  refine eg_getI dX11_knownMany_1 fl_11_100 rfl trivial (obM_60 z1) ?_
  refine eg_if_ge (tgt := 14) dX11_knownMany_4 rfl (fun c1 => ?_) (fun c1 => ?_)
  · have h := h.1 c1
    refine eg_aload_n 0 dX11_knownMany_14 rfl rfl ?_
    refine eg_getI dX11_knownMany_15 fl_11_100 rfl trivial (obM_60 z1) ?_
    exact eg_ireturn dX11_knownMany_18 rfl h
  · have h := h.2 c1
    refine eg_aload_n 0 dX11_knownMany_7 rfl rfl ?_
    refine eg_getI dX11_knownMany_8 fl_11_234 rfl trivial (obM_60 z1) ?_
    refine eg_goto (tgt := 18) dX11_knownMany_11 rfl ?_
    exact eg_ireturn dX11_knownMany_18 rfl h
def fX11_knownMany (M : eg_H)  : Int32 := (if 0 ≤ (M.1 (60, 0) 74) then (M.1 (60, 0) 74) else (M.1 (60, 0) 73))
set_option maxRecDepth 10000 in
theorem sX11_knownMany {κ : eg_K} {d : Nat} (hd : 0 ≤ d) (M : eg_H)    : eg_S κ gM mtX11_knownMany d [vR (60, 0)] M (eQI κ gM (fun r M1 => r = fX11_knownMany M ∧ M1 = M)) := by
  refine eg_S.of rfl (Nat.le_of_ble_eq_true rfl) (vX11_knownMany_0 M  ?_)
  refine ⟨fun c1 => ?_, fun c1 => ?_⟩
  · exact ⟨by unfold fX11_knownMany; rw [if_pos c1], rfl⟩
  · exact ⟨by unfold fX11_knownMany; rw [if_neg c1], rfl⟩
theorem dX2_begin_0 : decode cX2_begin 0 = .ok (.aload_n 0, 1) := by decide +kernel
theorem dX2_begin_1 : decode cX2_begin 1 = .ok (.iconst 0, 1) := by decide +kernel
theorem dX2_begin_2 : decode cX2_begin 2 = .ok (.putfield 15, 3) := by decide +kernel
theorem dX2_begin_5 : decode cX2_begin 5 = .ok (.aload_n 1, 1) := by decide +kernel
theorem dX2_begin_6 : decode cX2_begin 6 = .ok (.getfield 19, 3) := by decide +kernel
theorem dX2_begin_9 : decode cX2_begin 9 = .ok (.iconst 0, 1) := by decide +kernel
theorem dX2_begin_10 : decode cX2_begin 10 = .ok (.aload_n 0, 1) := by decide +kernel
theorem dX2_begin_11 : decode cX2_begin 11 = .ok (.getfield 9, 3) := by decide +kernel
theorem dX2_begin_14 : decode cX2_begin 14 = .ok (.iconst 0, 1) := by decide +kernel
theorem dX2_begin_15 : decode cX2_begin 15 = .ok (.iconst 5, 1) := by decide +kernel
theorem dX2_begin_16 : decode cX2_begin 16 = .ok (.invokestatic 22, 3) := by decide +kernel
theorem dX2_begin_19 : decode cX2_begin 19 = .ok (.aload_n 0, 1) := by decide +kernel
theorem dX2_begin_20 : decode cX2_begin 20 = .ok (.iconst (-1), 1) := by decide +kernel
theorem dX2_begin_21 : decode cX2_begin 21 = .ok (.putfield 28, 3) := by decide +kernel
theorem dX2_begin_24 : decode cX2_begin 24 = .ok (.aload_n 0, 1) := by decide +kernel
theorem dX2_begin_25 : decode cX2_begin 25 = .ok (.iconst 0, 1) := by decide +kernel
theorem dX2_begin_26 : decode cX2_begin 26 = .ok (.putfield 31, 3) := by decide +kernel
theorem dX2_begin_29 : decode cX2_begin 29 = .ok (.aload_n 0, 1) := by decide +kernel
theorem dX2_begin_30 : decode cX2_begin 30 = .ok (.iconst 0, 1) := by decide +kernel
theorem dX2_begin_31 : decode cX2_begin 31 = .ok (.putfield 34, 3) := by decide +kernel
theorem dX2_begin_34 : decode cX2_begin 34 = .ok (.aload_n 0, 1) := by decide +kernel
theorem dX2_begin_35 : decode cX2_begin 35 = .ok (.iconst 0, 1) := by decide +kernel
theorem dX2_begin_36 : decode cX2_begin 36 = .ok (.putfield 37, 3) := by decide +kernel
theorem dX2_begin_39 : decode cX2_begin 39 = .ok (.aload_n 0, 1) := by decide +kernel
theorem dX2_begin_40 : decode cX2_begin 40 = .ok (.iconst 0, 1) := by decide +kernel
theorem dX2_begin_41 : decode cX2_begin 41 = .ok (.putfield 40, 3) := by decide +kernel
theorem dX2_begin_44 : decode cX2_begin 44 = .ok (.aload_n 0, 1) := by decide +kernel
theorem dX2_begin_45 : decode cX2_begin 45 = .ok (.iconst 0, 1) := by decide +kernel
theorem dX2_begin_46 : decode cX2_begin 46 = .ok (.putfield 43, 3) := by decide +kernel
theorem dX2_begin_49 : decode cX2_begin 49 = .ok (.aload_n 0, 1) := by decide +kernel
theorem dX2_begin_50 : decode cX2_begin 50 = .ok (.iconst 0, 1) := by decide +kernel
theorem dX2_begin_51 : decode cX2_begin 51 = .ok (.putfield 46, 3) := by decide +kernel
theorem dX2_begin_54 : decode cX2_begin 54 = .ok (.aload_n 0, 1) := by decide +kernel
theorem dX2_begin_55 : decode cX2_begin 55 = .ok (.aload_n 1, 1) := by decide +kernel
theorem dX2_begin_56 : decode cX2_begin 56 = .ok (.invokevirtual 49, 3) := by decide +kernel
theorem dX2_begin_59 : decode cX2_begin 59 = .ok (.return_, 1) := by decide +kernel
set_option maxRecDepth 10000 in
theorem vX2_begin_0 {κ : eg_K} {d : Nat} (hd : 1 ≤ d) {post : eg_H → Prop} (M : eg_H) {l0 : Nat} (hl0 : l0 < 60) {l1 : Nat} (hl1 : l1 < 30) (h : post (fX2_clearPlate (sI (sI (sI (sI (sI (sI (sI (sC (sI M (2, l0) 0 (0 : Int32)) (20, l1) (22, l0) (0 : Int32).toNatClampNeg (0 : Int32).toNatClampNeg (5 : Int32).toNatClampNeg) (2, l0) 6 (-1 : Int32)) (2, l0) 7 (0 : Int32)) (2, l0) 8 (0 : Int32)) (2, l0) 9 (0 : Int32)) (2, l0) 10 (0 : Int32)) (2, l0) 11 (0 : Int32)) (2, l0) 12 (0 : Int32)) l0 l1)) : eg_W κ gC mtX2_begin d (eQV κ gC post) 0 [(0, vR (2, l0)), (1, vR (0, l1))] [] M := by
  refine eg_aload_n 0 dX2_begin_0 rfl rfl ?_
  refine eg_iconst dX2_begin_1 ic_0 ?_
  refine eg_putI dX2_begin_2 fl_2_15 rfl rfl trivial (obC_2 hl0) ?_
  refine eg_aload_n 1 dX2_begin_5 rfl rfl ?_
  refine eg_getR dX2_begin_6 fl_2_19 rfl rfl (obC_0 hl1) ?_
  show eg_W κ gC mtX2_begin d (eQV κ gC post) 9 [(0, vR (2, l0)), (1, vR (0, l1))] [vR (20, l1)] (sI M (2, l0) 0 (0 : Int32))
  refine eg_iconst dX2_begin_9 ic_0 ?_
  refine eg_aload_n 0 dX2_begin_10 rfl rfl ?_
  refine eg_getR dX2_begin_11 fl_2_9 rfl rfl (obC_2 hl0) ?_
  show eg_W κ gC mtX2_begin d (eQV κ gC post) 14 [(0, vR (2, l0)), (1, vR (0, l1))] [vR (22, l0), vI (0 : Int32), vR (20, l1)] (sI M (2, l0) 0 (0 : Int32))
  refine eg_iconst dX2_begin_14 ic_0 ?_
  refine eg_iconst dX2_begin_15 ic_5 ?_
  refine eg_copy dX2_begin_16 ml_2_22 (anC_20 hl1) (anC_22 hl0) (by decide) (by decide) (by decide) (by decide) (by decide) (Nat.le_of_ble_eq_true rfl) (by omega) ?_
  refine eg_aload_n 0 dX2_begin_19 rfl rfl ?_
  refine eg_iconst dX2_begin_20 ic_m1 ?_
  refine eg_putI dX2_begin_21 fl_2_28 rfl rfl trivial (obC_2 hl0) ?_
  refine eg_aload_n 0 dX2_begin_24 rfl rfl ?_
  refine eg_iconst dX2_begin_25 ic_0 ?_
  refine eg_putI dX2_begin_26 fl_2_31 rfl rfl trivial (obC_2 hl0) ?_
  refine eg_aload_n 0 dX2_begin_29 rfl rfl ?_
  refine eg_iconst dX2_begin_30 ic_0 ?_
  refine eg_putI dX2_begin_31 fl_2_34 rfl rfl trivial (obC_2 hl0) ?_
  refine eg_aload_n 0 dX2_begin_34 rfl rfl ?_
  refine eg_iconst dX2_begin_35 ic_0 ?_
  refine eg_putI dX2_begin_36 fl_2_37 rfl rfl trivial (obC_2 hl0) ?_
  refine eg_aload_n 0 dX2_begin_39 rfl rfl ?_
  refine eg_iconst dX2_begin_40 ic_0 ?_
  refine eg_putI dX2_begin_41 fl_2_40 rfl rfl trivial (obC_2 hl0) ?_
  refine eg_aload_n 0 dX2_begin_44 rfl rfl ?_
  refine eg_iconst dX2_begin_45 ic_0 ?_
  refine eg_putI dX2_begin_46 fl_2_43 rfl rfl trivial (obC_2 hl0) ?_
  refine eg_aload_n 0 dX2_begin_49 rfl rfl ?_
  refine eg_iconst dX2_begin_50 ic_0 ?_
  refine eg_putI dX2_begin_51 fl_2_46 rfl rfl trivial (obC_2 hl0) ?_
  refine eg_aload_n 0 dX2_begin_54 rfl rfl ?_
  refine eg_aload_n 1 dX2_begin_55 rfl rfl ?_
  refine eg_callVV (av := [vR (0, l1)]) (st := []) dX2_begin_56 ml_2_49 rfl rfl (obC_2 hl0) (by decide) rfl (Nat.le_of_ble_eq_true rfl) (eg_dd (by omega)) (sX2_clearPlate (by omega) (sI (sI (sI (sI (sI (sI (sI (sC (sI M (2, l0) 0 (0 : Int32)) (20, l1) (22, l0) (0 : Int32).toNatClampNeg (0 : Int32).toNatClampNeg (5 : Int32).toNatClampNeg) (2, l0) 6 (-1 : Int32)) (2, l0) 7 (0 : Int32)) (2, l0) 8 (0 : Int32)) (2, l0) 9 (0 : Int32)) (2, l0) 10 (0 : Int32)) (2, l0) 11 (0 : Int32)) (2, l0) 12 (0 : Int32)) l0 l1 hl0 hl1 ) (fun M9 eM9 => ?_)
  rw [show M9 = _ from eM9]
  exact eg_vreturn dX2_begin_59 rfl h
def fX2_begin (M : eg_H) (l0 : Nat) (l1 : Nat) : eg_H := (fX2_clearPlate (sI (sI (sI (sI (sI (sI (sI (sC (sI M (2, l0) 0 (0 : Int32)) (20, l1) (22, l0) (0 : Int32).toNatClampNeg (0 : Int32).toNatClampNeg (5 : Int32).toNatClampNeg) (2, l0) 6 (-1 : Int32)) (2, l0) 7 (0 : Int32)) (2, l0) 8 (0 : Int32)) (2, l0) 9 (0 : Int32)) (2, l0) 10 (0 : Int32)) (2, l0) 11 (0 : Int32)) (2, l0) 12 (0 : Int32)) l0 l1)
set_option maxRecDepth 10000 in
theorem sX2_begin {κ : eg_K} {d : Nat} (hd : 1 ≤ d) (M : eg_H) (l0 : Nat) (l1 : Nat) (hl0 : l0 < 60) (hl1 : l1 < 30)  : eg_S κ gC mtX2_begin d [vR (2, l0), vR (0, l1)] M (eQV κ gC (fun M1 => M1 = fX2_begin M l0 l1)) := by
  refine eg_S.of rfl (Nat.le_of_ble_eq_true rfl) (vX2_begin_0 (by omega) M hl0 hl1 ?_)
  show _ = _
  exact (rfl)
