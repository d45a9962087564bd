theorem dX2_begin_0 : decode cX2_begin 0 = .ok (.aload_n 0, 1) := by decide +kernel
theorem dX2_begin_1 : decode cX2_begin 1 = .ok (.iconst 0, 1) := by decide +kernel
theorem dX2_begin_2 : decode cX2_begin 2 = .ok (.putfield 15, 3) := by decide +kernel
theorem dX2_begin_5 : decode cX2_begin 5 = .ok (.aload_n 1, 1) := by decide +kernel
theorem dX2_begin_6 : decode cX2_begin 6 = .ok (.getfield 19, 3) := by decide +kernel
theorem dX2_begin_9 : decode cX2_begin 9 = .ok (.iconst 0, 1) := by decide +kernel
theorem dX2_begin_10 : decode cX2_begin 10 = .ok (.aload_n 0, 1) := by decide +kernel
theorem dX2_begin_11 : decode cX2_begin 11 = .ok (.getfield 9, 3) := by decide +kernel
theorem dX2_begin_14 : decode cX2_begin 14 = .ok (.iconst 0, 1) := by decide +kernel
theorem dX2_begin_15 : decode cX2_begin 15 = .ok (.iconst 5, 1) := by decide +kernel
theorem dX2_begin_16 : decode cX2_begin 16 = .ok (.invokestatic 22, 3) := by decide +kernel
theorem dX2_begin_19 : decode cX2_begin 19 = .ok (.aload_n 0, 1) := by decide +kernel
theorem dX2_begin_20 : decode cX2_begin 20 = .ok (.iconst (-1), 1) := by decide +kernel
theorem dX2_begin_21 : decode cX2_begin 21 = .ok (.putfield 28, 3) := by decide +kernel
theorem dX2_begin_24 : decode cX2_begin 24 = .ok (.aload_n 0, 1) := by decide +kernel
theorem dX2_begin_25 : decode cX2_begin 25 = .ok (.iconst 0, 1) := by decide +kernel
theorem dX2_begin_26 : decode cX2_begin 26 = .ok (.putfield 31, 3) := by decide +kernel
theorem dX2_begin_29 : decode cX2_begin 29 = .ok (.aload_n 0, 1) := by decide +kernel
theorem dX2_begin_30 : decode cX2_begin 30 = .ok (.iconst 0, 1) := by decide +kernel
theorem dX2_begin_31 : decode cX2_begin 31 = .ok (.putfield 34, 3) := by decide +kernel
theorem dX2_begin_34 : decode cX2_begin 34 = .ok (.aload_n 0, 1) := by decide +kernel
theorem dX2_begin_35 : decode cX2_begin 35 = .ok (.iconst 0, 1) := by decide +kernel
theorem dX2_begin_36 : decode cX2_begin 36 = .ok (.putfield 37, 3) := by decide +kernel
theorem dX2_begin_39 : decode cX2_begin 39 = .ok (.aload_n 0, 1) := by decide +kernel
theorem dX2_begin_40 : decode cX2_begin 40 = .ok (.iconst 0, 1) := by decide +kernel
theorem dX2_begin_41 : decode cX2_begin 41 = .ok (.putfield 40, 3) := by decide +kernel
theorem dX2_begin_44 : decode cX2_begin 44 = .ok (.aload_n 0, 1) := by decide +kernel
theorem dX2_begin_45 : decode cX2_begin 45 = .ok (.iconst 0, 1) := by decide +kernel
theorem dX2_begin_46 : decode cX2_begin 46 = .ok (.putfield 43, 3) := by decide +kernel
theorem dX2_begin_49 : decode cX2_begin 49 = .ok (.aload_n 0, 1) := by decide +kernel
theorem dX2_begin_50 : decode cX2_begin 50 = .ok (.iconst 0, 1) := by decide +kernel
theorem dX2_begin_51 : decode cX2_begin 51 = .ok (.putfield 46, 3) := by decide +kernel
theorem dX2_begin_54 : decode cX2_begin 54 = .ok (.aload_n 0, 1) := by decide +kernel
theorem dX2_begin_55 : decode cX2_begin 55 = .ok (.aload_n 1, 1) := by decide +kernel
theorem dX2_begin_56 : decode cX2_begin 56 = .ok (.invokevirtual 49, 3) := by decide +kernel
theorem dX2_begin_59 : decode cX2_begin 59 = .ok (.return_, 1) := by decide +kernel
set_option maxRecDepth 10000 in
theorem vX2_begin_0 {κ : eg_K} {d : Nat} (hd : 1 ≤ d) {post : eg_H → Prop} (M : eg_H) {l0 : Nat} (hl0 : l0 < 60) {l1 : Nat} (hl1 : l1 < 30) (h : (∀ M1 : eg_H, M1 = sI M (2, l0) 0 (0 : Int32) → (∀ M2 : eg_H, M2 = sC M1 (20, l1) (22, l0) (0 : Int32).toNatClampNeg (0 : Int32).toNatClampNeg (5 : Int32).toNatClampNeg → (∀ M3 : eg_H, M3 = sI M2 (2, l0) 6 (-1 : Int32) → (∀ M4 : eg_H, M4 = sI M3 (2, l0) 7 (0 : Int32) → (∀ M5 : eg_H, M5 = sI M4 (2, l0) 8 (0 : Int32) → (∀ M6 : eg_H, M6 = sI M5 (2, l0) 9 (0 : Int32) → (∀ M7 : eg_H, M7 = sI M6 (2, l0) 10 (0 : Int32) → (∀ M8 : eg_H, M8 = sI M7 (2, l0) 11 (0 : Int32) → (∀ M9 : eg_H, M9 = sI M8 (2, l0) 12 (0 : Int32) → eCV κ gC mtX2_clearPlate d [vR (2, l0), vR (0, l1)] M9 (fun M10 => post M10))))))))))) : eg_W κ gC mtX2_begin d (eQV κ gC post) 0 [(0, vR (2, l0)), (1, vR (0, l1))] [] M := by
  refine eg_aload_n 0 dX2_begin_0 rfl rfl ?_
  refine eg_iconst dX2_begin_1 ic_0 ?_
  refine en_putI dX2_begin_2 fl_2_15 rfl rfl (obC_2 hl0) (fun M1 eM1 => ?_)
  have h := h M1 eM1
  refine eg_aload_n 1 dX2_begin_5 rfl rfl ?_
  refine eg_getR dX2_begin_6 fl_2_19 rfl rfl (obC_0 hl1) ?_
  show eg_W κ gC mtX2_begin d (eQV κ gC post) 9 [(0, vR (2, l0)), (1, vR (0, l1))] [vR (20, l1)] M1
  refine eg_iconst dX2_begin_9 ic_0 ?_
  refine eg_aload_n 0 dX2_begin_10 rfl rfl ?_
  refine eg_getR dX2_begin_11 fl_2_9 rfl rfl (obC_2 hl0) ?_
  show eg_W κ gC mtX2_begin d (eQV κ gC post) 14 [(0, vR (2, l0)), (1, vR (0, l1))] [vR (22, l0), vI (0 : Int32), vR (20, l1)] M1
  refine eg_iconst dX2_begin_14 ic_0 ?_
  refine eg_iconst dX2_begin_15 ic_5 ?_
  refine en_copy dX2_begin_16 ml_2_22 (anC_20 hl1) (anC_22 hl0) (by decide) (by decide) hd (fun M2 eM2 => ?_)
  have h := h M2 eM2
  refine eg_aload_n 0 dX2_begin_19 rfl rfl ?_
  refine eg_iconst dX2_begin_20 ic_m1 ?_
  refine en_putI dX2_begin_21 fl_2_28 rfl rfl (obC_2 hl0) (fun M3 eM3 => ?_)
  have h := h M3 eM3
  refine eg_aload_n 0 dX2_begin_24 rfl rfl ?_
  refine eg_iconst dX2_begin_25 ic_0 ?_
  refine en_putI dX2_begin_26 fl_2_31 rfl rfl (obC_2 hl0) (fun M4 eM4 => ?_)
  have h := h M4 eM4
  refine eg_aload_n 0 dX2_begin_29 rfl rfl ?_
  refine eg_iconst dX2_begin_30 ic_0 ?_
  refine en_putI dX2_begin_31 fl_2_34 rfl rfl (obC_2 hl0) (fun M5 eM5 => ?_)
  have h := h M5 eM5
  refine eg_aload_n 0 dX2_begin_34 rfl rfl ?_
  refine eg_iconst dX2_begin_35 ic_0 ?_
  refine en_putI dX2_begin_36 fl_2_37 rfl rfl (obC_2 hl0) (fun M6 eM6 => ?_)
  have h := h M6 eM6
  refine eg_aload_n 0 dX2_begin_39 rfl rfl ?_
  refine eg_iconst dX2_begin_40 ic_0 ?_
  refine en_putI dX2_begin_41 fl_2_40 rfl rfl (obC_2 hl0) (fun M7 eM7 => ?_)
  have h := h M7 eM7
  refine eg_aload_n 0 dX2_begin_44 rfl rfl ?_
  refine eg_iconst dX2_begin_45 ic_0 ?_
  refine en_putI dX2_begin_46 fl_2_43 rfl rfl (obC_2 hl0) (fun M8 eM8 => ?_)
  have h := h M8 eM8
  refine eg_aload_n 0 dX2_begin_49 rfl rfl ?_
  refine eg_iconst dX2_begin_50 ic_0 ?_
  refine en_putI dX2_begin_51 fl_2_46 rfl rfl (obC_2 hl0) (fun M9 eM9 => ?_)
  have h := h M9 eM9
  refine eg_aload_n 0 dX2_begin_54 rfl rfl ?_
  refine eg_aload_n 1 dX2_begin_55 rfl rfl ?_
  obtain ⟨q11, hq11, h⟩ := h
  refine eg_callVV (av := [vR (0, l1)]) (st := []) dX2_begin_56 ml_2_49 rfl rfl (obC_2 hl0) (by decide) rfl (by decide) (eg_dd hd) hq11 (fun M10 hp => ?_)
  have h := h M10 hp
  exact eg_vreturn dX2_begin_59 rfl h
theorem dX2_clearPlate_0 : decode cX2_clearPlate 0 = .ok (.aload_n 0, 1) := by decide +kernel
theorem dX2_clearPlate_1 : decode cX2_clearPlate 1 = .ok (.iconst (-1), 1) := by decide +kernel
theorem dX2_clearPlate_2 : decode cX2_clearPlate 2 = .ok (.putfield 53, 3) := by decide +kernel
theorem dX2_clearPlate_5 : decode cX2_clearPlate 5 = .ok (.aload_n 0, 1) := by decide +kernel
theorem dX2_clearPlate_6 : decode cX2_clearPlate 6 = .ok (.aload_n 1, 1) := by decide +kernel
theorem dX2_clearPlate_7 : decode cX2_clearPlate 7 = .ok (.getfield 56, 3) := by decide +kernel
theorem dX2_clearPlate_10 : decode cX2_clearPlate 10 = .ok (.putfield 59, 3) := by decide +kernel
theorem dX2_clearPlate_13 : decode cX2_clearPlate 13 = .ok (.aload_n 0, 1) := by decide +kernel
theorem dX2_clearPlate_14 : decode cX2_clearPlate 14 = .ok (.iconst 0, 1) := by decide +kernel
theorem dX2_clearPlate_15 : decode cX2_clearPlate 15 = .ok (.putfield 62, 3) := by decide +kernel
theorem dX2_clearPlate_18 : decode cX2_clearPlate 18 = .ok (.aload_n 0, 1) := by decide +kernel
theorem dX2_clearPlate_19 : decode cX2_clearPlate 19 = .ok (.iconst 0, 1) := by decide +kernel
theorem dX2_clearPlate_20 : decode cX2_clearPlate 20 = .ok (.putfield 65, 3) := by decide +kernel
theorem dX2_clearPlate_23 : decode cX2_clearPlate 23 = .ok (.return_, 1) := by decide +kernel
set_option maxRecDepth 10000 in
theorem vX2_clearPlate_0 {κ : eg_K} {d : Nat} {post : eg_H → Prop} (M : eg_H) {l0 : Nat} (hl0 : l0 < 60) {l1 : Nat} (hl1 : l1 < 30) (h : (∀ M1 : eg_H, M1 = sI M (2, l0) 1 (-1 : Int32) → (∀ M2 : eg_H, M2 = sI M1 (2, l0) 2 (M1.1 (0, l1) 2) → (∀ M3 : eg_H, M3 = sI M2 (2, l0) 4 (0 : Int32) → (∀ M4 : eg_H, M4 = sI M3 (2, l0) 5 (0 : Int32) → post M4))))) : eg_W κ gC mtX2_clearPlate d (eQV κ gC post) 0 [(0, vR (2, l0)), (1, vR (0, l1))] [] M := by
  refine eg_aload_n 0 dX2_clearPlate_0 rfl rfl ?_
  refine eg_iconst dX2_clearPlate_1 ic_m1 ?_
  refine en_putI dX2_clearPlate_2 fl_2_53 rfl rfl (obC_2 hl0) (fun M1 eM1 => ?_)
  have h := h M1 eM1
  refine eg_aload_n 0 dX2_clearPlate_5 rfl rfl ?_
  refine eg_aload_n 1 dX2_clearPlate_6 rfl rfl ?_
  refine eg_getI dX2_clearPlate_7 fl_2_56 rfl trivial (obC_0 hl1) ?_
  refine en_putI dX2_clearPlate_10 fl_2_59 rfl rfl (obC_2 hl0) (fun M2 eM2 => ?_)
  have h := h M2 eM2
  refine eg_aload_n 0 dX2_clearPlate_13 rfl rfl ?_
  refine eg_iconst dX2_clearPlate_14 ic_0 ?_
  refine en_putI dX2_clearPlate_15 fl_2_62 rfl rfl (obC_2 hl0) (fun M3 eM3 => ?_)
  have h := h M3 eM3
  refine eg_aload_n 0 dX2_clearPlate_18 rfl rfl ?_
  refine eg_iconst dX2_clearPlate_19 ic_0 ?_
  refine en_putZ dX2_clearPlate_20 fl_2_65 rfl rfl (Or.inl rfl) (obC_2 hl0) (fun M4 eM4 => ?_)
  have h := h M4 eM4
  exact eg_vreturn dX2_clearPlate_23 rfl h
theorem dX2_copyFrom_0 : decode cX2_copyFrom 0 = .ok (.aload_n 0, 1) := by decide +kernel
theorem dX2_copyFrom_1 : decode cX2_copyFrom 1 = .ok (.aload_n 1, 1) := by decide +kernel
theorem dX2_copyFrom_2 : decode cX2_copyFrom 2 = .ok (.getfield 15, 3) := by decide +kernel
theorem dX2_copyFrom_5 : decode cX2_copyFrom 5 = .ok (.putfield 15, 3) := by decide +kernel
theorem dX2_copyFrom_8 : decode cX2_copyFrom 8 = .ok (.aload_n 0, 1) := by decide +kernel
theorem dX2_copyFrom_9 : decode cX2_copyFrom 9 = .ok (.aload_n 1, 1) := by decide +kernel
theorem dX2_copyFrom_10 : decode cX2_copyFrom 10 = .ok (.getfield 53, 3) := by decide +kernel
theorem dX2_copyFrom_13 : decode cX2_copyFrom 13 = .ok (.putfield 53, 3) := by decide +kernel
theorem dX2_copyFrom_16 : decode cX2_copyFrom 16 = .ok (.aload_n 0, 1) := by decide +kernel
theorem dX2_copyFrom_17 : decode cX2_copyFrom 17 = .ok (.aload_n 1, 1) := by decide +kernel
theorem dX2_copyFrom_18 : decode cX2_copyFrom 18 = .ok (.getfield 59, 3) := by decide +kernel
theorem dX2_copyFrom_21 : decode cX2_copyFrom 21 = .ok (.putfield 59, 3) := by decide +kernel
theorem dX2_copyFrom_24 : decode cX2_copyFrom 24 = .ok (.aload_n 1, 1) := by decide +kernel
theorem dX2_copyFrom_25 : decode cX2_copyFrom 25 = .ok (.getfield 9, 3) := by decide +kernel
theorem dX2_copyFrom_28 : decode cX2_copyFrom 28 = .ok (.iconst 0, 1) := by decide +kernel
theorem dX2_copyFrom_29 : decode cX2_copyFrom 29 = .ok (.aload_n 0, 1) := by decide +kernel
theorem dX2_copyFrom_30 : decode cX2_copyFrom 30 = .ok (.getfield 9, 3) := by decide +kernel
theorem dX2_copyFrom_33 : decode cX2_copyFrom 33 = .ok (.iconst 0, 1) := by decide +kernel
theorem dX2_copyFrom_34 : decode cX2_copyFrom 34 = .ok (.iconst 5, 1) := by decide +kernel
theorem dX2_copyFrom_35 : decode cX2_copyFrom 35 = .ok (.invokestatic 22, 3) := by decide +kernel
theorem dX2_copyFrom_38 : decode cX2_copyFrom 38 = .ok (.aload_n 0, 1) := by decide +kernel
theorem dX2_copyFrom_39 : decode cX2_copyFrom 39 = .ok (.aload_n 1, 1) := by decide +kernel
theorem dX2_copyFrom_40 : decode cX2_copyFrom 40 = .ok (.getfield 62, 3) := by decide +kernel
theorem dX2_copyFrom_43 : decode cX2_copyFrom 43 = .ok (.putfield 62, 3) := by decide +kernel
theorem dX2_copyFrom_46 : decode cX2_copyFrom 46 = .ok (.aload_n 0, 1) := by decide +kernel
theorem dX2_copyFrom_47 : decode cX2_copyFrom 47 = .ok (.aload_n 1, 1) := by decide +kernel
theorem dX2_copyFrom_48 : decode cX2_copyFrom 48 = .ok (.getfield 65, 3) := by decide +kernel
theorem dX2_copyFrom_51 : decode cX2_copyFrom 51 = .ok (.putfield 65, 3) := by decide +kernel
theorem dX2_copyFrom_54 : decode cX2_copyFrom 54 = .ok (.aload_n 0, 1) := by decide +kernel
theorem dX2_copyFrom_55 : decode cX2_copyFrom 55 = .ok (.aload_n 1, 1) := by decide +kernel
theorem dX2_copyFrom_56 : decode cX2_copyFrom 56 = .ok (.getfield 28, 3) := by decide +kernel
theorem dX2_copyFrom_59 : decode cX2_copyFrom 59 = .ok (.putfield 28, 3) := by decide +kernel
theorem dX2_copyFrom_62 : decode cX2_copyFrom 62 = .ok (.aload_n 0, 1) := by decide +kernel
theorem dX2_copyFrom_63 : decode cX2_copyFrom 63 = .ok (.aload_n 1, 1) := by decide +kernel
theorem dX2_copyFrom_64 : decode cX2_copyFrom 64 = .ok (.getfield 31, 3) := by decide +kernel
theorem dX2_copyFrom_67 : decode cX2_copyFrom 67 = .ok (.putfield 31, 3) := by decide +kernel
theorem dX2_copyFrom_70 : decode cX2_copyFrom 70 = .ok (.aload_n 0, 1) := by decide +kernel
theorem dX2_copyFrom_71 : decode cX2_copyFrom 71 = .ok (.aload_n 1, 1) := by decide +kernel
theorem dX2_copyFrom_72 : decode cX2_copyFrom 72 = .ok (.getfield 34, 3) := by decide +kernel
theorem dX2_copyFrom_75 : decode cX2_copyFrom 75 = .ok (.putfield 34, 3) := by decide +kernel
theorem dX2_copyFrom_78 : decode cX2_copyFrom 78 = .ok (.aload_n 0, 1) := by decide +kernel
theorem dX2_copyFrom_79 : decode cX2_copyFrom 79 = .ok (.aload_n 1, 1) := by decide +kernel
theorem dX2_copyFrom_80 : decode cX2_copyFrom 80 = .ok (.getfield 37, 3) := by decide +kernel
theorem dX2_copyFrom_83 : decode cX2_copyFrom 83 = .ok (.putfield 37, 3) := by decide +kernel
theorem dX2_copyFrom_86 : decode cX2_copyFrom 86 = .ok (.aload_n 0, 1) := by decide +kernel
theorem dX2_copyFrom_87 : decode cX2_copyFrom 87 = .ok (.aload_n 1, 1) := by decide +kernel
theorem dX2_copyFrom_88 : decode cX2_copyFrom 88 = .ok (.getfield 40, 3) := by decide +kernel
theorem dX2_copyFrom_91 : decode cX2_copyFrom 91 = .ok (.putfield 40, 3) := by decide +kernel
theorem dX2_copyFrom_94 : decode cX2_copyFrom 94 = .ok (.aload_n 0, 1) := by decide +kernel
theorem dX2_copyFrom_95 : decode cX2_copyFrom 95 = .ok (.aload_n 1, 1) := by decide +kernel
theorem dX2_copyFrom_96 : decode cX2_copyFrom 96 = .ok (.getfield 43, 3) := by decide +kernel
theorem dX2_copyFrom_99 : decode cX2_copyFrom 99 = .ok (.putfield 43, 3) := by decide +kernel
theorem dX2_copyFrom_102 : decode cX2_copyFrom 102 = .ok (.aload_n 0, 1) := by decide +kernel
theorem dX2_copyFrom_103 : decode cX2_copyFrom 103 = .ok (.aload_n 1, 1) := by decide +kernel
theorem dX2_copyFrom_104 : decode cX2_copyFrom 104 = .ok (.getfield 46, 3) := by decide +kernel
theorem dX2_copyFrom_107 : decode cX2_copyFrom 107 = .ok (.putfield 46, 3) := by decide +kernel
theorem dX2_copyFrom_110 : decode cX2_copyFrom 110 = .ok (.return_, 1) := by decide +kernel
set_option maxRecDepth 10000 in
theorem vX2_copyFrom_0 {κ : eg_K} {d : Nat} (hd : 1 ≤ d) {post : eg_H → Prop} (M : eg_H) {l0 : Nat} (hl0 : l0 < 60) {l1 : Nat} (hl1 : l1 < 60) (h : (∀ M1 : eg_H, M1 = sI M (2, l0) 0 (M.1 (2, l1) 0) → (∀ M2 : eg_H, M2 = sI M1 (2, l0) 1 (M1.1 (2, l1) 1) → (∀ M3 : eg_H, M3 = sI M2 (2, l0) 2 (M2.1 (2, l1) 2) → (∀ M4 : eg_H, M4 = sC M3 (22, l1) (22, l0) (0 : Int32).toNatClampNeg (0 : Int32).toNatClampNeg (5 : Int32).toNatClampNeg → (∀ M5 : eg_H, M5 = sI M4 (2, l0) 4 (M4.1 (2, l1) 4) → (((M5.1 (2, l1) 5) = 0 ∨ (M5.1 (2, l1) 5) = 1) ∧ (∀ M6 : eg_H, M6 = sI M5 (2, l0) 5 (M5.1 (2, l1) 5) → (∀ M8 : eg_H, M8 = sI M6 (2, l0) 6 (M6.1 (2, l1) 6) → (∀ M9 : eg_H, M9 = sI M8 (2, l0) 7 (M8.1 (2, l1) 7) → (∀ M10 : eg_H, M10 = sI M9 (2, l0) 8 (M9.1 (2, l1) 8) → (∀ M11 : eg_H, M11 = sI M10 (2, l0) 9 (M10.1 (2, l1) 9) → (∀ M12 : eg_H, M12 = sI M11 (2, l0) 10 (M11.1 (2, l1) 10) → (∀ M13 : eg_H, M13 = sI M12 (2, l0) 11 (M12.1 (2, l1) 11) → (∀ M14 : eg_H, M14 = sI M13 (2, l0) 12 (M13.1 (2, l1) 12) → post M14))))))))))))))) : eg_W κ gC mtX2_copyFrom d (eQV κ gC post) 0 [(0, vR (2, l0)), (1, vR (2, l1))] [] M := by
  refine eg_aload_n 0 dX2_copyFrom_0 rfl rfl ?_
  refine eg_aload_n 1 dX2_copyFrom_1 rfl rfl ?_
  refine eg_getI dX2_copyFrom_2 fl_2_15 rfl trivial (obC_2 hl1) ?_
  refine en_putI dX2_copyFrom_5 fl_2_15 rfl rfl (obC_2 hl0) (fun M1 eM1 => ?_)
  have h := h M1 eM1
  refine eg_aload_n 0 dX2_copyFrom_8 rfl rfl ?_
  refine eg_aload_n 1 dX2_copyFrom_9 rfl rfl ?_
  refine eg_getI dX2_copyFrom_10 fl_2_53 rfl trivial (obC_2 hl1) ?_
  refine en_putI dX2_copyFrom_13 fl_2_53 rfl rfl (obC_2 hl0) (fun M2 eM2 => ?_)
  have h := h M2 eM2
  refine eg_aload_n 0 dX2_copyFrom_16 rfl rfl ?_
  refine eg_aload_n 1 dX2_copyFrom_17 rfl rfl ?_
  refine eg_getI dX2_copyFrom_18 fl_2_59 rfl trivial (obC_2 hl1) ?_
  refine en_putI dX2_copyFrom_21 fl_2_59 rfl rfl (obC_2 hl0) (fun M3 eM3 => ?_)
  have h := h M3 eM3
  refine eg_aload_n 1 dX2_copyFrom_24 rfl rfl ?_
  refine eg_getR dX2_copyFrom_25 fl_2_9 rfl rfl (obC_2 hl1) ?_
  show eg_W κ gC mtX2_copyFrom d (eQV κ gC post) 28 [(0, vR (2, l0)), (1, vR (2, l1))] [vR (22, l1)] M3
  refine eg_iconst dX2_copyFrom_28 ic_0 ?_
  refine eg_aload_n 0 dX2_copyFrom_29 rfl rfl ?_
  refine eg_getR dX2_copyFrom_30 fl_2_9 rfl rfl (obC_2 hl0) ?_
  show eg_W κ gC mtX2_copyFrom d (eQV κ gC post) 33 [(0, vR (2, l0)), (1, vR (2, l1))] [vR (22, l0), vI (0 : Int32), vR (22, l1)] M3
  refine eg_iconst dX2_copyFrom_33 ic_0 ?_
  refine eg_iconst dX2_copyFrom_34 ic_5 ?_
  refine en_copy dX2_copyFrom_35 ml_2_22 (anC_22 hl1) (anC_22 hl0) (by decide) (by decide) hd (fun M4 eM4 => ?_)
  have h := h M4 eM4
  refine eg_aload_n 0 dX2_copyFrom_38 rfl rfl ?_
  refine eg_aload_n 1 dX2_copyFrom_39 rfl rfl ?_
  refine eg_getI dX2_copyFrom_40 fl_2_62 rfl trivial (obC_2 hl1) ?_
  refine en_putI dX2_copyFrom_43 fl_2_62 rfl rfl (obC_2 hl0) (fun M5 eM5 => ?_)
  have h := h M5 eM5
  refine eg_aload_n 0 dX2_copyFrom_46 rfl rfl ?_
  refine eg_aload_n 1 dX2_copyFrom_47 rfl rfl ?_
  refine eg_getI dX2_copyFrom_48 fl_2_65 rfl trivial (obC_2 hl1) ?_
  obtain ⟨g7, h⟩ := h
  refine en_putZ dX2_copyFrom_51 fl_2_65 rfl rfl g7 (obC_2 hl0) (fun M6 eM6 => ?_)
  have h := h M6 eM6
  refine eg_aload_n 0 dX2_copyFrom_54 rfl rfl ?_
  refine eg_aload_n 1 dX2_copyFrom_55 rfl rfl ?_
  refine eg_getI dX2_copyFrom_56 fl_2_28 rfl trivial (obC_2 hl1) ?_
  refine en_putI dX2_copyFrom_59 fl_2_28 rfl rfl (obC_2 hl0) (fun M8 eM8 => ?_)
  have h := h M8 eM8
  refine eg_aload_n 0 dX2_copyFrom_62 rfl rfl ?_
  refine eg_aload_n 1 dX2_copyFrom_63 rfl rfl ?_
  refine eg_getI dX2_copyFrom_64 fl_2_31 rfl trivial (obC_2 hl1) ?_
  refine en_putI dX2_copyFrom_67 fl_2_31 rfl rfl (obC_2 hl0) (fun M9 eM9 => ?_)
  have h := h M9 eM9
  refine eg_aload_n 0 dX2_copyFrom_70 rfl rfl ?_
  refine eg_aload_n 1 dX2_copyFrom_71 rfl rfl ?_
  refine eg_getI dX2_copyFrom_72 fl_2_34 rfl trivial (obC_2 hl1) ?_
  refine en_putI dX2_copyFrom_75 fl_2_34 rfl rfl (obC_2 hl0) (fun M10 eM10 => ?_)
  have h := h M10 eM10
  refine eg_aload_n 0 dX2_copyFrom_78 rfl rfl ?_
  refine eg_aload_n 1 dX2_copyFrom_79 rfl rfl ?_
  refine eg_getI dX2_copyFrom_80 fl_2_37 rfl trivial (obC_2 hl1) ?_
  refine en_putI dX2_copyFrom_83 fl_2_37 rfl rfl (obC_2 hl0) (fun M11 eM11 => ?_)
  have h := h M11 eM11
  refine eg_aload_n 0 dX2_copyFrom_86 rfl rfl ?_
  refine eg_aload_n 1 dX2_copyFrom_87 rfl rfl ?_
  refine eg_getI dX2_copyFrom_88 fl_2_40 rfl trivial (obC_2 hl1) ?_
  refine en_putI dX2_copyFrom_91 fl_2_40 rfl rfl (obC_2 hl0) (fun M12 eM12 => ?_)
  have h := h M12 eM12
  refine eg_aload_n 0 dX2_copyFrom_94 rfl rfl ?_
  refine eg_aload_n 1 dX2_copyFrom_95 rfl rfl ?_
  refine eg_getI dX2_copyFrom_96 fl_2_43 rfl trivial (obC_2 hl1) ?_
  refine en_putI dX2_copyFrom_99 fl_2_43 rfl rfl (obC_2 hl0) (fun M13 eM13 => ?_)
  have h := h M13 eM13
  refine eg_aload_n 0 dX2_copyFrom_102 rfl rfl ?_
  refine eg_aload_n 1 dX2_copyFrom_103 rfl rfl ?_
  refine eg_getI dX2_copyFrom_104 fl_2_46 rfl trivial (obC_2 hl1) ?_
  refine en_putI dX2_copyFrom_107 fl_2_46 rfl rfl (obC_2 hl0) (fun M14 eM14 => ?_)
  have h := h M14 eM14
  exact eg_vreturn dX2_copyFrom_110 rfl h
theorem dX2_wantsLeft_0 : decode cX2_wantsLeft 0 = .ok (.iconst 0, 1) := by decide +kernel
theorem dX2_wantsLeft_1 : decode cX2_wantsLeft 1 = .ok (.istore_n 1, 1) := by decide +kernel
theorem dX2_wantsLeft_2 : decode cX2_wantsLeft 2 = .ok (.iconst 0, 1) := by decide +kernel
theorem dX2_wantsLeft_3 : decode cX2_wantsLeft 3 = .ok (.istore_n 2, 1) := by decide +kernel
theorem dX2_wantsLeft_4 : decode cX2_wantsLeft 4 = .ok (.iload_n 2, 1) := by decide +kernel
theorem dX2_wantsLeft_5 : decode cX2_wantsLeft 5 = .ok (.iconst 5, 1) := by decide +kernel
theorem dX2_wantsLeft_6 : decode cX2_wantsLeft 6 = .ok (.if_icmp .ge 18, 3) := by decide +kernel
theorem dX2_wantsLeft_9 : decode cX2_wantsLeft 9 = .ok (.iload_n 1, 1) := by decide +kernel
theorem dX2_wantsLeft_10 : decode cX2_wantsLeft 10 = .ok (.aload_n 0, 1) := by decide +kernel
theorem dX2_wantsLeft_11 : decode cX2_wantsLeft 11 = .ok (.getfield 9, 3) := by decide +kernel
theorem dX2_wantsLeft_14 : decode cX2_wantsLeft 14 = .ok (.iload_n 2, 1) := by decide +kernel
theorem dX2_wantsLeft_15 : decode cX2_wantsLeft 15 = .ok (.iaload, 1) := by decide +kernel
theorem dX2_wantsLeft_16 : decode cX2_wantsLeft 16 = .ok (.iadd, 1) := by decide +kernel
theorem dX2_wantsLeft_17 : decode cX2_wantsLeft 17 = .ok (.istore_n 1, 1) := by decide +kernel
theorem dX2_wantsLeft_18 : decode cX2_wantsLeft 18 = .ok (.iinc 2 1, 3) := by decide +kernel
theorem dX2_wantsLeft_21 : decode cX2_wantsLeft 21 = .ok (.goto (-17), 3) := by decide +kernel
theorem dX2_wantsLeft_24 : decode cX2_wantsLeft 24 = .ok (.iload_n 1, 1) := by decide +kernel
theorem dX2_wantsLeft_25 : decode cX2_wantsLeft 25 = .ok (.ireturn, 1) := by decide +kernel
set_option maxRecDepth 10000 in
theorem vX2_wantsLeft_0 {κ : eg_K} {d : Nat} {post : Int32 → eg_H → Prop} (M : eg_H) {l0 : Nat} (hl0 : l0 < 60) (h : eg_W κ gC mtX2_wantsLeft d (eQI κ gC post) 4 [(0, vR (2, l0)), (1, vI (0 : Int32)), (2, vI (0 : Int32))] [] M) : eg_W κ gC mtX2_wantsLeft d (eQI κ gC post) 0 [(0, vR (2, l0))] [] M := by
  refine eg_iconst dX2_wantsLeft_0 ic_0 ?_
  refine eg_istore_n dX2_wantsLeft_1 rfl (by decide) (ls1 := [(1, vI (0 : Int32)), (0, vR (2, l0))]) rfl ?_
  refine eg_iconst dX2_wantsLeft_2 ic_0 ?_
  refine eg_istore_n dX2_wantsLeft_3 rfl (by decide) (ls1 := [(2, vI (0 : Int32)), (1, vI (0 : Int32)), (0, vR (2, l0))]) rfl ?_
  refine eg_sub [2, 1, 0] rfl ?_
  exact h
set_option maxRecDepth 10000 in
theorem vX2_wantsLeft_4 {κ : eg_K} {d : Nat} {post : Int32 → eg_H → Prop} (M : eg_H) {l0 : Nat} (hl0 : l0 < 60) (l1 : Int32) (l2 : Int32) (h : ((5 : Int32) ≤ l2 → post l1 M) ∧ ((¬ (5 : Int32) ≤ l2) → (vp_in l2 5 ∧ (∀ x3 : Int32, x3 = l1 + (M.1 (22, l0) l2.toNatClampNeg) → (∀ x4 : Int32, x4 = l2 + (1 : Int32) → eg_W κ gC mtX2_wantsLeft d (eQI κ gC post) 4 [(0, vR (2, l0)), (1, vI x3), (2, vI x4)] [] M))))) : eg_W κ gC mtX2_wantsLeft d (eQI κ gC post) 4 [(0, vR (2, l0)), (1, vI l1), (2, vI l2)] [] M := by
  refine eg_iload_n 2 dX2_wantsLeft_4 rfl rfl ?_
  refine eg_iconst dX2_wantsLeft_5 ic_5 ?_
  refine eg_icmp_ge (tgt := 24) dX2_wantsLeft_6 rfl (fun c1 => ?_) (fun c1 => ?_)
  · have h := h.1 c1
    refine eg_iload_n 1 dX2_wantsLeft_24 rfl rfl ?_
    exact eg_ireturn dX2_wantsLeft_25 rfl h
  · have h := h.2 c1
    refine eg_iload_n 1 dX2_wantsLeft_9 rfl rfl ?_
    refine eg_aload_n 0 dX2_wantsLeft_10 rfl rfl ?_
    refine eg_getR dX2_wantsLeft_11 fl_2_9 rfl rfl (obC_2 hl0) ?_
    show eg_W κ gC mtX2_wantsLeft d (eQI κ gC post) 14 [(0, vR (2, l0)), (1, vI l1), (2, vI l2)] [vR (22, l0), vI l1] M
    refine eg_iload_n 2 dX2_wantsLeft_14 rfl rfl ?_
    obtain ⟨g2, h⟩ := h
    refine eg_iaload dX2_wantsLeft_15 (arC_22 hl0 g2) ?_
    refine eg_iadd dX2_wantsLeft_16 ?_
    refine en_istore_n (f := fun x3 => [(1, vI x3), (0, vR (2, l0)), (2, vI l2)]) dX2_wantsLeft_17 rfl (by decide) rfl (fun x3 ex3 => ?_)
    have h := h x3 ex3
    refine en_iinc (f := fun x4 => [(2, vI x4), (1, vI x3), (0, vR (2, l0))]) 2 dX2_wantsLeft_18 rfl rfl (by decide) rfl (fun x4 ex4 => ?_)
    have h := h x4 ex4
    refine eg_goto (tgt := 4) dX2_wantsLeft_21 rfl ?_
    refine eg_sub [2, 1, 0] rfl ?_
    exact h
theorem dX2_goWithout_0 : decode cX2_goWithout 0 = .ok (.aload_n 0, 1) := by decide +kernel
theorem dX2_goWithout_1 : decode cX2_goWithout 1 = .ok (.getfield 9, 3) := by decide +kernel
theorem dX2_goWithout_4 : decode cX2_goWithout 4 = .ok (.iload_n 1, 1) := by decide +kernel
theorem dX2_goWithout_5 : decode cX2_goWithout 5 = .ok (.iconst 0, 1) := by decide +kernel
theorem dX2_goWithout_6 : decode cX2_goWithout 6 = .ok (.iastore, 1) := by decide +kernel
theorem dX2_goWithout_7 : decode cX2_goWithout 7 = .ok (.aload_n 0, 1) := by decide +kernel
theorem dX2_goWithout_8 : decode cX2_goWithout 8 = .ok (.dup, 1) := by decide +kernel
theorem dX2_goWithout_9 : decode cX2_goWithout 9 = .ok (.getfield 43, 3) := by decide +kernel
theorem dX2_goWithout_12 : decode cX2_goWithout 12 = .ok (.iconst 1, 1) := by decide +kernel
theorem dX2_goWithout_13 : decode cX2_goWithout 13 = .ok (.iadd, 1) := by decide +kernel
theorem dX2_goWithout_14 : decode cX2_goWithout 14 = .ok (.putfield 43, 3) := by decide +kernel
theorem dX2_goWithout_17 : decode cX2_goWithout 17 = .ok (.return_, 1) := by decide +kernel
set_option maxRecDepth 10000 in
theorem vX2_goWithout_0 {κ : eg_K} {d : Nat} {post : eg_H → Prop} (M : eg_H) {l0 : Nat} (hl0 : l0 < 60) (l1 : Int32) (h : (vp_in l1 5 ∧ (∀ M2 : eg_H, M2 = sI M (22, l0) l1.toNatClampNeg (0 : Int32) → (∀ M3 : eg_H, M3 = sI M2 (2, l0) 11 ((M2.1 (2, l0) 11) + (1 : Int32)) → post M3)))) : eg_W κ gC mtX2_goWithout d (eQV κ gC post) 0 [(0, vR (2, l0)), (1, vI l1)] [] M := by
  refine eg_aload_n 0 dX2_goWithout_0 rfl rfl ?_
  refine eg_getR dX2_goWithout_1 fl_2_9 rfl rfl (obC_2 hl0) ?_
  show eg_W κ gC mtX2_goWithout d (eQV κ gC post) 4 [(0, vR (2, l0)), (1, vI l1)] [vR (22, l0)] M
  refine eg_iload_n 1 dX2_goWithout_4 rfl rfl ?_
  refine eg_iconst dX2_goWithout_5 ic_0 ?_
  obtain ⟨g1, h⟩ := h
  refine en_iastore dX2_goWithout_6 (arC_22 hl0 g1) (fun M2 eM2 => ?_)
  have h := h M2 eM2
  refine eg_aload_n 0 dX2_goWithout_7 rfl rfl ?_
  refine eg_dup dX2_goWithout_8 rfl ?_
  refine eg_getI dX2_goWithout_9 fl_2_43 rfl trivial (obC_2 hl0) ?_
  refine eg_iconst dX2_goWithout_12 ic_1 ?_
  refine eg_iadd dX2_goWithout_13 ?_
  refine en_putI dX2_goWithout_14 fl_2_43 rfl rfl (obC_2 hl0) (fun M3 eM3 => ?_)
  have h := h M3 eM3
  exact eg_vreturn dX2_goWithout_17 rfl h
