theorem dX1_copyFrom_0 : decode cX1_copyFrom 0 = .ok (.aload_n 0, 1) := by decide +kernel
theorem dX1_copyFrom_1 : decode cX1_copyFrom 1 = .ok (.aload_n 1, 1) := by decide +kernel
theorem dX1_copyFrom_2 : decode cX1_copyFrom 2 = .ok (.getfield 22, 3) := by decide +kernel
theorem dX1_copyFrom_5 : decode cX1_copyFrom 5 = .ok (.putfield 22, 3) := by decide +kernel
theorem dX1_copyFrom_8 : decode cX1_copyFrom 8 = .ok (.aload_n 0, 1) := by decide +kernel
theorem dX1_copyFrom_9 : decode cX1_copyFrom 9 = .ok (.aload_n 1, 1) := by decide +kernel
theorem dX1_copyFrom_10 : decode cX1_copyFrom 10 = .ok (.getfield 25, 3) := by decide +kernel
theorem dX1_copyFrom_13 : decode cX1_copyFrom 13 = .ok (.putfield 25, 3) := by decide +kernel
theorem dX1_copyFrom_16 : decode cX1_copyFrom 16 = .ok (.aload_n 0, 1) := by decide +kernel
theorem dX1_copyFrom_17 : decode cX1_copyFrom 17 = .ok (.aload_n 1, 1) := by decide +kernel
theorem dX1_copyFrom_18 : decode cX1_copyFrom 18 = .ok (.getfield 28, 3) := by decide +kernel
theorem dX1_copyFrom_21 : decode cX1_copyFrom 21 = .ok (.putfield 28, 3) := by decide +kernel
theorem dX1_copyFrom_24 : decode cX1_copyFrom 24 = .ok (.aload_n 0, 1) := by decide +kernel
theorem dX1_copyFrom_25 : decode cX1_copyFrom 25 = .ok (.aload_n 1, 1) := by decide +kernel
theorem dX1_copyFrom_26 : decode cX1_copyFrom 26 = .ok (.getfield 7, 3) := by decide +kernel
theorem dX1_copyFrom_29 : decode cX1_copyFrom 29 = .ok (.putfield 7, 3) := by decide +kernel
theorem dX1_copyFrom_32 : decode cX1_copyFrom 32 = .ok (.aload_n 0, 1) := by decide +kernel
theorem dX1_copyFrom_33 : decode cX1_copyFrom 33 = .ok (.aload_n 1, 1) := by decide +kernel
theorem dX1_copyFrom_34 : decode cX1_copyFrom 34 = .ok (.getfield 13, 3) := by decide +kernel
theorem dX1_copyFrom_37 : decode cX1_copyFrom 37 = .ok (.putfield 13, 3) := by decide +kernel
theorem dX1_copyFrom_40 : decode cX1_copyFrom 40 = .ok (.aload_n 0, 1) := by decide +kernel
theorem dX1_copyFrom_41 : decode cX1_copyFrom 41 = .ok (.aload_n 1, 1) := by decide +kernel
theorem dX1_copyFrom_42 : decode cX1_copyFrom 42 = .ok (.getfield 16, 3) := by decide +kernel
theorem dX1_copyFrom_45 : decode cX1_copyFrom 45 = .ok (.putfield 16, 3) := by decide +kernel
theorem dX1_copyFrom_48 : decode cX1_copyFrom 48 = .ok (.aload_n 0, 1) := by decide +kernel
theorem dX1_copyFrom_49 : decode cX1_copyFrom 49 = .ok (.aload_n 1, 1) := by decide +kernel
theorem dX1_copyFrom_50 : decode cX1_copyFrom 50 = .ok (.getfield 19, 3) := by decide +kernel
theorem dX1_copyFrom_53 : decode cX1_copyFrom 53 = .ok (.putfield 19, 3) := by decide +kernel
theorem dX1_copyFrom_56 : decode cX1_copyFrom 56 = .ok (.return_, 1) := by decide +kernel
set_option maxRecDepth 10000 in
theorem vX1_copyFrom_0 {κ : eg_K} {d : Nat} {post : eg_H → Prop} (M : eg_H) {l0 : Nat} (hl0 : l0 < 10) {l1 : Nat} (hl1 : l1 < 10) (h : (∀ M1 : eg_H, M1 = (sI M (1, l0) 0 (M.1 (1, l1) 0)) → (∀ M2 : eg_H, M2 = (sI M1 (1, l0) 1 (M1.1 (1, l1) 1)) → (∀ M3 : eg_H, M3 = (sI M2 (1, l0) 2 (M2.1 (1, l1) 2)) → (∀ M4 : eg_H, M4 = (sI M3 (1, l0) 3 (M3.1 (1, l1) 3)) → (∀ M5 : eg_H, M5 = (sI M4 (1, l0) 4 (M4.1 (1, l1) 4)) → (∀ M6 : eg_H, M6 = (sI M5 (1, l0) 5 (M5.1 (1, l1) 5)) → (∀ M7 : eg_H, M7 = (sI M6 (1, l0) 6 (M6.1 (1, l1) 6)) → post M7)))))))) : eg_W κ gC mtX1_copyFrom d (eQV κ gC post) 0 [(0, vR (1, l0)), (1, vR (1, l1))] [] M := by
  refine eg_aload_n 0 dX1_copyFrom_0 rfl rfl ?_
  refine eg_aload_n 1 dX1_copyFrom_1 rfl rfl ?_
  refine eg_getI dX1_copyFrom_2 fl_1_22 rfl trivial (obC_1 hl1) ?_
  refine en_putI dX1_copyFrom_5 fl_1_22 rfl rfl (obC_1 hl0) (fun M1 eM1 => ?_)
  have h := h M1 eM1
  refine eg_aload_n 0 dX1_copyFrom_8 rfl rfl ?_
  refine eg_aload_n 1 dX1_copyFrom_9 rfl rfl ?_
  refine eg_getI dX1_copyFrom_10 fl_1_25 rfl trivial (obC_1 hl1) ?_
  refine en_putI dX1_copyFrom_13 fl_1_25 rfl rfl (obC_1 hl0) (fun M2 eM2 => ?_)
  have h := h M2 eM2
  refine eg_aload_n 0 dX1_copyFrom_16 rfl rfl ?_
  refine eg_aload_n 1 dX1_copyFrom_17 rfl rfl ?_
  refine eg_getI dX1_copyFrom_18 fl_1_28 rfl trivial (obC_1 hl1) ?_
  refine en_putI dX1_copyFrom_21 fl_1_28 rfl rfl (obC_1 hl0) (fun M3 eM3 => ?_)
  have h := h M3 eM3
  refine eg_aload_n 0 dX1_copyFrom_24 rfl rfl ?_
  refine eg_aload_n 1 dX1_copyFrom_25 rfl rfl ?_
  refine eg_getI dX1_copyFrom_26 fl_1_7 rfl trivial (obC_1 hl1) ?_
  refine en_putI dX1_copyFrom_29 fl_1_7 rfl rfl (obC_1 hl0) (fun M4 eM4 => ?_)
  have h := h M4 eM4
  refine eg_aload_n 0 dX1_copyFrom_32 rfl rfl ?_
  refine eg_aload_n 1 dX1_copyFrom_33 rfl rfl ?_
  refine eg_getI dX1_copyFrom_34 fl_1_13 rfl trivial (obC_1 hl1) ?_
  refine en_putI dX1_copyFrom_37 fl_1_13 rfl rfl (obC_1 hl0) (fun M5 eM5 => ?_)
  have h := h M5 eM5
  refine eg_aload_n 0 dX1_copyFrom_40 rfl rfl ?_
  refine eg_aload_n 1 dX1_copyFrom_41 rfl rfl ?_
  refine eg_getI dX1_copyFrom_42 fl_1_16 rfl trivial (obC_1 hl1) ?_
  refine en_putI dX1_copyFrom_45 fl_1_16 rfl rfl (obC_1 hl0) (fun M6 eM6 => ?_)
  have h := h M6 eM6
  refine eg_aload_n 0 dX1_copyFrom_48 rfl rfl ?_
  refine eg_aload_n 1 dX1_copyFrom_49 rfl rfl ?_
  refine eg_getI dX1_copyFrom_50 fl_1_19 rfl trivial (obC_1 hl1) ?_
  refine en_putI dX1_copyFrom_53 fl_1_19 rfl rfl (obC_1 hl0) (fun M7 eM7 => ?_)
  have h := h M7 eM7
  exact eg_vreturn dX1_copyFrom_56 rfl h
theorem dX2_copyFrom_0 : decode cX2_copyFrom 0 = .ok (.aload_n 0, 1) := by decide +kernel
theorem dX2_copyFrom_1 : decode cX2_copyFrom 1 = .ok (.aload_n 1, 1) := by decide +kernel
theorem dX2_copyFrom_2 : decode cX2_copyFrom 2 = .ok (.getfield 15, 3) := by decide +kernel
theorem dX2_copyFrom_5 : decode cX2_copyFrom 5 = .ok (.putfield 15, 3) := by decide +kernel
theorem dX2_copyFrom_8 : decode cX2_copyFrom 8 = .ok (.aload_n 0, 1) := by decide +kernel
theorem dX2_copyFrom_9 : decode cX2_copyFrom 9 = .ok (.aload_n 1, 1) := by decide +kernel
theorem dX2_copyFrom_10 : decode cX2_copyFrom 10 = .ok (.getfield 53, 3) := by decide +kernel
theorem dX2_copyFrom_13 : decode cX2_copyFrom 13 = .ok (.putfield 53, 3) := by decide +kernel
theorem dX2_copyFrom_16 : decode cX2_copyFrom 16 = .ok (.aload_n 0, 1) := by decide +kernel
theorem dX2_copyFrom_17 : decode cX2_copyFrom 17 = .ok (.aload_n 1, 1) := by decide +kernel
theorem dX2_copyFrom_18 : decode cX2_copyFrom 18 = .ok (.getfield 59, 3) := by decide +kernel
theorem dX2_copyFrom_21 : decode cX2_copyFrom 21 = .ok (.putfield 59, 3) := by decide +kernel
theorem dX2_copyFrom_24 : decode cX2_copyFrom 24 = .ok (.aload_n 1, 1) := by decide +kernel
theorem dX2_copyFrom_25 : decode cX2_copyFrom 25 = .ok (.getfield 9, 3) := by decide +kernel
theorem dX2_copyFrom_28 : decode cX2_copyFrom 28 = .ok (.iconst 0, 1) := by decide +kernel
theorem dX2_copyFrom_29 : decode cX2_copyFrom 29 = .ok (.aload_n 0, 1) := by decide +kernel
theorem dX2_copyFrom_30 : decode cX2_copyFrom 30 = .ok (.getfield 9, 3) := by decide +kernel
theorem dX2_copyFrom_33 : decode cX2_copyFrom 33 = .ok (.iconst 0, 1) := by decide +kernel
theorem dX2_copyFrom_34 : decode cX2_copyFrom 34 = .ok (.iconst 5, 1) := by decide +kernel
theorem dX2_copyFrom_35 : decode cX2_copyFrom 35 = .ok (.invokestatic 22, 3) := by decide +kernel
theorem dX2_copyFrom_38 : decode cX2_copyFrom 38 = .ok (.aload_n 0, 1) := by decide +kernel
theorem dX2_copyFrom_39 : decode cX2_copyFrom 39 = .ok (.aload_n 1, 1) := by decide +kernel
theorem dX2_copyFrom_40 : decode cX2_copyFrom 40 = .ok (.getfield 62, 3) := by decide +kernel
theorem dX2_copyFrom_43 : decode cX2_copyFrom 43 = .ok (.putfield 62, 3) := by decide +kernel
theorem dX2_copyFrom_46 : decode cX2_copyFrom 46 = .ok (.aload_n 0, 1) := by decide +kernel
theorem dX2_copyFrom_47 : decode cX2_copyFrom 47 = .ok (.aload_n 1, 1) := by decide +kernel
theorem dX2_copyFrom_48 : decode cX2_copyFrom 48 = .ok (.getfield 65, 3) := by decide +kernel
theorem dX2_copyFrom_51 : decode cX2_copyFrom 51 = .ok (.putfield 65, 3) := by decide +kernel
theorem dX2_copyFrom_54 : decode cX2_copyFrom 54 = .ok (.aload_n 0, 1) := by decide +kernel
theorem dX2_copyFrom_55 : decode cX2_copyFrom 55 = .ok (.aload_n 1, 1) := by decide +kernel
theorem dX2_copyFrom_56 : decode cX2_copyFrom 56 = .ok (.getfield 28, 3) := by decide +kernel
theorem dX2_copyFrom_59 : decode cX2_copyFrom 59 = .ok (.putfield 28, 3) := by decide +kernel
theorem dX2_copyFrom_62 : decode cX2_copyFrom 62 = .ok (.aload_n 0, 1) := by decide +kernel
theorem dX2_copyFrom_63 : decode cX2_copyFrom 63 = .ok (.aload_n 1, 1) := by decide +kernel
theorem dX2_copyFrom_64 : decode cX2_copyFrom 64 = .ok (.getfield 31, 3) := by decide +kernel
theorem dX2_copyFrom_67 : decode cX2_copyFrom 67 = .ok (.putfield 31, 3) := by decide +kernel
theorem dX2_copyFrom_70 : decode cX2_copyFrom 70 = .ok (.aload_n 0, 1) := by decide +kernel
theorem dX2_copyFrom_71 : decode cX2_copyFrom 71 = .ok (.aload_n 1, 1) := by decide +kernel
theorem dX2_copyFrom_72 : decode cX2_copyFrom 72 = .ok (.getfield 34, 3) := by decide +kernel
theorem dX2_copyFrom_75 : decode cX2_copyFrom 75 = .ok (.putfield 34, 3) := by decide +kernel
theorem dX2_copyFrom_78 : decode cX2_copyFrom 78 = .ok (.aload_n 0, 1) := by decide +kernel
theorem dX2_copyFrom_79 : decode cX2_copyFrom 79 = .ok (.aload_n 1, 1) := by decide +kernel
theorem dX2_copyFrom_80 : decode cX2_copyFrom 80 = .ok (.getfield 37, 3) := by decide +kernel
theorem dX2_copyFrom_83 : decode cX2_copyFrom 83 = .ok (.putfield 37, 3) := by decide +kernel
theorem dX2_copyFrom_86 : decode cX2_copyFrom 86 = .ok (.aload_n 0, 1) := by decide +kernel
theorem dX2_copyFrom_87 : decode cX2_copyFrom 87 = .ok (.aload_n 1, 1) := by decide +kernel
theorem dX2_copyFrom_88 : decode cX2_copyFrom 88 = .ok (.getfield 40, 3) := by decide +kernel
theorem dX2_copyFrom_91 : decode cX2_copyFrom 91 = .ok (.putfield 40, 3) := by decide +kernel
theorem dX2_copyFrom_94 : decode cX2_copyFrom 94 = .ok (.aload_n 0, 1) := by decide +kernel
theorem dX2_copyFrom_95 : decode cX2_copyFrom 95 = .ok (.aload_n 1, 1) := by decide +kernel
theorem dX2_copyFrom_96 : decode cX2_copyFrom 96 = .ok (.getfield 43, 3) := by decide +kernel
theorem dX2_copyFrom_99 : decode cX2_copyFrom 99 = .ok (.putfield 43, 3) := by decide +kernel
theorem dX2_copyFrom_102 : decode cX2_copyFrom 102 = .ok (.aload_n 0, 1) := by decide +kernel
theorem dX2_copyFrom_103 : decode cX2_copyFrom 103 = .ok (.aload_n 1, 1) := by decide +kernel
theorem dX2_copyFrom_104 : decode cX2_copyFrom 104 = .ok (.getfield 46, 3) := by decide +kernel
theorem dX2_copyFrom_107 : decode cX2_copyFrom 107 = .ok (.putfield 46, 3) := by decide +kernel
theorem dX2_copyFrom_110 : decode cX2_copyFrom 110 = .ok (.return_, 1) := by decide +kernel
set_option maxRecDepth 10000 in
theorem vX2_copyFrom_0 {κ : eg_K} {d : Nat} (hd : 1 ≤ d) {post : eg_H → Prop} (M : eg_H) {l0 : Nat} (hl0 : l0 < 60) {l1 : Nat} (hl1 : l1 < 60) (h : (∀ M1 : eg_H, M1 = (sI M (2, l0) 0 (M.1 (2, l1) 0)) → (∀ M2 : eg_H, M2 = (sI M1 (2, l0) 1 (M1.1 (2, l1) 1)) → (∀ M3 : eg_H, M3 = (sI M2 (2, l0) 2 (M2.1 (2, l1) 2)) → (∀ M4 : eg_H, M4 = (sC M3 (22, l1) (22, l0) (0 : Int32).toNatClampNeg (0 : Int32).toNatClampNeg (5 : Int32).toNatClampNeg) → (∀ M5 : eg_H, M5 = (sI M4 (2, l0) 4 (M4.1 (2, l1) 4)) → (((M5.1 (2, l1) 5) = 0 ∨ (M5.1 (2, l1) 5) = 1) ∧ (∀ M6 : eg_H, M6 = (sI M5 (2, l0) 5 (M5.1 (2, l1) 5)) → (∀ M8 : eg_H, M8 = (sI M6 (2, l0) 6 (M6.1 (2, l1) 6)) → (∀ M9 : eg_H, M9 = (sI M8 (2, l0) 7 (M8.1 (2, l1) 7)) → (∀ M10 : eg_H, M10 = (sI M9 (2, l0) 8 (M9.1 (2, l1) 8)) → (∀ M11 : eg_H, M11 = (sI M10 (2, l0) 9 (M10.1 (2, l1) 9)) → (∀ M12 : eg_H, M12 = (sI M11 (2, l0) 10 (M11.1 (2, l1) 10)) → (∀ M13 : eg_H, M13 = (sI M12 (2, l0) 11 (M12.1 (2, l1) 11)) → (∀ M14 : eg_H, M14 = (sI M13 (2, l0) 12 (M13.1 (2, l1) 12)) → post M14))))))))))))))) : eg_W κ gC mtX2_copyFrom d (eQV κ gC post) 0 [(0, vR (2, l0)), (1, vR (2, l1))] [] M := by
  refine eg_aload_n 0 dX2_copyFrom_0 rfl rfl ?_
  refine eg_aload_n 1 dX2_copyFrom_1 rfl rfl ?_
  refine eg_getI dX2_copyFrom_2 fl_2_15 rfl trivial (obC_2 hl1) ?_
  refine en_putI dX2_copyFrom_5 fl_2_15 rfl rfl (obC_2 hl0) (fun M1 eM1 => ?_)
  have h := h M1 eM1
  refine eg_aload_n 0 dX2_copyFrom_8 rfl rfl ?_
  refine eg_aload_n 1 dX2_copyFrom_9 rfl rfl ?_
  refine eg_getI dX2_copyFrom_10 fl_2_53 rfl trivial (obC_2 hl1) ?_
  refine en_putI dX2_copyFrom_13 fl_2_53 rfl rfl (obC_2 hl0) (fun M2 eM2 => ?_)
  have h := h M2 eM2
  refine eg_aload_n 0 dX2_copyFrom_16 rfl rfl ?_
  refine eg_aload_n 1 dX2_copyFrom_17 rfl rfl ?_
  refine eg_getI dX2_copyFrom_18 fl_2_59 rfl trivial (obC_2 hl1) ?_
  refine en_putI dX2_copyFrom_21 fl_2_59 rfl rfl (obC_2 hl0) (fun M3 eM3 => ?_)
  have h := h M3 eM3
  refine eg_aload_n 1 dX2_copyFrom_24 rfl rfl ?_
  refine eg_getR dX2_copyFrom_25 fl_2_9 rfl rfl (obC_2 hl1) ?_
  show eg_W κ gC mtX2_copyFrom d (eQV κ gC post) 28 [(0, vR (2, l0)), (1, vR (2, l1))] [vR (22, l1)] M3
  refine eg_iconst dX2_copyFrom_28 ic_0 ?_
  refine eg_aload_n 0 dX2_copyFrom_29 rfl rfl ?_
  refine eg_getR dX2_copyFrom_30 fl_2_9 rfl rfl (obC_2 hl0) ?_
  show eg_W κ gC mtX2_copyFrom d (eQV κ gC post) 33 [(0, vR (2, l0)), (1, vR (2, l1))] [vR (22, l0), vI (0 : Int32), vR (22, l1)] M3
  refine eg_iconst dX2_copyFrom_33 ic_0 ?_
  refine eg_iconst dX2_copyFrom_34 ic_5 ?_
  refine en_copy dX2_copyFrom_35 ml_2_22 (anC_22 hl1) (anC_22 hl0) (by decide) (Nat.le_of_ble_eq_true rfl) (by omega) (fun M4 eM4 => ?_)
  have h := h M4 eM4
  refine eg_aload_n 0 dX2_copyFrom_38 rfl rfl ?_
  refine eg_aload_n 1 dX2_copyFrom_39 rfl rfl ?_
  refine eg_getI dX2_copyFrom_40 fl_2_62 rfl trivial (obC_2 hl1) ?_
  refine en_putI dX2_copyFrom_43 fl_2_62 rfl rfl (obC_2 hl0) (fun M5 eM5 => ?_)
  have h := h M5 eM5
  refine eg_aload_n 0 dX2_copyFrom_46 rfl rfl ?_
  refine eg_aload_n 1 dX2_copyFrom_47 rfl rfl ?_
  refine eg_getI dX2_copyFrom_48 fl_2_65 rfl trivial (obC_2 hl1) ?_
  obtain ⟨g7, h⟩ := h
  refine en_putZ dX2_copyFrom_51 fl_2_65 rfl rfl g7 (obC_2 hl0) (fun M6 eM6 => ?_)
  have h := h M6 eM6
  refine eg_aload_n 0 dX2_copyFrom_54 rfl rfl ?_
  refine eg_aload_n 1 dX2_copyFrom_55 rfl rfl ?_
  refine eg_getI dX2_copyFrom_56 fl_2_28 rfl trivial (obC_2 hl1) ?_
  refine en_putI dX2_copyFrom_59 fl_2_28 rfl rfl (obC_2 hl0) (fun M8 eM8 => ?_)
  have h := h M8 eM8
  refine eg_aload_n 0 dX2_copyFrom_62 rfl rfl ?_
  refine eg_aload_n 1 dX2_copyFrom_63 rfl rfl ?_
  refine eg_getI dX2_copyFrom_64 fl_2_31 rfl trivial (obC_2 hl1) ?_
  refine en_putI dX2_copyFrom_67 fl_2_31 rfl rfl (obC_2 hl0) (fun M9 eM9 => ?_)
  have h := h M9 eM9
  refine eg_aload_n 0 dX2_copyFrom_70 rfl rfl ?_
  refine eg_aload_n 1 dX2_copyFrom_71 rfl rfl ?_
  refine eg_getI dX2_copyFrom_72 fl_2_34 rfl trivial (obC_2 hl1) ?_
  refine en_putI dX2_copyFrom_75 fl_2_34 rfl rfl (obC_2 hl0) (fun M10 eM10 => ?_)
  have h := h M10 eM10
  refine eg_aload_n 0 dX2_copyFrom_78 rfl rfl ?_
  refine eg_aload_n 1 dX2_copyFrom_79 rfl rfl ?_
  refine eg_getI dX2_copyFrom_80 fl_2_37 rfl trivial (obC_2 hl1) ?_
  refine en_putI dX2_copyFrom_83 fl_2_37 rfl rfl (obC_2 hl0) (fun M11 eM11 => ?_)
  have h := h M11 eM11
  refine eg_aload_n 0 dX2_copyFrom_86 rfl rfl ?_
  refine eg_aload_n 1 dX2_copyFrom_87 rfl rfl ?_
  refine eg_getI dX2_copyFrom_88 fl_2_40 rfl trivial (obC_2 hl1) ?_
  refine en_putI dX2_copyFrom_91 fl_2_40 rfl rfl (obC_2 hl0) (fun M12 eM12 => ?_)
  have h := h M12 eM12
  refine eg_aload_n 0 dX2_copyFrom_94 rfl rfl ?_
  refine eg_aload_n 1 dX2_copyFrom_95 rfl rfl ?_
  refine eg_getI dX2_copyFrom_96 fl_2_43 rfl trivial (obC_2 hl1) ?_
  refine en_putI dX2_copyFrom_99 fl_2_43 rfl rfl (obC_2 hl0) (fun M13 eM13 => ?_)
  have h := h M13 eM13
  refine eg_aload_n 0 dX2_copyFrom_102 rfl rfl ?_
  refine eg_aload_n 1 dX2_copyFrom_103 rfl rfl ?_
  refine eg_getI dX2_copyFrom_104 fl_2_46 rfl trivial (obC_2 hl1) ?_
  refine en_putI dX2_copyFrom_107 fl_2_46 rfl rfl (obC_2 hl0) (fun M14 eM14 => ?_)
  have h := h M14 eM14
  exact eg_vreturn dX2_copyFrom_110 rfl h
theorem dX3_copyFrom_0 : decode cX3_copyFrom 0 = .ok (.aload_n 1, 1) := by decide +kernel
theorem dX3_copyFrom_1 : decode cX3_copyFrom 1 = .ok (.getfield 9, 3) := by decide +kernel
theorem dX3_copyFrom_4 : decode cX3_copyFrom 4 = .ok (.iconst 0, 1) := by decide +kernel
theorem dX3_copyFrom_5 : decode cX3_copyFrom 5 = .ok (.aload_n 0, 1) := by decide +kernel
theorem dX3_copyFrom_6 : decode cX3_copyFrom 6 = .ok (.getfield 9, 3) := by decide +kernel
theorem dX3_copyFrom_9 : decode cX3_copyFrom 9 = .ok (.iconst 0, 1) := by decide +kernel
theorem dX3_copyFrom_10 : decode cX3_copyFrom 10 = .ok (.bipush 64, 2) := by decide +kernel
theorem dX3_copyFrom_12 : decode cX3_copyFrom 12 = .ok (.invokestatic 35, 3) := by decide +kernel
theorem dX3_copyFrom_15 : decode cX3_copyFrom 15 = .ok (.aload_n 1, 1) := by decide +kernel
theorem dX3_copyFrom_16 : decode cX3_copyFrom 16 = .ok (.getfield 15, 3) := by decide +kernel
theorem dX3_copyFrom_19 : decode cX3_copyFrom 19 = .ok (.iconst 0, 1) := by decide +kernel
theorem dX3_copyFrom_20 : decode cX3_copyFrom 20 = .ok (.aload_n 0, 1) := by decide +kernel
theorem dX3_copyFrom_21 : decode cX3_copyFrom 21 = .ok (.getfield 15, 3) := by decide +kernel
theorem dX3_copyFrom_24 : decode cX3_copyFrom 24 = .ok (.iconst 0, 1) := by decide +kernel
theorem dX3_copyFrom_25 : decode cX3_copyFrom 25 = .ok (.bipush 7, 2) := by decide +kernel
theorem dX3_copyFrom_27 : decode cX3_copyFrom 27 = .ok (.invokestatic 35, 3) := by decide +kernel
theorem dX3_copyFrom_30 : decode cX3_copyFrom 30 = .ok (.aload_n 1, 1) := by decide +kernel
theorem dX3_copyFrom_31 : decode cX3_copyFrom 31 = .ok (.getfield 18, 3) := by decide +kernel
theorem dX3_copyFrom_34 : decode cX3_copyFrom 34 = .ok (.iconst 0, 1) := by decide +kernel
theorem dX3_copyFrom_35 : decode cX3_copyFrom 35 = .ok (.aload_n 0, 1) := by decide +kernel
theorem dX3_copyFrom_36 : decode cX3_copyFrom 36 = .ok (.getfield 18, 3) := by decide +kernel
theorem dX3_copyFrom_39 : decode cX3_copyFrom 39 = .ok (.iconst 0, 1) := by decide +kernel
theorem dX3_copyFrom_40 : decode cX3_copyFrom 40 = .ok (.bipush 7, 2) := by decide +kernel
theorem dX3_copyFrom_42 : decode cX3_copyFrom 42 = .ok (.invokestatic 35, 3) := by decide +kernel
theorem dX3_copyFrom_45 : decode cX3_copyFrom 45 = .ok (.aload_n 0, 1) := by decide +kernel
theorem dX3_copyFrom_46 : decode cX3_copyFrom 46 = .ok (.aload_n 1, 1) := by decide +kernel
theorem dX3_copyFrom_47 : decode cX3_copyFrom 47 = .ok (.getfield 28, 3) := by decide +kernel
theorem dX3_copyFrom_50 : decode cX3_copyFrom 50 = .ok (.putfield 28, 3) := by decide +kernel
theorem dX3_copyFrom_53 : decode cX3_copyFrom 53 = .ok (.aload_n 0, 1) := by decide +kernel
theorem dX3_copyFrom_54 : decode cX3_copyFrom 54 = .ok (.aload_n 1, 1) := by decide +kernel
theorem dX3_copyFrom_55 : decode cX3_copyFrom 55 = .ok (.getfield 32, 3) := by decide +kernel
theorem dX3_copyFrom_58 : decode cX3_copyFrom 58 = .ok (.putfield 32, 3) := by decide +kernel
theorem dX3_copyFrom_61 : decode cX3_copyFrom 61 = .ok (.return_, 1) := by decide +kernel
set_option maxRecDepth 10000 in
theorem vX3_copyFrom_0 {κ : eg_K} {d : Nat} (hd : 1 ≤ d) {post : eg_H → Prop} (M : eg_H) {l0 : Nat} (hl0 : l0 < 2) {l1 : Nat} (hl1 : l1 < 2) (h : (∀ M1 : eg_H, M1 = (sC M (23, l1) (23, l0) (0 : Int32).toNatClampNeg (0 : Int32).toNatClampNeg (64 : Int32).toNatClampNeg) → (∀ M2 : eg_H, M2 = (sC M1 (24, l1) (24, l0) (0 : Int32).toNatClampNeg (0 : Int32).toNatClampNeg (7 : Int32).toNatClampNeg) → (∀ M3 : eg_H, M3 = (sC M2 (25, l1) (25, l0) (0 : Int32).toNatClampNeg (0 : Int32).toNatClampNeg (7 : Int32).toNatClampNeg) → (∀ M4 : eg_H, M4 = (sI M3 (3, l0) 3 (M3.1 (3, l1) 3)) → (∀ M5 : eg_H, M5 = (sI M4 (3, l0) 4 (M4.1 (3, l1) 4)) → post M5)))))) : eg_W κ gC mtX3_copyFrom d (eQV κ gC post) 0 [(0, vR (3, l0)), (1, vR (3, l1))] [] M := by
  refine eg_aload_n 1 dX3_copyFrom_0 rfl rfl ?_
  refine eg_getR dX3_copyFrom_1 fl_3_9 rfl rfl (obC_3 hl1) ?_
  show eg_W κ gC mtX3_copyFrom d (eQV κ gC post) 4 [(0, vR (3, l0)), (1, vR (3, l1))] [vR (23, l1)] M
  refine eg_iconst dX3_copyFrom_4 ic_0 ?_
  refine eg_aload_n 0 dX3_copyFrom_5 rfl rfl ?_
  refine eg_getR dX3_copyFrom_6 fl_3_9 rfl rfl (obC_3 hl0) ?_
  show eg_W κ gC mtX3_copyFrom d (eQV κ gC post) 9 [(0, vR (3, l0)), (1, vR (3, l1))] [vR (23, l0), vI (0 : Int32), vR (23, l1)] M
  refine eg_iconst dX3_copyFrom_9 ic_0 ?_
  refine eg_bipush dX3_copyFrom_10 bp_64 ?_
  refine en_copy dX3_copyFrom_12 ml_3_35 (anC_23 hl1) (anC_23 hl0) (by decide) (Nat.le_of_ble_eq_true rfl) (by omega) (fun M1 eM1 => ?_)
  have h := h M1 eM1
  refine eg_aload_n 1 dX3_copyFrom_15 rfl rfl ?_
  refine eg_getR dX3_copyFrom_16 fl_3_15 rfl rfl (obC_3 hl1) ?_
  show eg_W κ gC mtX3_copyFrom d (eQV κ gC post) 19 [(0, vR (3, l0)), (1, vR (3, l1))] [vR (24, l1)] M1
  refine eg_iconst dX3_copyFrom_19 ic_0 ?_
  refine eg_aload_n 0 dX3_copyFrom_20 rfl rfl ?_
  refine eg_getR dX3_copyFrom_21 fl_3_15 rfl rfl (obC_3 hl0) ?_
  show eg_W κ gC mtX3_copyFrom d (eQV κ gC post) 24 [(0, vR (3, l0)), (1, vR (3, l1))] [vR (24, l0), vI (0 : Int32), vR (24, l1)] M1
  refine eg_iconst dX3_copyFrom_24 ic_0 ?_
  refine eg_bipush dX3_copyFrom_25 bp_7 ?_
  refine en_copy dX3_copyFrom_27 ml_3_35 (anC_24 hl1) (anC_24 hl0) (by decide) (Nat.le_of_ble_eq_true rfl) (by omega) (fun M2 eM2 => ?_)
  have h := h M2 eM2
  refine eg_aload_n 1 dX3_copyFrom_30 rfl rfl ?_
  refine eg_getR dX3_copyFrom_31 fl_3_18 rfl rfl (obC_3 hl1) ?_
  show eg_W κ gC mtX3_copyFrom d (eQV κ gC post) 34 [(0, vR (3, l0)), (1, vR (3, l1))] [vR (25, l1)] M2
  refine eg_iconst dX3_copyFrom_34 ic_0 ?_
  refine eg_aload_n 0 dX3_copyFrom_35 rfl rfl ?_
  refine eg_getR dX3_copyFrom_36 fl_3_18 rfl rfl (obC_3 hl0) ?_
  show eg_W κ gC mtX3_copyFrom d (eQV κ gC post) 39 [(0, vR (3, l0)), (1, vR (3, l1))] [vR (25, l0), vI (0 : Int32), vR (25, l1)] M2
  refine eg_iconst dX3_copyFrom_39 ic_0 ?_
  refine eg_bipush dX3_copyFrom_40 bp_7 ?_
  refine en_copy dX3_copyFrom_42 ml_3_35 (anC_25 hl1) (anC_25 hl0) (by decide) (Nat.le_of_ble_eq_true rfl) (by omega) (fun M3 eM3 => ?_)
  have h := h M3 eM3
  refine eg_aload_n 0 dX3_copyFrom_45 rfl rfl ?_
  refine eg_aload_n 1 dX3_copyFrom_46 rfl rfl ?_
  refine eg_getI dX3_copyFrom_47 fl_3_28 rfl trivial (obC_3 hl1) ?_
  refine en_putI dX3_copyFrom_50 fl_3_28 rfl rfl (obC_3 hl0) (fun M4 eM4 => ?_)
  have h := h M4 eM4
  refine eg_aload_n 0 dX3_copyFrom_53 rfl rfl ?_
  refine eg_aload_n 1 dX3_copyFrom_54 rfl rfl ?_
  refine eg_getI dX3_copyFrom_55 fl_3_32 rfl trivial (obC_3 hl1) ?_
  refine en_putI dX3_copyFrom_58 fl_3_32 rfl rfl (obC_3 hl0) (fun M5 eM5 => ?_)
  have h := h M5 eM5
  exact eg_vreturn dX3_copyFrom_61 rfl h
theorem dX4_copyFrom_0 : decode cX4_copyFrom 0 = .ok (.aload_n 0, 1) := by decide +kernel
theorem dX4_copyFrom_1 : decode cX4_copyFrom 1 = .ok (.aload_n 1, 1) := by decide +kernel
theorem dX4_copyFrom_2 : decode cX4_copyFrom 2 = .ok (.getfield 15, 3) := by decide +kernel
theorem dX4_copyFrom_5 : decode cX4_copyFrom 5 = .ok (.putfield 15, 3) := by decide +kernel
theorem dX4_copyFrom_8 : decode cX4_copyFrom 8 = .ok (.aload_n 0, 1) := by decide +kernel
theorem dX4_copyFrom_9 : decode cX4_copyFrom 9 = .ok (.aload_n 1, 1) := by decide +kernel
theorem dX4_copyFrom_10 : decode cX4_copyFrom 10 = .ok (.getfield 18, 3) := by decide +kernel
theorem dX4_copyFrom_13 : decode cX4_copyFrom 13 = .ok (.putfield 18, 3) := by decide +kernel
theorem dX4_copyFrom_16 : decode cX4_copyFrom 16 = .ok (.aload_n 0, 1) := by decide +kernel
theorem dX4_copyFrom_17 : decode cX4_copyFrom 17 = .ok (.aload_n 1, 1) := by decide +kernel
theorem dX4_copyFrom_18 : decode cX4_copyFrom 18 = .ok (.getfield 21, 3) := by decide +kernel
theorem dX4_copyFrom_21 : decode cX4_copyFrom 21 = .ok (.putfield 21, 3) := by decide +kernel
theorem dX4_copyFrom_24 : decode cX4_copyFrom 24 = .ok (.aload_n 0, 1) := by decide +kernel
theorem dX4_copyFrom_25 : decode cX4_copyFrom 25 = .ok (.aload_n 1, 1) := by decide +kernel
theorem dX4_copyFrom_26 : decode cX4_copyFrom 26 = .ok (.getfield 24, 3) := by decide +kernel
theorem dX4_copyFrom_29 : decode cX4_copyFrom 29 = .ok (.putfield 24, 3) := by decide +kernel
theorem dX4_copyFrom_32 : decode cX4_copyFrom 32 = .ok (.aload_n 0, 1) := by decide +kernel
theorem dX4_copyFrom_33 : decode cX4_copyFrom 33 = .ok (.aload_n 1, 1) := by decide +kernel
theorem dX4_copyFrom_34 : decode cX4_copyFrom 34 = .ok (.getfield 27, 3) := by decide +kernel
theorem dX4_copyFrom_37 : decode cX4_copyFrom 37 = .ok (.putfield 27, 3) := by decide +kernel
theorem dX4_copyFrom_40 : decode cX4_copyFrom 40 = .ok (.aload_n 0, 1) := by decide +kernel
theorem dX4_copyFrom_41 : decode cX4_copyFrom 41 = .ok (.aload_n 1, 1) := by decide +kernel
theorem dX4_copyFrom_42 : decode cX4_copyFrom 42 = .ok (.getfield 30, 3) := by decide +kernel
theorem dX4_copyFrom_45 : decode cX4_copyFrom 45 = .ok (.putfield 30, 3) := by decide +kernel
theorem dX4_copyFrom_48 : decode cX4_copyFrom 48 = .ok (.aload_n 0, 1) := by decide +kernel
theorem dX4_copyFrom_49 : decode cX4_copyFrom 49 = .ok (.aload_n 1, 1) := by decide +kernel
theorem dX4_copyFrom_50 : decode cX4_copyFrom 50 = .ok (.getfield 33, 3) := by decide +kernel
theorem dX4_copyFrom_53 : decode cX4_copyFrom 53 = .ok (.putfield 33, 3) := by decide +kernel
theorem dX4_copyFrom_56 : decode cX4_copyFrom 56 = .ok (.return_, 1) := by decide +kernel
set_option maxRecDepth 10000 in
theorem vX4_copyFrom_0 {κ : eg_K} {d : Nat} {post : eg_H → Prop} (M : eg_H) {l0 : Nat} (hl0 : l0 < 20) {l1 : Nat} (hl1 : l1 < 20) (h : (∀ M1 : eg_H, M1 = (sI M (4, l0) 0 (M.1 (4, l1) 0)) → (∀ M2 : eg_H, M2 = (sI M1 (4, l0) 1 (M1.1 (4, l1) 1)) → (∀ M3 : eg_H, M3 = (sI M2 (4, l0) 2 (M2.1 (4, l1) 2)) → (∀ M4 : eg_H, M4 = (sI M3 (4, l0) 3 (M3.1 (4, l1) 3)) → (∀ M5 : eg_H, M5 = (sI M4 (4, l0) 4 (M4.1 (4, l1) 4)) → (∀ M6 : eg_H, M6 = (sI M5 (4, l0) 5 (M5.1 (4, l1) 5)) → (∀ M7 : eg_H, M7 = (sI M6 (4, l0) 6 (M6.1 (4, l1) 6)) → post M7)))))))) : eg_W κ gC mtX4_copyFrom d (eQV κ gC post) 0 [(0, vR (4, l0)), (1, vR (4, l1))] [] M := by
  refine eg_aload_n 0 dX4_copyFrom_0 rfl rfl ?_
  refine eg_aload_n 1 dX4_copyFrom_1 rfl rfl ?_
  refine eg_getI dX4_copyFrom_2 fl_4_15 rfl trivial (obC_4 hl1) ?_
  refine en_putI dX4_copyFrom_5 fl_4_15 rfl rfl (obC_4 hl0) (fun M1 eM1 => ?_)
  have h := h M1 eM1
  refine eg_aload_n 0 dX4_copyFrom_8 rfl rfl ?_
  refine eg_aload_n 1 dX4_copyFrom_9 rfl rfl ?_
  refine eg_getI dX4_copyFrom_10 fl_4_18 rfl trivial (obC_4 hl1) ?_
  refine en_putI dX4_copyFrom_13 fl_4_18 rfl rfl (obC_4 hl0) (fun M2 eM2 => ?_)
  have h := h M2 eM2
  refine eg_aload_n 0 dX4_copyFrom_16 rfl rfl ?_
  refine eg_aload_n 1 dX4_copyFrom_17 rfl rfl ?_
  refine eg_getI dX4_copyFrom_18 fl_4_21 rfl trivial (obC_4 hl1) ?_
  refine en_putI dX4_copyFrom_21 fl_4_21 rfl rfl (obC_4 hl0) (fun M3 eM3 => ?_)
  have h := h M3 eM3
  refine eg_aload_n 0 dX4_copyFrom_24 rfl rfl ?_
  refine eg_aload_n 1 dX4_copyFrom_25 rfl rfl ?_
  refine eg_getI dX4_copyFrom_26 fl_4_24 rfl trivial (obC_4 hl1) ?_
  refine en_putI dX4_copyFrom_29 fl_4_24 rfl rfl (obC_4 hl0) (fun M4 eM4 => ?_)
  have h := h M4 eM4
  refine eg_aload_n 0 dX4_copyFrom_32 rfl rfl ?_
  refine eg_aload_n 1 dX4_copyFrom_33 rfl rfl ?_
  refine eg_getI dX4_copyFrom_34 fl_4_27 rfl trivial (obC_4 hl1) ?_
  refine en_putI dX4_copyFrom_37 fl_4_27 rfl rfl (obC_4 hl0) (fun M5 eM5 => ?_)
  have h := h M5 eM5
  refine eg_aload_n 0 dX4_copyFrom_40 rfl rfl ?_
  refine eg_aload_n 1 dX4_copyFrom_41 rfl rfl ?_
  refine eg_getI dX4_copyFrom_42 fl_4_30 rfl trivial (obC_4 hl1) ?_
  refine en_putI dX4_copyFrom_45 fl_4_30 rfl rfl (obC_4 hl0) (fun M6 eM6 => ?_)
  have h := h M6 eM6
  refine eg_aload_n 0 dX4_copyFrom_48 rfl rfl ?_
  refine eg_aload_n 1 dX4_copyFrom_49 rfl rfl ?_
  refine eg_getI dX4_copyFrom_50 fl_4_33 rfl trivial (obC_4 hl1) ?_
  refine en_putI dX4_copyFrom_53 fl_4_33 rfl rfl (obC_4 hl0) (fun M7 eM7 => ?_)
  have h := h M7 eM7
  exact eg_vreturn dX4_copyFrom_56 rfl h
theorem dX3_addLaw_0 : decode cX3_addLaw 0 = .ok (.aload_n 0, 1) := by decide +kernel
theorem dX3_addLaw_1 : decode cX3_addLaw 1 = .ok (.getfield 32, 3) := by decide +kernel
theorem dX3_addLaw_4 : decode cX3_addLaw 4 = .ok (.bipush 7, 2) := by decide +kernel
theorem dX3_addLaw_6 : decode cX3_addLaw 6 = .ok (.if_icmp .lt 5, 3) := by decide +kernel
theorem dX3_addLaw_9 : decode cX3_addLaw 9 = .ok (.iconst (-1), 1) := by decide +kernel
theorem dX3_addLaw_10 : decode cX3_addLaw 10 = .ok (.ireturn, 1) := by decide +kernel
theorem dX3_addLaw_11 : decode cX3_addLaw 11 = .ok (.aload_n 0, 1) := by decide +kernel
theorem dX3_addLaw_12 : decode cX3_addLaw 12 = .ok (.getfield 15, 3) := by decide +kernel
theorem dX3_addLaw_15 : decode cX3_addLaw 15 = .ok (.aload_n 0, 1) := by decide +kernel
theorem dX3_addLaw_16 : decode cX3_addLaw 16 = .ok (.getfield 32, 3) := by decide +kernel
theorem dX3_addLaw_19 : decode cX3_addLaw 19 = .ok (.iload_n 1, 1) := by decide +kernel
theorem dX3_addLaw_20 : decode cX3_addLaw 20 = .ok (.iastore, 1) := by decide +kernel
theorem dX3_addLaw_21 : decode cX3_addLaw 21 = .ok (.aload_n 0, 1) := by decide +kernel
theorem dX3_addLaw_22 : decode cX3_addLaw 22 = .ok (.getfield 18, 3) := by decide +kernel
theorem dX3_addLaw_25 : decode cX3_addLaw 25 = .ok (.aload_n 0, 1) := by decide +kernel
theorem dX3_addLaw_26 : decode cX3_addLaw 26 = .ok (.getfield 32, 3) := by decide +kernel
theorem dX3_addLaw_29 : decode cX3_addLaw 29 = .ok (.aload_n 0, 1) := by decide +kernel
theorem dX3_addLaw_30 : decode cX3_addLaw 30 = .ok (.getfield 28, 3) := by decide +kernel
theorem dX3_addLaw_33 : decode cX3_addLaw 33 = .ok (.iastore, 1) := by decide +kernel
theorem dX3_addLaw_34 : decode cX3_addLaw 34 = .ok (.aload_n 0, 1) := by decide +kernel
theorem dX3_addLaw_35 : decode cX3_addLaw 35 = .ok (.dup, 1) := by decide +kernel
theorem dX3_addLaw_36 : decode cX3_addLaw 36 = .ok (.getfield 32, 3) := by decide +kernel
theorem dX3_addLaw_39 : decode cX3_addLaw 39 = .ok (.iconst 1, 1) := by decide +kernel
theorem dX3_addLaw_40 : decode cX3_addLaw 40 = .ok (.iadd, 1) := by decide +kernel
theorem dX3_addLaw_41 : decode cX3_addLaw 41 = .ok (.putfield 32, 3) := by decide +kernel
theorem dX3_addLaw_44 : decode cX3_addLaw 44 = .ok (.aload_n 0, 1) := by decide +kernel
theorem dX3_addLaw_45 : decode cX3_addLaw 45 = .ok (.getfield 32, 3) := by decide +kernel
theorem dX3_addLaw_48 : decode cX3_addLaw 48 = .ok (.iconst 1, 1) := by decide +kernel
theorem dX3_addLaw_49 : decode cX3_addLaw 49 = .ok (.isub, 1) := by decide +kernel
theorem dX3_addLaw_50 : decode cX3_addLaw 50 = .ok (.ireturn, 1) := by decide +kernel
set_option maxRecDepth 10000 in
theorem vX3_addLaw_0 {κ : eg_K} {d : Nat} {post : Int32 → eg_H → Prop} (M : eg_H) {l0 : Nat} (hl0 : l0 < 2) (l1 : Int32) (h : ((M.1 (3, l0) 4) < (7 : Int32) → (vp_in (M.1 (3, l0) 4) 7 ∧ (∀ M3 : eg_H, M3 = (sI M (24, l0) (M.1 (3, l0) 4).toNatClampNeg l1) → (vp_in (M3.1 (3, l0) 4) 7 ∧ (∀ M5 : eg_H, M5 = (sI M3 (25, l0) (M3.1 (3, l0) 4).toNatClampNeg (M3.1 (3, l0) 3)) → (∀ M6 : eg_H, M6 = (sI M5 (3, l0) 4 ((M5.1 (3, l0) 4) + (1 : Int32))) → post ((M6.1 (3, l0) 4) - (1 : Int32)) M6)))))) ∧ ((¬ (M.1 (3, l0) 4) < (7 : Int32)) → post (-1 : Int32) M)) : eg_W κ gC mtX3_addLaw d (eQI κ gC post) 0 [(0, vR (3, l0)), (1, vI l1)] [] M := by
  refine eg_aload_n 0 dX3_addLaw_0 rfl rfl ?_
  refine eg_getI dX3_addLaw_1 fl_3_32 rfl trivial (obC_3 hl0) ?_
  refine eg_bipush dX3_addLaw_4 bp_7 ?_
  refine eg_icmp_lt (tgt := 11) dX3_addLaw_6 rfl (fun c1 => ?_) (fun c1 => ?_)
  · have h := h.1 c1
    refine eg_aload_n 0 dX3_addLaw_11 rfl rfl ?_
    refine eg_getR dX3_addLaw_12 fl_3_15 rfl rfl (obC_3 hl0) ?_
    show eg_W κ gC mtX3_addLaw d (eQI κ gC post) 15 [(0, vR (3, l0)), (1, vI l1)] [vR (24, l0)] M
    refine eg_aload_n 0 dX3_addLaw_15 rfl rfl ?_
    refine eg_getI dX3_addLaw_16 fl_3_32 rfl trivial (obC_3 hl0) ?_
    refine eg_iload_n 1 dX3_addLaw_19 rfl rfl ?_
    obtain ⟨g2, h⟩ := h
    refine en_iastore dX3_addLaw_20 (arC_24 hl0 g2) (fun M3 eM3 => ?_)
    have h := h M3 eM3
    refine eg_aload_n 0 dX3_addLaw_21 rfl rfl ?_
    refine eg_getR dX3_addLaw_22 fl_3_18 rfl rfl (obC_3 hl0) ?_
    show eg_W κ gC mtX3_addLaw d (eQI κ gC post) 25 [(0, vR (3, l0)), (1, vI l1)] [vR (25, l0)] M3
    refine eg_aload_n 0 dX3_addLaw_25 rfl rfl ?_
    refine eg_getI dX3_addLaw_26 fl_3_32 rfl trivial (obC_3 hl0) ?_
    refine eg_aload_n 0 dX3_addLaw_29 rfl rfl ?_
    refine eg_getI dX3_addLaw_30 fl_3_28 rfl trivial (obC_3 hl0) ?_
    obtain ⟨g4, h⟩ := h
    refine en_iastore dX3_addLaw_33 (arC_25 hl0 g4) (fun M5 eM5 => ?_)
    have h := h M5 eM5
    refine eg_aload_n 0 dX3_addLaw_34 rfl rfl ?_
    refine eg_dup dX3_addLaw_35 rfl ?_
    refine eg_getI dX3_addLaw_36 fl_3_32 rfl trivial (obC_3 hl0) ?_
    refine eg_iconst dX3_addLaw_39 ic_1 ?_
    refine eg_iadd dX3_addLaw_40 ?_
    refine en_putI dX3_addLaw_41 fl_3_32 rfl rfl (obC_3 hl0) (fun M6 eM6 => ?_)
    have h := h M6 eM6
    refine eg_aload_n 0 dX3_addLaw_44 rfl rfl ?_
    refine eg_getI dX3_addLaw_45 fl_3_32 rfl trivial (obC_3 hl0) ?_
    refine eg_iconst dX3_addLaw_48 ic_1 ?_
    refine eg_isub dX3_addLaw_49 ?_
    exact eg_ireturn dX3_addLaw_50 rfl h
  · have h := h.2 c1
    refine eg_iconst dX3_addLaw_9 ic_m1 ?_
    exact eg_ireturn dX3_addLaw_10 rfl h
theorem dX5_clear_0 : decode cX5_clear 0 = .ok (.aload_n 0, 1) := by decide +kernel
theorem dX5_clear_1 : decode cX5_clear 1 = .ok (.iconst 0, 1) := by decide +kernel
theorem dX5_clear_2 : decode cX5_clear 2 = .ok (.putfield 45, 3) := by decide +kernel
theorem dX5_clear_5 : decode cX5_clear 5 = .ok (.aload_n 0, 1) := by decide +kernel
theorem dX5_clear_6 : decode cX5_clear 6 = .ok (.iconst 0, 1) := by decide +kernel
theorem dX5_clear_7 : decode cX5_clear 7 = .ok (.putfield 49, 3) := by decide +kernel
theorem dX5_clear_10 : decode cX5_clear 10 = .ok (.aload_n 0, 1) := by decide +kernel
theorem dX5_clear_11 : decode cX5_clear 11 = .ok (.iconst 0, 1) := by decide +kernel
theorem dX5_clear_12 : decode cX5_clear 12 = .ok (.putfield 52, 3) := by decide +kernel
theorem dX5_clear_15 : decode cX5_clear 15 = .ok (.aload_n 0, 1) := by decide +kernel
theorem dX5_clear_16 : decode cX5_clear 16 = .ok (.iconst 0, 1) := by decide +kernel
theorem dX5_clear_17 : decode cX5_clear 17 = .ok (.putfield 56, 3) := by decide +kernel
theorem dX5_clear_20 : decode cX5_clear 20 = .ok (.aload_n 0, 1) := by decide +kernel
theorem dX5_clear_21 : decode cX5_clear 21 = .ok (.sipush 3600, 3) := by decide +kernel
theorem dX5_clear_24 : decode cX5_clear 24 = .ok (.putfield 59, 3) := by decide +kernel
theorem dX5_clear_27 : decode cX5_clear 27 = .ok (.aload_n 0, 1) := by decide +kernel
theorem dX5_clear_28 : decode cX5_clear 28 = .ok (.iconst 0, 1) := by decide +kernel
theorem dX5_clear_29 : decode cX5_clear 29 = .ok (.putfield 62, 3) := by decide +kernel
theorem dX5_clear_32 : decode cX5_clear 32 = .ok (.iconst 0, 1) := by decide +kernel
theorem dX5_clear_33 : decode cX5_clear 33 = .ok (.istore_n 1, 1) := by decide +kernel
theorem dX5_clear_34 : decode cX5_clear 34 = .ok (.iload_n 1, 1) := by decide +kernel
theorem dX5_clear_35 : decode cX5_clear 35 = .ok (.iconst 3, 1) := by decide +kernel
theorem dX5_clear_36 : decode cX5_clear 36 = .ok (.if_icmp .ge 16, 3) := by decide +kernel
theorem dX5_clear_39 : decode cX5_clear 39 = .ok (.aload_n 0, 1) := by decide +kernel
theorem dX5_clear_40 : decode cX5_clear 40 = .ok (.getfield 33, 3) := by decide +kernel
theorem dX5_clear_43 : decode cX5_clear 43 = .ok (.iload_n 1, 1) := by decide +kernel
theorem dX5_clear_44 : decode cX5_clear 44 = .ok (.iconst (-1), 1) := by decide +kernel
theorem dX5_clear_45 : decode cX5_clear 45 = .ok (.iastore, 1) := by decide +kernel
theorem dX5_clear_46 : decode cX5_clear 46 = .ok (.iinc 1 1, 3) := by decide +kernel
theorem dX5_clear_49 : decode cX5_clear 49 = .ok (.goto (-15), 3) := by decide +kernel
theorem dX5_clear_52 : decode cX5_clear 52 = .ok (.aload_n 0, 1) := by decide +kernel
theorem dX5_clear_53 : decode cX5_clear 53 = .ok (.getfield 39, 3) := by decide +kernel
theorem dX5_clear_56 : decode cX5_clear 56 = .ok (.invokevirtual 65, 3) := by decide +kernel
theorem dX5_clear_59 : decode cX5_clear 59 = .ok (.return_, 1) := by decide +kernel
set_option maxRecDepth 10000 in
theorem vX5_clear_0 {κ : eg_K} {d : Nat} {post : eg_H → Prop} (M : eg_H) {l0 : Nat} (hl0 : l0 < 2) (h : (∀ M1 : eg_H, M1 = (sI M (5, l0) 0 (0 : Int32)) → (∀ M2 : eg_H, M2 = (sI M1 (5, l0) 2 (0 : Int32)) → (∀ M3 : eg_H, M3 = (sI M2 (5, l0) 4 (0 : Int32)) → (∀ M4 : eg_H, M4 = (sI M3 (5, l0) 5 (0 : Int32)) → (∀ M5 : eg_H, M5 = (sI M4 (5, l0) 6 (3600 : Int32)) → (∀ M6 : eg_H, M6 = (sI M5 (5, l0) 7 (0 : Int32)) → eg_W κ gC mtX5_clear d (eQV κ gC post) 34 [(0, vR (5, l0)), (1, vI (0 : Int32))] [] M6))))))) : eg_W κ gC mtX5_clear d (eQV κ gC post) 0 [(0, vR (5, l0))] [] M := by
  refine eg_aload_n 0 dX5_clear_0 rfl rfl ?_
  refine eg_iconst dX5_clear_1 ic_0 ?_
  refine en_putI dX5_clear_2 fl_5_45 rfl rfl (obC_5 hl0) (fun M1 eM1 => ?_)
  have h := h M1 eM1
  refine eg_aload_n 0 dX5_clear_5 rfl rfl ?_
  refine eg_iconst dX5_clear_6 ic_0 ?_
  refine en_putI dX5_clear_7 fl_5_49 rfl rfl (obC_5 hl0) (fun M2 eM2 => ?_)
  have h := h M2 eM2
  refine eg_aload_n 0 dX5_clear_10 rfl rfl ?_
  refine eg_iconst dX5_clear_11 ic_0 ?_
  refine en_putZ dX5_clear_12 fl_5_52 rfl rfl (Or.inl rfl) (obC_5 hl0) (fun M3 eM3 => ?_)
  have h := h M3 eM3
  refine eg_aload_n 0 dX5_clear_15 rfl rfl ?_
  refine eg_iconst dX5_clear_16 ic_0 ?_
  refine en_putI dX5_clear_17 fl_5_56 rfl rfl (obC_5 hl0) (fun M4 eM4 => ?_)
  have h := h M4 eM4
  refine eg_aload_n 0 dX5_clear_20 rfl rfl ?_
  refine eg_sipush dX5_clear_21 sp_3600 ?_
  refine en_putI dX5_clear_24 fl_5_59 rfl rfl (obC_5 hl0) (fun M5 eM5 => ?_)
  have h := h M5 eM5
  refine eg_aload_n 0 dX5_clear_27 rfl rfl ?_
  refine eg_iconst dX5_clear_28 ic_0 ?_
  refine en_putI dX5_clear_29 fl_5_62 rfl rfl (obC_5 hl0) (fun M6 eM6 => ?_)
  have h := h M6 eM6
  refine eg_iconst dX5_clear_32 ic_0 ?_
  refine eg_istore_n dX5_clear_33 rfl (by decide) (ls1 := [(1, vI (0 : Int32)), (0, vR (5, l0))]) rfl ?_
  refine eg_sub [1, 0] rfl ?_
  exact h
set_option maxRecDepth 10000 in
theorem vX5_clear_34 {κ : eg_K} {d : Nat} (hd : 1 ≤ d) {post : eg_H → Prop} (M : eg_H) {l0 : Nat} (hl0 : l0 < 2) (l1 : Int32) (h : ((3 : Int32) ≤ l1 → (∀ M2 : eg_H, M2 = (fX3_clear M l0) → post M2)) ∧ ((¬ (3 : Int32) ≤ l1) → (vp_in l1 3 ∧ (∀ M5 : eg_H, M5 = (sI M (35, l0) l1.toNatClampNeg (-1 : Int32)) → (∀ x6 : Int32, x6 = (l1 + (1 : Int32)) → eg_W κ gC mtX5_clear d (eQV κ gC post) 34 [(0, vR (5, l0)), (1, vI x6)] [] M5))))) : eg_W κ gC mtX5_clear d (eQV κ gC post) 34 [(0, vR (5, l0)), (1, vI l1)] [] M := by
  refine eg_iload_n 1 dX5_clear_34 rfl rfl ?_
  refine eg_iconst dX5_clear_35 ic_3 ?_
  refine eg_icmp_ge (tgt := 52) dX5_clear_36 rfl (fun c1 => ?_) (fun c1 => ?_)
  · have h := h.1 c1
    refine eg_aload_n 0 dX5_clear_52 rfl rfl ?_
    refine eg_getR dX5_clear_53 fl_5_39 rfl rfl (obC_5 hl0) ?_
    show eg_W κ gC mtX5_clear d (eQV κ gC post) 56 [(0, vR (5, l0)), (1, vI l1)] [vR (3, l0)] M
    refine eg_callVV (av := []) (st := []) dX5_clear_56 ml_5_65 rfl rfl (obC_3 hl0) (by decide) rfl (Nat.le_of_ble_eq_true rfl) (eg_dd (by omega)) (sX3_clear (by omega) M l0 hl0 ) (fun M2 eM2 => ?_)
    have h := h M2 eM2
    exact eg_vreturn dX5_clear_59 rfl h
  · have h := h.2 c1
    refine eg_aload_n 0 dX5_clear_39 rfl rfl ?_
    refine eg_getR dX5_clear_40 fl_5_33 rfl rfl (obC_5 hl0) ?_
    show eg_W κ gC mtX5_clear d (eQV κ gC post) 43 [(0, vR (5, l0)), (1, vI l1)] [vR (35, l0)] M
    refine eg_iload_n 1 dX5_clear_43 rfl rfl ?_
    refine eg_iconst dX5_clear_44 ic_m1 ?_
    obtain ⟨g4, h⟩ := h
    refine en_iastore dX5_clear_45 (arC_35 hl0 g4) (fun M5 eM5 => ?_)
    have h := h M5 eM5
    refine en_iinc (f := fun x6 => [(1, vI x6), (0, vR (5, l0))]) 1 dX5_clear_46 rfl rfl (by decide) rfl (fun x6 ex6 => ?_)
    have h := h x6 ex6
    refine eg_goto (tgt := 34) dX5_clear_49 rfl ?_
    refine eg_sub [1, 0] rfl ?_
    exact h
theorem dX8_add_0 : decode cX8_add 0 = .ok (.aload_n 0, 1) := by decide +kernel
theorem dX8_add_1 : decode cX8_add 1 = .ok (.getfield 28, 3) := by decide +kernel
theorem dX8_add_4 : decode cX8_add 4 = .ok (.bipush 40, 2) := by decide +kernel
theorem dX8_add_6 : decode cX8_add 6 = .ok (.if_icmp .lt 5, 3) := by decide +kernel
theorem dX8_add_9 : decode cX8_add 9 = .ok (.iconst (-1), 1) := by decide +kernel
theorem dX8_add_10 : decode cX8_add 10 = .ok (.ireturn, 1) := by decide +kernel
theorem dX8_add_11 : decode cX8_add 11 = .ok (.aload_n 0, 1) := by decide +kernel
theorem dX8_add_12 : decode cX8_add 12 = .ok (.getfield 9, 3) := by decide +kernel
theorem dX8_add_15 : decode cX8_add 15 = .ok (.aload_n 0, 1) := by decide +kernel
theorem dX8_add_16 : decode cX8_add 16 = .ok (.getfield 28, 3) := by decide +kernel
theorem dX8_add_19 : decode cX8_add 19 = .ok (.iload_n 1, 1) := by decide +kernel
theorem dX8_add_20 : decode cX8_add 20 = .ok (.iastore, 1) := by decide +kernel
theorem dX8_add_21 : decode cX8_add 21 = .ok (.aload_n 0, 1) := by decide +kernel
theorem dX8_add_22 : decode cX8_add 22 = .ok (.getfield 15, 3) := by decide +kernel
theorem dX8_add_25 : decode cX8_add 25 = .ok (.aload_n 0, 1) := by decide +kernel
theorem dX8_add_26 : decode cX8_add 26 = .ok (.getfield 28, 3) := by decide +kernel
theorem dX8_add_29 : decode cX8_add 29 = .ok (.iload_n 2, 1) := by decide +kernel
theorem dX8_add_30 : decode cX8_add 30 = .ok (.iastore, 1) := by decide +kernel
theorem dX8_add_31 : decode cX8_add 31 = .ok (.aload_n 0, 1) := by decide +kernel
theorem dX8_add_32 : decode cX8_add 32 = .ok (.getfield 18, 3) := by decide +kernel
theorem dX8_add_35 : decode cX8_add 35 = .ok (.aload_n 0, 1) := by decide +kernel
theorem dX8_add_36 : decode cX8_add 36 = .ok (.getfield 28, 3) := by decide +kernel
theorem dX8_add_39 : decode cX8_add 39 = .ok (.iload_n 3, 1) := by decide +kernel
theorem dX8_add_40 : decode cX8_add 40 = .ok (.iastore, 1) := by decide +kernel
theorem dX8_add_41 : decode cX8_add 41 = .ok (.aload_n 0, 1) := by decide +kernel
theorem dX8_add_42 : decode cX8_add 42 = .ok (.getfield 21, 3) := by decide +kernel
theorem dX8_add_45 : decode cX8_add 45 = .ok (.aload_n 0, 1) := by decide +kernel
theorem dX8_add_46 : decode cX8_add 46 = .ok (.getfield 28, 3) := by decide +kernel
theorem dX8_add_49 : decode cX8_add 49 = .ok (.iload 4, 2) := by decide +kernel
theorem dX8_add_51 : decode cX8_add 51 = .ok (.iastore, 1) := by decide +kernel
theorem dX8_add_52 : decode cX8_add 52 = .ok (.aload_n 0, 1) := by decide +kernel
theorem dX8_add_53 : decode cX8_add 53 = .ok (.dup, 1) := by decide +kernel
theorem dX8_add_54 : decode cX8_add 54 = .ok (.getfield 28, 3) := by decide +kernel
theorem dX8_add_57 : decode cX8_add 57 = .ok (.iconst 1, 1) := by decide +kernel
theorem dX8_add_58 : decode cX8_add 58 = .ok (.iadd, 1) := by decide +kernel
theorem dX8_add_59 : decode cX8_add 59 = .ok (.putfield 28, 3) := by decide +kernel
theorem dX8_add_62 : decode cX8_add 62 = .ok (.aload_n 0, 1) := by decide +kernel
theorem dX8_add_63 : decode cX8_add 63 = .ok (.getfield 28, 3) := by decide +kernel
theorem dX8_add_66 : decode cX8_add 66 = .ok (.iconst 1, 1) := by decide +kernel
theorem dX8_add_67 : decode cX8_add 67 = .ok (.isub, 1) := by decide +kernel
theorem dX8_add_68 : decode cX8_add 68 = .ok (.ireturn, 1) := by decide +kernel
set_option maxRecDepth 10000 in
theorem vX8_add_0 {κ : eg_K} {d : Nat} {post : Int32 → eg_H → Prop} (M : eg_H) (l1 : Int32) (l2 : Int32) (l3 : Int32) (l4 : Int32) (h : ((M.1 (8, 0) 0) < (40 : Int32) → (vp_in (M.1 (8, 0) 0) 40 ∧ (∀ M3 : eg_H, M3 = (sI M (44, 0) (M.1 (8, 0) 0).toNatClampNeg l1) → (vp_in (M3.1 (8, 0) 0) 40 ∧ (∀ M5 : eg_H, M5 = (sI M3 (45, 0) (M3.1 (8, 0) 0).toNatClampNeg l2) → (vp_in (M5.1 (8, 0) 0) 40 ∧ (∀ M7 : eg_H, M7 = (sI M5 (46, 0) (M5.1 (8, 0) 0).toNatClampNeg l3) → (vp_in (M7.1 (8, 0) 0) 40 ∧ (∀ M9 : eg_H, M9 = (sI M7 (47, 0) (M7.1 (8, 0) 0).toNatClampNeg l4) → (∀ M10 : eg_H, M10 = (sI M9 (8, 0) 0 ((M9.1 (8, 0) 0) + (1 : Int32))) → post ((M10.1 (8, 0) 0) - (1 : Int32)) M10)))))))))) ∧ ((¬ (M.1 (8, 0) 0) < (40 : Int32)) → post (-1 : Int32) M)) : eg_W κ gC mtX8_add d (eQI κ gC post) 0 [(0, vR (8, 0)), (1, vI l1), (2, vI l2), (3, vI l3), (4, vI l4)] [] M := by
  refine eg_aload_n 0 dX8_add_0 rfl rfl ?_
  refine eg_getI dX8_add_1 fl_8_28 rfl trivial (obC_8 z1) ?_
  refine eg_bipush dX8_add_4 bp_40 ?_
  refine eg_icmp_lt (tgt := 11) dX8_add_6 rfl (fun c1 => ?_) (fun c1 => ?_)
  · have h := h.1 c1
    refine eg_aload_n 0 dX8_add_11 rfl rfl ?_
    refine eg_getR dX8_add_12 fl_8_9 rfl rfl (obC_8 z1) ?_
    show eg_W κ gC mtX8_add d (eQI κ gC post) 15 [(0, vR (8, 0)), (1, vI l1), (2, vI l2), (3, vI l3), (4, vI l4)] [vR (44, 0)] M
    refine eg_aload_n 0 dX8_add_15 rfl rfl ?_
    refine eg_getI dX8_add_16 fl_8_28 rfl trivial (obC_8 z1) ?_
    refine eg_iload_n 1 dX8_add_19 rfl rfl ?_
    obtain ⟨g2, h⟩ := h
    refine en_iastore dX8_add_20 (arC_44 z1 g2) (fun M3 eM3 => ?_)
    have h := h M3 eM3
    refine eg_aload_n 0 dX8_add_21 rfl rfl ?_
    refine eg_getR dX8_add_22 fl_8_15 rfl rfl (obC_8 z1) ?_
    show eg_W κ gC mtX8_add d (eQI κ gC post) 25 [(0, vR (8, 0)), (1, vI l1), (2, vI l2), (3, vI l3), (4, vI l4)] [vR (45, 0)] M3
    refine eg_aload_n 0 dX8_add_25 rfl rfl ?_
    refine eg_getI dX8_add_26 fl_8_28 rfl trivial (obC_8 z1) ?_
    refine eg_iload_n 2 dX8_add_29 rfl rfl ?_
    obtain ⟨g4, h⟩ := h
    refine en_iastore dX8_add_30 (arC_45 z1 g4) (fun M5 eM5 => ?_)
    have h := h M5 eM5
    refine eg_aload_n 0 dX8_add_31 rfl rfl ?_
    refine eg_getR dX8_add_32 fl_8_18 rfl rfl (obC_8 z1) ?_
    show eg_W κ gC mtX8_add d (eQI κ gC post) 35 [(0, vR (8, 0)), (1, vI l1), (2, vI l2), (3, vI l3), (4, vI l4)] [vR (46, 0)] M5
    refine eg_aload_n 0 dX8_add_35 rfl rfl ?_
    refine eg_getI dX8_add_36 fl_8_28 rfl trivial (obC_8 z1) ?_
    refine eg_iload_n 3 dX8_add_39 rfl rfl ?_
    obtain ⟨g6, h⟩ := h
    refine en_iastore dX8_add_40 (arC_46 z1 g6) (fun M7 eM7 => ?_)
    have h := h M7 eM7
    refine eg_aload_n 0 dX8_add_41 rfl rfl ?_
    refine eg_getR dX8_add_42 fl_8_21 rfl rfl (obC_8 z1) ?_
    show eg_W κ gC mtX8_add d (eQI κ gC post) 45 [(0, vR (8, 0)), (1, vI l1), (2, vI l2), (3, vI l3), (4, vI l4)] [vR (47, 0)] M7
    refine eg_aload_n 0 dX8_add_45 rfl rfl ?_
    refine eg_getI dX8_add_46 fl_8_28 rfl trivial (obC_8 z1) ?_
    refine eg_iload 4 dX8_add_49 rfl ?_
    obtain ⟨g8, h⟩ := h
    refine en_iastore dX8_add_51 (arC_47 z1 g8) (fun M9 eM9 => ?_)
    have h := h M9 eM9
    refine eg_aload_n 0 dX8_add_52 rfl rfl ?_
    refine eg_dup dX8_add_53 rfl ?_
    refine eg_getI dX8_add_54 fl_8_28 rfl trivial (obC_8 z1) ?_
    refine eg_iconst dX8_add_57 ic_1 ?_
    refine eg_iadd dX8_add_58 ?_
    refine en_putI dX8_add_59 fl_8_28 rfl rfl (obC_8 z1) (fun M10 eM10 => ?_)
    have h := h M10 eM10
    refine eg_aload_n 0 dX8_add_62 rfl rfl ?_
    refine eg_getI dX8_add_63 fl_8_28 rfl trivial (obC_8 z1) ?_
    refine eg_iconst dX8_add_66 ic_1 ?_
    refine eg_isub dX8_add_67 ?_
    exact eg_ireturn dX8_add_68 rfl h
  · have h := h.2 c1
    refine eg_iconst dX8_add_9 ic_m1 ?_
    exact eg_ireturn dX8_add_10 rfl h
