theorem dX9_begin_0 : decode cX9_begin 0 = .ok (.aload_n 0, 1) := by decide +kernel
theorem dX9_begin_1 : decode cX9_begin 1 = .ok (.iload_n 1, 1) := by decide +kernel
theorem dX9_begin_2 : decode cX9_begin 2 = .ok (.aload_n 0, 1) := by decide +kernel
theorem dX9_begin_3 : decode cX9_begin 3 = .ok (.getfield 9, 3) := by decide +kernel
theorem dX9_begin_6 : decode cX9_begin 6 = .ok (.arraylength, 1) := by decide +kernel
theorem dX9_begin_7 : decode cX9_begin 7 = .ok (.if_icmp .ge 7, 3) := by decide +kernel
theorem dX9_begin_10 : decode cX9_begin 10 = .ok (.iload_n 1, 1) := by decide +kernel
theorem dX9_begin_11 : decode cX9_begin 11 = .ok (.goto 8, 3) := by decide +kernel
theorem dX9_begin_14 : decode cX9_begin 14 = .ok (.aload_n 0, 1) := by decide +kernel
theorem dX9_begin_15 : decode cX9_begin 15 = .ok (.getfield 9, 3) := by decide +kernel
theorem dX9_begin_18 : decode cX9_begin 18 = .ok (.arraylength, 1) := by decide +kernel
theorem dX9_begin_19 : decode cX9_begin 19 = .ok (.putfield 15, 3) := by decide +kernel
theorem dX9_begin_22 : decode cX9_begin 22 = .ok (.aload_n 0, 1) := by decide +kernel
theorem dX9_begin_23 : decode cX9_begin 23 = .ok (.iconst 0, 1) := by decide +kernel
theorem dX9_begin_24 : decode cX9_begin 24 = .ok (.putfield 19, 3) := by decide +kernel
theorem dX9_begin_27 : decode cX9_begin 27 = .ok (.aload_n 0, 1) := by decide +kernel
theorem dX9_begin_28 : decode cX9_begin 28 = .ok (.invokevirtual 22, 3) := by decide +kernel
theorem dX9_begin_31 : decode cX9_begin 31 = .ok (.return_, 1) := by decide +kernel
set_option maxRecDepth 10000 in
theorem vX9_begin_0 {κ : eg_K} {d : Nat} (hd : 1 ≤ d) {post : eg_H → Prop} (M : eg_H) (l1 : Int32) (h : (∀ x1 : Int32, x1 = ((if (800 : Int32) ≤ l1 then (800 : Int32) else l1)) → (∀ M2 : eg_H, M2 = (sI M (9, 0) 1 x1) → (∀ M3 : eg_H, M3 = (sI M2 (9, 0) 3 (0 : Int32)) → eCV κ gC mtX9_advance d [vR (9, 0)] M3 (fun M4 => post M4))))) : eg_W κ gC mtX9_begin d (eQV κ gC post) 0 [(0, vR (9, 0)), (1, vI l1)] [] M := by
  refine eg_aload_n 0 dX9_begin_0 rfl rfl ?_
  refine eg_iload_n 1 dX9_begin_1 rfl rfl ?_
  refine eg_aload_n 0 dX9_begin_2 rfl rfl ?_
  refine eg_getR dX9_begin_3 fl_9_9 rfl rfl (obC_9 z1) ?_
  show eg_W κ gC mtX9_begin d (eQV κ gC post) 6 [(0, vR (9, 0)), (1, vI l1)] [vR (50, 0), vI l1, vR (9, 0)] M
  refine eg_alen (t := 1) (n := 800) dX9_begin_6 (anC_50 z1) (by decide) ?_
  show eg_W κ gC mtX9_begin d (eQV κ gC post) 7 [(0, vR (9, 0)), (1, vI l1)] [vI (800 : Int32), vI l1, vR (9, 0)] M
  have J : ∀ x1 : Int32, x1 = (if (800 : Int32) ≤ l1 then (800 : Int32) else l1) → eg_W κ gC mtX9_begin d (eQV κ gC post) 19 [(0, vR (9, 0)), (1, vI l1)] [vI x1, vR (9, 0)] M := by
    intro x1 ex1
    have h := h x1 ex1
    refine en_putI dX9_begin_19 fl_9_15 rfl rfl (obC_9 z1) (fun M2 eM2 => ?_)
    have h := h M2 eM2
    refine eg_aload_n 0 dX9_begin_22 rfl rfl ?_
    refine eg_iconst dX9_begin_23 ic_0 ?_
    refine en_putI dX9_begin_24 fl_9_19 rfl rfl (obC_9 z1) (fun M3 eM3 => ?_)
    have h := h M3 eM3
    refine eg_aload_n 0 dX9_begin_27 rfl rfl ?_
    obtain ⟨q5, hq5, h⟩ := h
    refine eg_callVV (av := []) (st := []) dX9_begin_28 ml_9_22 rfl rfl (obC_9 z1) (by decide) rfl (Nat.le_of_ble_eq_true rfl) (eg_dd (by omega)) hq5 (fun M4 hp => ?_)
    have h := h M4 hp
    exact eg_vreturn dX9_begin_31 rfl h
  clear h
  refine eg_icmp_ge (tgt := 14) dX9_begin_7 rfl (fun c6 => ?_) (fun c6 => ?_)
  · refine eg_aload_n 0 dX9_begin_14 rfl rfl ?_
    refine eg_getR dX9_begin_15 fl_9_9 rfl rfl (obC_9 z1) ?_
    show eg_W κ gC mtX9_begin d (eQV κ gC post) 18 [(0, vR (9, 0)), (1, vI l1)] [vR (50, 0), vR (9, 0)] M
    refine eg_alen (t := 1) (n := 800) dX9_begin_18 (anC_50 z1) (by decide) ?_
    show eg_W κ gC mtX9_begin d (eQV κ gC post) 19 [(0, vR (9, 0)), (1, vI l1)] [vI (800 : Int32), vR (9, 0)] M
    exact J _ (by rw [if_pos c6])
  · refine eg_iload_n 1 dX9_begin_10 rfl rfl ?_
    refine eg_goto (tgt := 19) dX9_begin_11 rfl ?_
    exact J _ (by rw [if_neg c6])
theorem dX9_advance_0 : decode cX9_advance 0 = .ok (.aload_n 0, 1) := by decide +kernel
theorem dX9_advance_1 : decode cX9_advance 1 = .ok (.getfield 19, 3) := by decide +kernel
theorem dX9_advance_4 : decode cX9_advance 4 = .ok (.istore_n 1, 1) := by decide +kernel
theorem dX9_advance_5 : decode cX9_advance 5 = .ok (.iload_n 1, 1) := by decide +kernel
theorem dX9_advance_6 : decode cX9_advance 6 = .ok (.aload_n 0, 1) := by decide +kernel
theorem dX9_advance_7 : decode cX9_advance 7 = .ok (.getfield 15, 3) := by decide +kernel
theorem dX9_advance_10 : decode cX9_advance 10 = .ok (.if_icmp .ge 31, 3) := by decide +kernel
theorem dX9_advance_13 : decode cX9_advance 13 = .ok (.aload_n 0, 1) := by decide +kernel
theorem dX9_advance_14 : decode cX9_advance 14 = .ok (.getfield 9, 3) := by decide +kernel
theorem dX9_advance_17 : decode cX9_advance 17 = .ok (.iload_n 1, 1) := by decide +kernel
theorem dX9_advance_18 : decode cX9_advance 18 = .ok (.baload, 1) := by decide +kernel
theorem dX9_advance_19 : decode cX9_advance 19 = .ok (.bipush 10, 2) := by decide +kernel
theorem dX9_advance_21 : decode cX9_advance 21 = .ok (.if_icmp .eq 14, 3) := by decide +kernel
theorem dX9_advance_24 : decode cX9_advance 24 = .ok (.aload_n 0, 1) := by decide +kernel
theorem dX9_advance_25 : decode cX9_advance 25 = .ok (.getfield 9, 3) := by decide +kernel
theorem dX9_advance_28 : decode cX9_advance 28 = .ok (.iload_n 1, 1) := by decide +kernel
theorem dX9_advance_29 : decode cX9_advance 29 = .ok (.baload, 1) := by decide +kernel
theorem dX9_advance_30 : decode cX9_advance 30 = .ok (.bipush 32, 2) := by decide +kernel
theorem dX9_advance_32 : decode cX9_advance 32 = .ok (.if_icmp .ne 9, 3) := by decide +kernel
theorem dX9_advance_35 : decode cX9_advance 35 = .ok (.iinc 1 1, 3) := by decide +kernel
theorem dX9_advance_38 : decode cX9_advance 38 = .ok (.goto (-33), 3) := by decide +kernel
theorem dX9_advance_41 : decode cX9_advance 41 = .ok (.aload_n 0, 1) := by decide +kernel
theorem dX9_advance_42 : decode cX9_advance 42 = .ok (.iload_n 1, 1) := by decide +kernel
theorem dX9_advance_43 : decode cX9_advance 43 = .ok (.putfield 25, 3) := by decide +kernel
theorem dX9_advance_46 : decode cX9_advance 46 = .ok (.aload_n 0, 1) := by decide +kernel
theorem dX9_advance_47 : decode cX9_advance 47 = .ok (.iload_n 1, 1) := by decide +kernel
theorem dX9_advance_48 : decode cX9_advance 48 = .ok (.putfield 19, 3) := by decide +kernel
theorem dX9_advance_51 : decode cX9_advance 51 = .ok (.iload_n 1, 1) := by decide +kernel
theorem dX9_advance_52 : decode cX9_advance 52 = .ok (.aload_n 0, 1) := by decide +kernel
theorem dX9_advance_53 : decode cX9_advance 53 = .ok (.getfield 15, 3) := by decide +kernel
theorem dX9_advance_56 : decode cX9_advance 56 = .ok (.if_icmp .lt 12, 3) := by decide +kernel
theorem dX9_advance_59 : decode cX9_advance 59 = .ok (.aload_n 0, 1) := by decide +kernel
theorem dX9_advance_60 : decode cX9_advance 60 = .ok (.bipush 39, 2) := by decide +kernel
theorem dX9_advance_62 : decode cX9_advance 62 = .ok (.putfield 28, 3) := by decide +kernel
theorem dX9_advance_65 : decode cX9_advance 65 = .ok (.goto 65, 3) := by decide +kernel
theorem dX9_advance_68 : decode cX9_advance 68 = .ok (.aload_n 0, 1) := by decide +kernel
theorem dX9_advance_69 : decode cX9_advance 69 = .ok (.getfield 9, 3) := by decide +kernel
theorem dX9_advance_72 : decode cX9_advance 72 = .ok (.iload_n 1, 1) := by decide +kernel
theorem dX9_advance_73 : decode cX9_advance 73 = .ok (.baload, 1) := by decide +kernel
theorem dX9_advance_74 : decode cX9_advance 74 = .ok (.bipush 97, 2) := by decide +kernel
theorem dX9_advance_76 : decode cX9_advance 76 = .ok (.if_icmp .lt 21, 3) := by decide +kernel
theorem dX9_advance_79 : decode cX9_advance 79 = .ok (.aload_n 0, 1) := by decide +kernel
theorem dX9_advance_80 : decode cX9_advance 80 = .ok (.getfield 9, 3) := by decide +kernel
theorem dX9_advance_83 : decode cX9_advance 83 = .ok (.iload_n 1, 1) := by decide +kernel
theorem dX9_advance_84 : decode cX9_advance 84 = .ok (.baload, 1) := by decide +kernel
theorem dX9_advance_85 : decode cX9_advance 85 = .ok (.bipush 122, 2) := by decide +kernel
theorem dX9_advance_87 : decode cX9_advance 87 = .ok (.if_icmp .gt 10, 3) := by decide +kernel
theorem dX9_advance_90 : decode cX9_advance 90 = .ok (.aload_n 0, 1) := by decide +kernel
theorem dX9_advance_91 : decode cX9_advance 91 = .ok (.invokevirtual 31, 3) := by decide +kernel
theorem dX9_advance_94 : decode cX9_advance 94 = .ok (.goto 36, 3) := by decide +kernel
theorem dX9_advance_97 : decode cX9_advance 97 = .ok (.aload_n 0, 1) := by decide +kernel
theorem dX9_advance_98 : decode cX9_advance 98 = .ok (.getfield 9, 3) := by decide +kernel
theorem dX9_advance_101 : decode cX9_advance 101 = .ok (.iload_n 1, 1) := by decide +kernel
theorem dX9_advance_102 : decode cX9_advance 102 = .ok (.baload, 1) := by decide +kernel
theorem dX9_advance_103 : decode cX9_advance 103 = .ok (.bipush 48, 2) := by decide +kernel
theorem dX9_advance_105 : decode cX9_advance 105 = .ok (.if_icmp .lt 21, 3) := by decide +kernel
theorem dX9_advance_108 : decode cX9_advance 108 = .ok (.aload_n 0, 1) := by decide +kernel
theorem dX9_advance_109 : decode cX9_advance 109 = .ok (.getfield 9, 3) := by decide +kernel
theorem dX9_advance_112 : decode cX9_advance 112 = .ok (.iload_n 1, 1) := by decide +kernel
theorem dX9_advance_113 : decode cX9_advance 113 = .ok (.baload, 1) := by decide +kernel
theorem dX9_advance_114 : decode cX9_advance 114 = .ok (.bipush 57, 2) := by decide +kernel
theorem dX9_advance_116 : decode cX9_advance 116 = .ok (.if_icmp .gt 10, 3) := by decide +kernel
theorem dX9_advance_119 : decode cX9_advance 119 = .ok (.aload_n 0, 1) := by decide +kernel
theorem dX9_advance_120 : decode cX9_advance 120 = .ok (.invokevirtual 34, 3) := by decide +kernel
theorem dX9_advance_123 : decode cX9_advance 123 = .ok (.goto 7, 3) := by decide +kernel
theorem dX9_advance_126 : decode cX9_advance 126 = .ok (.aload_n 0, 1) := by decide +kernel
theorem dX9_advance_127 : decode cX9_advance 127 = .ok (.invokevirtual 37, 3) := by decide +kernel
theorem dX9_advance_130 : decode cX9_advance 130 = .ok (.return_, 1) := by decide +kernel
set_option maxRecDepth 10000 in
theorem vX9_advance_0 {κ : eg_K} {d : Nat} {post : eg_H → Prop} (M : eg_H)  (h : (∀ x1 : Int32, x1 = (M.1 (9, 0) 3) → eg_W κ gC mtX9_advance d (eQV κ gC post) 5 [(0, vR (9, 0)), (1, vI x1)] [] M)) : eg_W κ gC mtX9_advance d (eQV κ gC post) 0 [(0, vR (9, 0))] [] M := by
  refine eg_aload_n 0 dX9_advance_0 rfl rfl ?_
  refine eg_getI dX9_advance_1 fl_9_19 rfl trivial (obC_9 z1) ?_
  refine en_istore_n (f := fun x1 => [(1, vI x1), (0, vR (9, 0))]) dX9_advance_4 rfl (by decide) rfl (fun x1 ex1 => ?_)
  have h := h x1 ex1
  refine eg_sub [1, 0] rfl ?_
  exact h
set_option maxRecDepth 10000 in
theorem vX9_advance_5 {κ : eg_K} {d : Nat} {post : eg_H → Prop} (M : eg_H) (l1 : Int32) (h : ((M.1 (9, 0) 1) ≤ l1 → eg_W κ gC mtX9_advance d (eQV κ gC post) 41 [(0, vR (9, 0)), (1, vI l1)] [] M) ∧ ((¬ (M.1 (9, 0) 1) ≤ l1) → (vp_in l1 800 ∧ ((M.1 (50, 0) l1.toNatClampNeg) = (10 : Int32) → (∀ x4 : Int32, x4 = (l1 + (1 : Int32)) → eg_W κ gC mtX9_advance d (eQV κ gC post) 5 [(0, vR (9, 0)), (1, vI x4)] [] M)) ∧ ((¬ (M.1 (50, 0) l1.toNatClampNeg) = (10 : Int32)) → ((¬ (M.1 (50, 0) l1.toNatClampNeg) = (32 : Int32)) → eg_W κ gC mtX9_advance d (eQV κ gC post) 41 [(0, vR (9, 0)), (1, vI l1)] [] M) ∧ ((M.1 (50, 0) l1.toNatClampNeg) = (32 : Int32) → (∀ x6 : Int32, x6 = (l1 + (1 : Int32)) → eg_W κ gC mtX9_advance d (eQV κ gC post) 5 [(0, vR (9, 0)), (1, vI x6)] [] M)))))) : eg_W κ gC mtX9_advance d (eQV κ gC post) 5 [(0, vR (9, 0)), (1, vI l1)] [] M := by
  refine eg_iload_n 1 dX9_advance_5 rfl rfl ?_
  refine eg_aload_n 0 dX9_advance_6 rfl rfl ?_
  refine eg_getI dX9_advance_7 fl_9_15 rfl trivial (obC_9 z1) ?_
  refine eg_icmp_ge (tgt := 41) dX9_advance_10 rfl (fun c1 => ?_) (fun c1 => ?_)
  · have h := h.1 c1
    exact h
  · have h := h.2 c1
    refine eg_aload_n 0 dX9_advance_13 rfl rfl ?_
    refine eg_getR dX9_advance_14 fl_9_9 rfl rfl (obC_9 z1) ?_
    show eg_W κ gC mtX9_advance d (eQV κ gC post) 17 [(0, vR (9, 0)), (1, vI l1)] [vR (50, 0)] M
    refine eg_iload_n 1 dX9_advance_17 rfl rfl ?_
    obtain ⟨g2, h⟩ := h
    refine eg_baload dX9_advance_18 (arC_50 z1 g2) ?_
    refine eg_bipush dX9_advance_19 bp_10 ?_
    refine eg_icmp_eq (tgt := 35) dX9_advance_21 rfl (fun c3 => ?_) (fun c3 => ?_)
    · have h := h.1 c3
      refine en_iinc (f := fun x4 => [(1, vI x4), (0, vR (9, 0))]) 1 dX9_advance_35 rfl rfl (by decide) rfl (fun x4 ex4 => ?_)
      have h := h x4 ex4
      refine eg_goto (tgt := 5) dX9_advance_38 rfl ?_
      refine eg_sub [1, 0] rfl ?_
      exact h
    · have h := h.2 c3
      refine eg_aload_n 0 dX9_advance_24 rfl rfl ?_
      refine eg_getR dX9_advance_25 fl_9_9 rfl rfl (obC_9 z1) ?_
      show eg_W κ gC mtX9_advance d (eQV κ gC post) 28 [(0, vR (9, 0)), (1, vI l1)] [vR (50, 0)] M
      refine eg_iload_n 1 dX9_advance_28 rfl rfl ?_
      refine eg_baload dX9_advance_29 (arC_50 z1 g2) ?_
      refine eg_bipush dX9_advance_30 bp_32 ?_
      refine eg_icmp_ne (tgt := 41) dX9_advance_32 rfl (fun c5 => ?_) (fun c5 => ?_)
      · have h := h.1 c5
        exact h
      · have h := h.2 c5
        refine en_iinc (f := fun x6 => [(1, vI x6), (0, vR (9, 0))]) 1 dX9_advance_35 rfl rfl (by decide) rfl (fun x6 ex6 => ?_)
        have h := h x6 ex6
        refine eg_goto (tgt := 5) dX9_advance_38 rfl ?_
        refine eg_sub [1, 0] rfl ?_
        exact h
set_option maxRecDepth 10000 in
theorem vX9_advance_41 {κ : eg_K} {d : Nat} (hd : 1 ≤ d) {post : eg_H → Prop} (M : eg_H) (l1 : Int32) (h : (∀ M1 : eg_H, M1 = (sI M (9, 0) 2 l1) → (∀ M2 : eg_H, M2 = (sI M1 (9, 0) 3 l1) → (l1 < (M2.1 (9, 0) 1) → (vp_in l1 800 ∧ ((M2.1 (50, 0) l1.toNatClampNeg) < (97 : Int32) → eg_W κ gC mtX9_advance d (eQV κ gC post) 97 [(0, vR (9, 0)), (1, vI l1)] [] M2) ∧ ((¬ (M2.1 (50, 0) l1.toNatClampNeg) < (97 : Int32)) → ((122 : Int32) < (M2.1 (50, 0) l1.toNatClampNeg) → eg_W κ gC mtX9_advance d (eQV κ gC post) 97 [(0, vR (9, 0)), (1, vI l1)] [] M2) ∧ ((¬ (122 : Int32) < (M2.1 (50, 0) l1.toNatClampNeg)) → eCV κ gC mtX9_readWord d [vR (9, 0)] M2 (fun M7 => post M7))))) ∧ ((¬ l1 < (M2.1 (9, 0) 1)) → (∀ M9 : eg_H, M9 = (sI M2 (9, 0) 4 (39 : Int32)) → post M9))))) : eg_W κ gC mtX9_advance d (eQV κ gC post) 41 [(0, vR (9, 0)), (1, vI l1)] [] M := by
  refine eg_aload_n 0 dX9_advance_41 rfl rfl ?_
  refine eg_iload_n 1 dX9_advance_42 rfl rfl ?_
  refine en_putI dX9_advance_43 fl_9_25 rfl rfl (obC_9 z1) (fun M1 eM1 => ?_)
  have h := h M1 eM1
  refine eg_aload_n 0 dX9_advance_46 rfl rfl ?_
  refine eg_iload_n 1 dX9_advance_47 rfl rfl ?_
  refine en_putI dX9_advance_48 fl_9_19 rfl rfl (obC_9 z1) (fun M2 eM2 => ?_)
  have h := h M2 eM2
  refine eg_iload_n 1 dX9_advance_51 rfl rfl ?_
  refine eg_aload_n 0 dX9_advance_52 rfl rfl ?_
  refine eg_getI dX9_advance_53 fl_9_15 rfl trivial (obC_9 z1) ?_
  refine eg_icmp_lt (tgt := 68) dX9_advance_56 rfl (fun c3 => ?_) (fun c3 => ?_)
  · have h := h.1 c3
    refine eg_aload_n 0 dX9_advance_68 rfl rfl ?_
    refine eg_getR dX9_advance_69 fl_9_9 rfl rfl (obC_9 z1) ?_
    show eg_W κ gC mtX9_advance d (eQV κ gC post) 72 [(0, vR (9, 0)), (1, vI l1)] [vR (50, 0)] M2
    refine eg_iload_n 1 dX9_advance_72 rfl rfl ?_
    obtain ⟨g4, h⟩ := h
    refine eg_baload dX9_advance_73 (arC_50 z1 g4) ?_
    refine eg_bipush dX9_advance_74 bp_97 ?_
    refine eg_icmp_lt (tgt := 97) dX9_advance_76 rfl (fun c5 => ?_) (fun c5 => ?_)
    · have h := h.1 c5
      exact h
    · have h := h.2 c5
      refine eg_aload_n 0 dX9_advance_79 rfl rfl ?_
      refine eg_getR dX9_advance_80 fl_9_9 rfl rfl (obC_9 z1) ?_
      show eg_W κ gC mtX9_advance d (eQV κ gC post) 83 [(0, vR (9, 0)), (1, vI l1)] [vR (50, 0)] M2
      refine eg_iload_n 1 dX9_advance_83 rfl rfl ?_
      refine eg_baload dX9_advance_84 (arC_50 z1 g4) ?_
      refine eg_bipush dX9_advance_85 bp_122 ?_
      refine eg_icmp_gt (tgt := 97) dX9_advance_87 rfl (fun c6 => ?_) (fun c6 => ?_)
      · have h := h.1 c6
        exact h
      · have h := h.2 c6
        refine eg_aload_n 0 dX9_advance_90 rfl rfl ?_
        obtain ⟨q8, hq8, h⟩ := h
        refine eg_callVV (av := []) (st := []) dX9_advance_91 ml_9_31 rfl rfl (obC_9 z1) (by decide) rfl (Nat.le_of_ble_eq_true rfl) (eg_dd (by omega)) hq8 (fun M7 hp => ?_)
        have h := h M7 hp
        refine eg_goto (tgt := 130) dX9_advance_94 rfl ?_
        exact eg_vreturn dX9_advance_130 rfl h
  · have h := h.2 c3
    refine eg_aload_n 0 dX9_advance_59 rfl rfl ?_
    refine eg_bipush dX9_advance_60 bp_39 ?_
    refine en_putI dX9_advance_62 fl_9_28 rfl rfl (obC_9 z1) (fun M9 eM9 => ?_)
    have h := h M9 eM9
    refine eg_goto (tgt := 130) dX9_advance_65 rfl ?_
    exact eg_vreturn dX9_advance_130 rfl h
set_option maxRecDepth 10000 in
theorem vX9_advance_97 {κ : eg_K} {d : Nat} (hd : 1 ≤ d) {post : eg_H → Prop} (M : eg_H) (l1 : Int32) (h : (vp_in l1 800 ∧ ((M.1 (50, 0) l1.toNatClampNeg) < (48 : Int32) → eCV κ gC mtX9_readSign d [vR (9, 0)] M (fun M3 => post M3)) ∧ ((¬ (M.1 (50, 0) l1.toNatClampNeg) < (48 : Int32)) → ((57 : Int32) < (M.1 (50, 0) l1.toNatClampNeg) → eCV κ gC mtX9_readSign d [vR (9, 0)] M (fun M6 => post M6)) ∧ ((¬ (57 : Int32) < (M.1 (50, 0) l1.toNatClampNeg)) → eCV κ gC mtX9_readNumber d [vR (9, 0)] M (fun M8 => post M8))))) : eg_W κ gC mtX9_advance d (eQV κ gC post) 97 [(0, vR (9, 0)), (1, vI l1)] [] M := by
  refine eg_aload_n 0 dX9_advance_97 rfl rfl ?_
  refine eg_getR dX9_advance_98 fl_9_9 rfl rfl (obC_9 z1) ?_
  show eg_W κ gC mtX9_advance d (eQV κ gC post) 101 [(0, vR (9, 0)), (1, vI l1)] [vR (50, 0)] M
  refine eg_iload_n 1 dX9_advance_101 rfl rfl ?_
  obtain ⟨g1, h⟩ := h
  refine eg_baload dX9_advance_102 (arC_50 z1 g1) ?_
  refine eg_bipush dX9_advance_103 bp_48 ?_
  refine eg_icmp_lt (tgt := 126) dX9_advance_105 rfl (fun c2 => ?_) (fun c2 => ?_)
  · have h := h.1 c2
    refine eg_aload_n 0 dX9_advance_126 rfl rfl ?_
    obtain ⟨q4, hq4, h⟩ := h
    refine eg_callVV (av := []) (st := []) dX9_advance_127 ml_9_37 rfl rfl (obC_9 z1) (by decide) rfl (Nat.le_of_ble_eq_true rfl) (eg_dd (by omega)) hq4 (fun M3 hp => ?_)
    have h := h M3 hp
    exact eg_vreturn dX9_advance_130 rfl h
  · have h := h.2 c2
    refine eg_aload_n 0 dX9_advance_108 rfl rfl ?_
    refine eg_getR dX9_advance_109 fl_9_9 rfl rfl (obC_9 z1) ?_
    show eg_W κ gC mtX9_advance d (eQV κ gC post) 112 [(0, vR (9, 0)), (1, vI l1)] [vR (50, 0)] M
    refine eg_iload_n 1 dX9_advance_112 rfl rfl ?_
    refine eg_baload dX9_advance_113 (arC_50 z1 g1) ?_
    refine eg_bipush dX9_advance_114 bp_57 ?_
    refine eg_icmp_gt (tgt := 126) dX9_advance_116 rfl (fun c5 => ?_) (fun c5 => ?_)
    · have h := h.1 c5
      refine eg_aload_n 0 dX9_advance_126 rfl rfl ?_
      obtain ⟨q7, hq7, h⟩ := h
      refine eg_callVV (av := []) (st := []) dX9_advance_127 ml_9_37 rfl rfl (obC_9 z1) (by decide) rfl (Nat.le_of_ble_eq_true rfl) (eg_dd (by omega)) hq7 (fun M6 hp => ?_)
      have h := h M6 hp
      exact eg_vreturn dX9_advance_130 rfl h
    · have h := h.2 c5
      refine eg_aload_n 0 dX9_advance_119 rfl rfl ?_
      obtain ⟨q9, hq9, h⟩ := h
      refine eg_callVV (av := []) (st := []) dX9_advance_120 ml_9_34 rfl rfl (obC_9 z1) (by decide) rfl (Nat.le_of_ble_eq_true rfl) (eg_dd (by omega)) hq9 (fun M8 hp => ?_)
      have h := h M8 hp
      refine eg_goto (tgt := 130) dX9_advance_123 rfl ?_
      exact eg_vreturn dX9_advance_130 rfl h
theorem dX9_readWord_0 : decode cX9_readWord 0 = .ok (.aload_n 0, 1) := by decide +kernel
theorem dX9_readWord_1 : decode cX9_readWord 1 = .ok (.getfield 25, 3) := by decide +kernel
theorem dX9_readWord_4 : decode cX9_readWord 4 = .ok (.istore_n 1, 1) := by decide +kernel
theorem dX9_readWord_5 : decode cX9_readWord 5 = .ok (.iconst 0, 1) := by decide +kernel
theorem dX9_readWord_6 : decode cX9_readWord 6 = .ok (.istore_n 2, 1) := by decide +kernel
theorem dX9_readWord_7 : decode cX9_readWord 7 = .ok (.iload_n 1, 1) := by decide +kernel
theorem dX9_readWord_8 : decode cX9_readWord 8 = .ok (.aload_n 0, 1) := by decide +kernel
theorem dX9_readWord_9 : decode cX9_readWord 9 = .ok (.getfield 15, 3) := by decide +kernel
theorem dX9_readWord_12 : decode cX9_readWord 12 = .ok (.if_icmp .ge 62, 3) := by decide +kernel
theorem dX9_readWord_15 : decode cX9_readWord 15 = .ok (.aload_n 0, 1) := by decide +kernel
theorem dX9_readWord_16 : decode cX9_readWord 16 = .ok (.getfield 9, 3) := by decide +kernel
theorem dX9_readWord_19 : decode cX9_readWord 19 = .ok (.iload_n 1, 1) := by decide +kernel
theorem dX9_readWord_20 : decode cX9_readWord 20 = .ok (.baload, 1) := by decide +kernel
theorem dX9_readWord_21 : decode cX9_readWord 21 = .ok (.bipush 97, 2) := by decide +kernel
theorem dX9_readWord_23 : decode cX9_readWord 23 = .ok (.if_icmp .lt 51, 3) := by decide +kernel
theorem dX9_readWord_26 : decode cX9_readWord 26 = .ok (.aload_n 0, 1) := by decide +kernel
theorem dX9_readWord_27 : decode cX9_readWord 27 = .ok (.getfield 9, 3) := by decide +kernel
theorem dX9_readWord_30 : decode cX9_readWord 30 = .ok (.iload_n 1, 1) := by decide +kernel
theorem dX9_readWord_31 : decode cX9_readWord 31 = .ok (.baload, 1) := by decide +kernel
theorem dX9_readWord_32 : decode cX9_readWord 32 = .ok (.bipush 122, 2) := by decide +kernel
theorem dX9_readWord_34 : decode cX9_readWord 34 = .ok (.if_icmp .gt 40, 3) := by decide +kernel
theorem dX9_readWord_37 : decode cX9_readWord 37 = .ok (.iconst 5, 1) := by decide +kernel
theorem dX9_readWord_38 : decode cX9_readWord 38 = .ok (.iload_n 1, 1) := by decide +kernel
theorem dX9_readWord_39 : decode cX9_readWord 39 = .ok (.aload_n 0, 1) := by decide +kernel
theorem dX9_readWord_40 : decode cX9_readWord 40 = .ok (.getfield 25, 3) := by decide +kernel
theorem dX9_readWord_43 : decode cX9_readWord 43 = .ok (.isub, 1) := by decide +kernel
theorem dX9_readWord_44 : decode cX9_readWord 44 = .ok (.isub, 1) := by decide +kernel
theorem dX9_readWord_45 : decode cX9_readWord 45 = .ok (.istore_n 3, 1) := by decide +kernel
theorem dX9_readWord_46 : decode cX9_readWord 46 = .ok (.iload_n 3, 1) := by decide +kernel
theorem dX9_readWord_47 : decode cX9_readWord 47 = .ok (.ifCond .lt 21, 3) := by decide +kernel
theorem dX9_readWord_50 : decode cX9_readWord 50 = .ok (.iload_n 2, 1) := by decide +kernel
theorem dX9_readWord_51 : decode cX9_readWord 51 = .ok (.aload_n 0, 1) := by decide +kernel
theorem dX9_readWord_52 : decode cX9_readWord 52 = .ok (.getfield 9, 3) := by decide +kernel
theorem dX9_readWord_55 : decode cX9_readWord 55 = .ok (.iload_n 1, 1) := by decide +kernel
theorem dX9_readWord_56 : decode cX9_readWord 56 = .ok (.baload, 1) := by decide +kernel
theorem dX9_readWord_57 : decode cX9_readWord 57 = .ok (.bipush 97, 2) := by decide +kernel
theorem dX9_readWord_59 : decode cX9_readWord 59 = .ok (.isub, 1) := by decide +kernel
theorem dX9_readWord_60 : decode cX9_readWord 60 = .ok (.iconst 1, 1) := by decide +kernel
theorem dX9_readWord_61 : decode cX9_readWord 61 = .ok (.iadd, 1) := by decide +kernel
theorem dX9_readWord_62 : decode cX9_readWord 62 = .ok (.iconst 5, 1) := by decide +kernel
theorem dX9_readWord_63 : decode cX9_readWord 63 = .ok (.iload_n 3, 1) := by decide +kernel
theorem dX9_readWord_64 : decode cX9_readWord 64 = .ok (.imul, 1) := by decide +kernel
theorem dX9_readWord_65 : decode cX9_readWord 65 = .ok (.ishl, 1) := by decide +kernel
theorem dX9_readWord_66 : decode cX9_readWord 66 = .ok (.ior, 1) := by decide +kernel
theorem dX9_readWord_67 : decode cX9_readWord 67 = .ok (.istore_n 2, 1) := by decide +kernel
theorem dX9_readWord_68 : decode cX9_readWord 68 = .ok (.iinc 1 1, 3) := by decide +kernel
theorem dX9_readWord_71 : decode cX9_readWord 71 = .ok (.goto (-64), 3) := by decide +kernel
theorem dX9_readWord_74 : decode cX9_readWord 74 = .ok (.aload_n 0, 1) := by decide +kernel
theorem dX9_readWord_75 : decode cX9_readWord 75 = .ok (.iload_n 1, 1) := by decide +kernel
theorem dX9_readWord_76 : decode cX9_readWord 76 = .ok (.putfield 19, 3) := by decide +kernel
theorem dX9_readWord_79 : decode cX9_readWord 79 = .ok (.aload_n 0, 1) := by decide +kernel
theorem dX9_readWord_80 : decode cX9_readWord 80 = .ok (.iload_n 2, 1) := by decide +kernel
theorem dX9_readWord_81 : decode cX9_readWord 81 = .ok (.putfield 40, 3) := by decide +kernel
theorem dX9_readWord_84 : decode cX9_readWord 84 = .ok (.aload_n 0, 1) := by decide +kernel
theorem dX9_readWord_85 : decode cX9_readWord 85 = .ok (.invokevirtual 43, 3) := by decide +kernel
theorem dX9_readWord_88 : decode cX9_readWord 88 = .ok (.istore_n 3, 1) := by decide +kernel
theorem dX9_readWord_89 : decode cX9_readWord 89 = .ok (.iload_n 3, 1) := by decide +kernel
theorem dX9_readWord_90 : decode cX9_readWord 90 = .ok (.iconst (-1), 1) := by decide +kernel
theorem dX9_readWord_91 : decode cX9_readWord 91 = .ok (.if_icmp .eq 11, 3) := by decide +kernel
theorem dX9_readWord_94 : decode cX9_readWord 94 = .ok (.aload_n 0, 1) := by decide +kernel
theorem dX9_readWord_95 : decode cX9_readWord 95 = .ok (.iload_n 3, 1) := by decide +kernel
theorem dX9_readWord_96 : decode cX9_readWord 96 = .ok (.putfield 28, 3) := by decide +kernel
theorem dX9_readWord_99 : decode cX9_readWord 99 = .ok (.goto 28, 3) := by decide +kernel
theorem dX9_readWord_102 : decode cX9_readWord 102 = .ok (.aload_n 0, 1) := by decide +kernel
theorem dX9_readWord_103 : decode cX9_readWord 103 = .ok (.aload_n 0, 1) := by decide +kernel
theorem dX9_readWord_104 : decode cX9_readWord 104 = .ok (.getfield 19, 3) := by decide +kernel
theorem dX9_readWord_107 : decode cX9_readWord 107 = .ok (.aload_n 0, 1) := by decide +kernel
theorem dX9_readWord_108 : decode cX9_readWord 108 = .ok (.getfield 25, 3) := by decide +kernel
theorem dX9_readWord_111 : decode cX9_readWord 111 = .ok (.isub, 1) := by decide +kernel
theorem dX9_readWord_112 : decode cX9_readWord 112 = .ok (.bipush 6, 2) := by decide +kernel
theorem dX9_readWord_114 : decode cX9_readWord 114 = .ok (.if_icmp .gt 8, 3) := by decide +kernel
theorem dX9_readWord_117 : decode cX9_readWord 117 = .ok (.bipush 38, 2) := by decide +kernel
theorem dX9_readWord_119 : decode cX9_readWord 119 = .ok (.goto 5, 3) := by decide +kernel
theorem dX9_readWord_122 : decode cX9_readWord 122 = .ok (.bipush 40, 2) := by decide +kernel
theorem dX9_readWord_124 : decode cX9_readWord 124 = .ok (.putfield 28, 3) := by decide +kernel
theorem dX9_readWord_127 : decode cX9_readWord 127 = .ok (.return_, 1) := by decide +kernel
set_option maxRecDepth 10000 in
theorem vX9_readWord_0 {κ : eg_K} {d : Nat} {post : eg_H → Prop} (M : eg_H)  (h : (∀ x1 : Int32, x1 = (M.1 (9, 0) 2) → eg_W κ gC mtX9_readWord d (eQV κ gC post) 7 [(0, vR (9, 0)), (1, vI x1), (2, vI (0 : Int32))] [] M)) : eg_W κ gC mtX9_readWord d (eQV κ gC post) 0 [(0, vR (9, 0))] [] M := by
  refine eg_aload_n 0 dX9_readWord_0 rfl rfl ?_
  refine eg_getI dX9_readWord_1 fl_9_25 rfl trivial (obC_9 z1) ?_
  refine en_istore_n (f := fun x1 => [(1, vI x1), (0, vR (9, 0))]) dX9_readWord_4 rfl (by decide) rfl (fun x1 ex1 => ?_)
  have h := h x1 ex1
  refine eg_iconst dX9_readWord_5 ic_0 ?_
  refine eg_istore_n dX9_readWord_6 rfl (by decide) (ls1 := [(2, vI (0 : Int32)), (1, vI x1), (0, vR (9, 0))]) rfl ?_
  refine eg_sub [2, 1, 0] rfl ?_
  exact h
set_option maxRecDepth 10000 in
theorem vX9_readWord_7 {κ : eg_K} {d : Nat} {post : eg_H → Prop} (M : eg_H) (l1 : Int32) (l2 : Int32) (h : ((M.1 (9, 0) 1) ≤ l1 → eg_W κ gC mtX9_readWord d (eQV κ gC post) 74 [(0, vR (9, 0)), (1, vI l1), (2, vI l2)] [] M) ∧ ((¬ (M.1 (9, 0) 1) ≤ l1) → (vp_in l1 800 ∧ ((M.1 (50, 0) l1.toNatClampNeg) < (97 : Int32) → eg_W κ gC mtX9_readWord d (eQV κ gC post) 74 [(0, vR (9, 0)), (1, vI l1), (2, vI l2)] [] M) ∧ ((¬ (M.1 (50, 0) l1.toNatClampNeg) < (97 : Int32)) → ((122 : Int32) < (M.1 (50, 0) l1.toNatClampNeg) → eg_W κ gC mtX9_readWord d (eQV κ gC post) 74 [(0, vR (9, 0)), (1, vI l1), (2, vI l2)] [] M) ∧ ((¬ (122 : Int32) < (M.1 (50, 0) l1.toNatClampNeg)) → (∀ x5 : Int32, x5 = ((5 : Int32) - (l1 - (M.1 (9, 0) 2))) → (x5 < 0 → (∀ x7 : Int32, x7 = (l1 + (1 : Int32)) → eg_W κ gC mtX9_readWord d (eQV κ gC post) 7 [(0, vR (9, 0)), (1, vI x7), (2, vI l2)] [] M)) ∧ ((¬ x5 < 0) → (∀ x8 : Int32, x8 = (l2 ||| ((((M.1 (50, 0) l1.toNatClampNeg) - (97 : Int32)) + (1 : Int32)) <<< (((5 : Int32) * x5) &&& 31))) → (∀ x9 : Int32, x9 = (l1 + (1 : Int32)) → eg_W κ gC mtX9_readWord d (eQV κ gC post) 7 [(0, vR (9, 0)), (1, vI x9), (2, vI x8)] [] M))))))))) : eg_W κ gC mtX9_readWord d (eQV κ gC post) 7 [(0, vR (9, 0)), (1, vI l1), (2, vI l2)] [] M := by
  refine eg_iload_n 1 dX9_readWord_7 rfl rfl ?_
  refine eg_aload_n 0 dX9_readWord_8 rfl rfl ?_
  refine eg_getI dX9_readWord_9 fl_9_15 rfl trivial (obC_9 z1) ?_
  refine eg_icmp_ge (tgt := 74) dX9_readWord_12 rfl (fun c1 => ?_) (fun c1 => ?_)
  · have h := h.1 c1
    exact h
  · have h := h.2 c1
    refine eg_aload_n 0 dX9_readWord_15 rfl rfl ?_
    refine eg_getR dX9_readWord_16 fl_9_9 rfl rfl (obC_9 z1) ?_
    show eg_W κ gC mtX9_readWord d (eQV κ gC post) 19 [(0, vR (9, 0)), (1, vI l1), (2, vI l2)] [vR (50, 0)] M
    refine eg_iload_n 1 dX9_readWord_19 rfl rfl ?_
    obtain ⟨g2, h⟩ := h
    refine eg_baload dX9_readWord_20 (arC_50 z1 g2) ?_
    refine eg_bipush dX9_readWord_21 bp_97 ?_
    refine eg_icmp_lt (tgt := 74) dX9_readWord_23 rfl (fun c3 => ?_) (fun c3 => ?_)
    · have h := h.1 c3
      exact h
    · have h := h.2 c3
      refine eg_aload_n 0 dX9_readWord_26 rfl rfl ?_
      refine eg_getR dX9_readWord_27 fl_9_9 rfl rfl (obC_9 z1) ?_
      show eg_W κ gC mtX9_readWord d (eQV κ gC post) 30 [(0, vR (9, 0)), (1, vI l1), (2, vI l2)] [vR (50, 0)] M
      refine eg_iload_n 1 dX9_readWord_30 rfl rfl ?_
      refine eg_baload dX9_readWord_31 (arC_50 z1 g2) ?_
      refine eg_bipush dX9_readWord_32 bp_122 ?_
      refine eg_icmp_gt (tgt := 74) dX9_readWord_34 rfl (fun c4 => ?_) (fun c4 => ?_)
      · have h := h.1 c4
        exact h
      · have h := h.2 c4
        refine eg_iconst dX9_readWord_37 ic_5 ?_
        refine eg_iload_n 1 dX9_readWord_38 rfl rfl ?_
        refine eg_aload_n 0 dX9_readWord_39 rfl rfl ?_
        refine eg_getI dX9_readWord_40 fl_9_25 rfl trivial (obC_9 z1) ?_
        refine eg_isub dX9_readWord_43 ?_
        refine eg_isub dX9_readWord_44 ?_
        refine en_istore_n (f := fun x5 => [(3, vI x5), (0, vR (9, 0)), (1, vI l1), (2, vI l2)]) dX9_readWord_45 rfl (by decide) rfl (fun x5 ex5 => ?_)
        have h := h x5 ex5
        refine eg_iload_n 0 dX9_readWord_46 rfl rfl ?_
        refine eg_if_lt (tgt := 68) dX9_readWord_47 rfl (fun c6 => ?_) (fun c6 => ?_)
        · have h := h.1 c6
          refine en_iinc (f := fun x7 => [(1, vI x7), (3, vI x5), (0, vR (9, 0)), (2, vI l2)]) 2 dX9_readWord_68 rfl rfl (by decide) rfl (fun x7 ex7 => ?_)
          have h := h x7 ex7
          refine eg_goto (tgt := 7) dX9_readWord_71 rfl ?_
          refine eg_sub [2, 0, 3] rfl ?_
          exact h
        · have h := h.2 c6
          refine eg_iload_n 3 dX9_readWord_50 rfl rfl ?_
          refine eg_aload_n 1 dX9_readWord_51 rfl rfl ?_
          refine eg_getR dX9_readWord_52 fl_9_9 rfl rfl (obC_9 z1) ?_
          show eg_W κ gC mtX9_readWord d (eQV κ gC post) 55 [(3, vI x5), (0, vR (9, 0)), (1, vI l1), (2, vI l2)] [vR (50, 0), vI l2] M
          refine eg_iload_n 2 dX9_readWord_55 rfl rfl ?_
          refine eg_baload dX9_readWord_56 (arC_50 z1 g2) ?_
          refine eg_bipush dX9_readWord_57 bp_97 ?_
          refine eg_isub dX9_readWord_59 ?_
          refine eg_iconst dX9_readWord_60 ic_1 ?_
          refine eg_iadd dX9_readWord_61 ?_
          refine eg_iconst dX9_readWord_62 ic_5 ?_
          refine eg_iload_n 0 dX9_readWord_63 rfl rfl ?_
          refine eg_imul dX9_readWord_64 ?_
          refine eg_ishl dX9_readWord_65 ?_
          refine eg_ior dX9_readWord_66 ?_
          refine en_istore_n (f := fun x8 => [(2, vI x8), (3, vI x5), (0, vR (9, 0)), (1, vI l1)]) dX9_readWord_67 rfl (by decide) rfl (fun x8 ex8 => ?_)
          have h := h x8 ex8
          refine en_iinc (f := fun x9 => [(1, vI x9), (2, vI x8), (3, vI x5), (0, vR (9, 0))]) 3 dX9_readWord_68 rfl rfl (by decide) rfl (fun x9 ex9 => ?_)
          have h := h x9 ex9
          refine eg_goto (tgt := 7) dX9_readWord_71 rfl ?_
          refine eg_sub [3, 0, 1] rfl ?_
          exact h
set_option maxRecDepth 10000 in
theorem vX9_readWord_74 {κ : eg_K} {d : Nat} (hd : 1 ≤ d) {post : eg_H → Prop} (M : eg_H) (l1 : Int32) (l2 : Int32) (h : (∀ M1 : eg_H, M1 = (sI M (9, 0) 3 l1) → (∀ M2 : eg_H, M2 = (sI M1 (9, 0) 6 l2) → eCI κ gC mtX9_wordOfLanguage d [vR (9, 0)] M2 (fun x3 M4 => (x3 = (-1 : Int32) → (∀ x7 : Int32, x7 = ((if (6 : Int32) < ((M4.1 (9, 0) 3) - (M4.1 (9, 0) 2)) then (40 : Int32) else (38 : Int32))) → (∀ M8 : eg_H, M8 = (sI M4 (9, 0) 4 x7) → post M8))) ∧ ((¬ x3 = (-1 : Int32)) → (∀ M10 : eg_H, M10 = (sI M4 (9, 0) 4 x3) → post M10)))))) : eg_W κ gC mtX9_readWord d (eQV κ gC post) 74 [(0, vR (9, 0)), (1, vI l1), (2, vI l2)] [] M := by
  refine eg_aload_n 0 dX9_readWord_74 rfl rfl ?_
  refine eg_iload_n 1 dX9_readWord_75 rfl rfl ?_
  refine en_putI dX9_readWord_76 fl_9_19 rfl rfl (obC_9 z1) (fun M1 eM1 => ?_)
  have h := h M1 eM1
  refine eg_aload_n 0 dX9_readWord_79 rfl rfl ?_
  refine eg_iload_n 2 dX9_readWord_80 rfl rfl ?_
  refine en_putI dX9_readWord_81 fl_9_40 rfl rfl (obC_9 z1) (fun M2 eM2 => ?_)
  have h := h M2 eM2
  refine eg_aload_n 0 dX9_readWord_84 rfl rfl ?_
  obtain ⟨q5, hq5, h⟩ := h
  refine eg_callVI (av := []) (st := []) dX9_readWord_85 ml_9_43 rfl rfl (obC_9 z1) (by decide) rfl (Nat.le_of_ble_eq_true rfl) (eg_dd (by omega)) hq5 (fun x3 M4 hp => ?_)
  have h := h x3 M4 hp
  refine eg_istore_n dX9_readWord_88 rfl (by decide) (ls1 := [(3, vI x3), (0, vR (9, 0)), (1, vI l1), (2, vI l2)]) rfl ?_
  refine eg_iload_n 0 dX9_readWord_89 rfl rfl ?_
  refine eg_iconst dX9_readWord_90 ic_m1 ?_
  refine eg_icmp_eq (tgt := 102) dX9_readWord_91 rfl (fun c6 => ?_) (fun c6 => ?_)
  · have h := h.1 c6
    refine eg_aload_n 1 dX9_readWord_102 rfl rfl ?_
    refine eg_aload_n 1 dX9_readWord_103 rfl rfl ?_
    refine eg_getI dX9_readWord_104 fl_9_19 rfl trivial (obC_9 z1) ?_
    refine eg_aload_n 1 dX9_readWord_107 rfl rfl ?_
    refine eg_getI dX9_readWord_108 fl_9_25 rfl trivial (obC_9 z1) ?_
    refine eg_isub dX9_readWord_111 ?_
    refine eg_bipush dX9_readWord_112 bp_6 ?_
    have J : ∀ x7 : Int32, x7 = (if (6 : Int32) < ((M4.1 (9, 0) 3) - (M4.1 (9, 0) 2)) then (40 : Int32) else (38 : Int32)) → eg_W κ gC mtX9_readWord d (eQV κ gC post) 124 [(3, vI x3), (0, vR (9, 0)), (1, vI l1), (2, vI l2)] [vI x7, vR (9, 0)] M4 := by
      intro x7 ex7
      have h := h x7 ex7
      refine en_putI dX9_readWord_124 fl_9_28 rfl rfl (obC_9 z1) (fun M8 eM8 => ?_)
      have h := h M8 eM8
      exact eg_vreturn dX9_readWord_127 rfl h
    clear h
    refine eg_icmp_gt (tgt := 122) dX9_readWord_114 rfl (fun c9 => ?_) (fun c9 => ?_)
    · refine eg_bipush dX9_readWord_122 bp_40 ?_
      exact J _ (by rw [if_pos c9])
    · refine eg_bipush dX9_readWord_117 bp_38 ?_
      refine eg_goto (tgt := 124) dX9_readWord_119 rfl ?_
      exact J _ (by rw [if_neg c9])
  · have h := h.2 c6
    refine eg_aload_n 1 dX9_readWord_94 rfl rfl ?_
    refine eg_iload_n 0 dX9_readWord_95 rfl rfl ?_
    refine en_putI dX9_readWord_96 fl_9_28 rfl rfl (obC_9 z1) (fun M10 eM10 => ?_)
    have h := h M10 eM10
    refine eg_goto (tgt := 127) dX9_readWord_99 rfl ?_
    exact eg_vreturn dX9_readWord_127 rfl h
theorem dX9_readNumber_0 : decode cX9_readNumber 0 = .ok (.aload_n 0, 1) := by decide +kernel
theorem dX9_readNumber_1 : decode cX9_readNumber 1 = .ok (.getfield 25, 3) := by decide +kernel
theorem dX9_readNumber_4 : decode cX9_readNumber 4 = .ok (.istore_n 1, 1) := by decide +kernel
theorem dX9_readNumber_5 : decode cX9_readNumber 5 = .ok (.iconst 0, 1) := by decide +kernel
theorem dX9_readNumber_6 : decode cX9_readNumber 6 = .ok (.istore_n 2, 1) := by decide +kernel
theorem dX9_readNumber_7 : decode cX9_readNumber 7 = .ok (.iload_n 1, 1) := by decide +kernel
theorem dX9_readNumber_8 : decode cX9_readNumber 8 = .ok (.aload_n 0, 1) := by decide +kernel
theorem dX9_readNumber_9 : decode cX9_readNumber 9 = .ok (.getfield 15, 3) := by decide +kernel
theorem dX9_readNumber_12 : decode cX9_readNumber 12 = .ok (.if_icmp .ge 57, 3) := by decide +kernel
theorem dX9_readNumber_15 : decode cX9_readNumber 15 = .ok (.aload_n 0, 1) := by decide +kernel
theorem dX9_readNumber_16 : decode cX9_readNumber 16 = .ok (.getfield 9, 3) := by decide +kernel
theorem dX9_readNumber_19 : decode cX9_readNumber 19 = .ok (.iload_n 1, 1) := by decide +kernel
theorem dX9_readNumber_20 : decode cX9_readNumber 20 = .ok (.baload, 1) := by decide +kernel
theorem dX9_readNumber_21 : decode cX9_readNumber 21 = .ok (.bipush 48, 2) := by decide +kernel
theorem dX9_readNumber_23 : decode cX9_readNumber 23 = .ok (.if_icmp .lt 46, 3) := by decide +kernel
theorem dX9_readNumber_26 : decode cX9_readNumber 26 = .ok (.aload_n 0, 1) := by decide +kernel
theorem dX9_readNumber_27 : decode cX9_readNumber 27 = .ok (.getfield 9, 3) := by decide +kernel
theorem dX9_readNumber_30 : decode cX9_readNumber 30 = .ok (.iload_n 1, 1) := by decide +kernel
theorem dX9_readNumber_31 : decode cX9_readNumber 31 = .ok (.baload, 1) := by decide +kernel
theorem dX9_readNumber_32 : decode cX9_readNumber 32 = .ok (.bipush 57, 2) := by decide +kernel
theorem dX9_readNumber_34 : decode cX9_readNumber 34 = .ok (.if_icmp .gt 35, 3) := by decide +kernel
theorem dX9_readNumber_37 : decode cX9_readNumber 37 = .ok (.iload_n 2, 1) := by decide +kernel
theorem dX9_readNumber_38 : decode cX9_readNumber 38 = .ok (.sipush 9999, 3) := by decide +kernel
theorem dX9_readNumber_41 : decode cX9_readNumber 41 = .ok (.if_icmp .le 7, 3) := by decide +kernel
theorem dX9_readNumber_44 : decode cX9_readNumber 44 = .ok (.iload_n 2, 1) := by decide +kernel
theorem dX9_readNumber_45 : decode cX9_readNumber 45 = .ok (.goto 17, 3) := by decide +kernel
theorem dX9_readNumber_48 : decode cX9_readNumber 48 = .ok (.iload_n 2, 1) := by decide +kernel
theorem dX9_readNumber_49 : decode cX9_readNumber 49 = .ok (.bipush 10, 2) := by decide +kernel
theorem dX9_readNumber_51 : decode cX9_readNumber 51 = .ok (.imul, 1) := by decide +kernel
theorem dX9_readNumber_52 : decode cX9_readNumber 52 = .ok (.aload_n 0, 1) := by decide +kernel
theorem dX9_readNumber_53 : decode cX9_readNumber 53 = .ok (.getfield 9, 3) := by decide +kernel
theorem dX9_readNumber_56 : decode cX9_readNumber 56 = .ok (.iload_n 1, 1) := by decide +kernel
theorem dX9_readNumber_57 : decode cX9_readNumber 57 = .ok (.baload, 1) := by decide +kernel
theorem dX9_readNumber_58 : decode cX9_readNumber 58 = .ok (.bipush 48, 2) := by decide +kernel
theorem dX9_readNumber_60 : decode cX9_readNumber 60 = .ok (.isub, 1) := by decide +kernel
theorem dX9_readNumber_61 : decode cX9_readNumber 61 = .ok (.iadd, 1) := by decide +kernel
theorem dX9_readNumber_62 : decode cX9_readNumber 62 = .ok (.istore_n 2, 1) := by decide +kernel
theorem dX9_readNumber_63 : decode cX9_readNumber 63 = .ok (.iinc 1 1, 3) := by decide +kernel
theorem dX9_readNumber_66 : decode cX9_readNumber 66 = .ok (.goto (-59), 3) := by decide +kernel
theorem dX9_readNumber_69 : decode cX9_readNumber 69 = .ok (.aload_n 0, 1) := by decide +kernel
theorem dX9_readNumber_70 : decode cX9_readNumber 70 = .ok (.iload_n 1, 1) := by decide +kernel
theorem dX9_readNumber_71 : decode cX9_readNumber 71 = .ok (.putfield 19, 3) := by decide +kernel
theorem dX9_readNumber_74 : decode cX9_readNumber 74 = .ok (.aload_n 0, 1) := by decide +kernel
theorem dX9_readNumber_75 : decode cX9_readNumber 75 = .ok (.iload_n 2, 1) := by decide +kernel
theorem dX9_readNumber_76 : decode cX9_readNumber 76 = .ok (.putfield 57, 3) := by decide +kernel
theorem dX9_readNumber_79 : decode cX9_readNumber 79 = .ok (.aload_n 0, 1) := by decide +kernel
theorem dX9_readNumber_80 : decode cX9_readNumber 80 = .ok (.bipush 37, 2) := by decide +kernel
theorem dX9_readNumber_82 : decode cX9_readNumber 82 = .ok (.putfield 28, 3) := by decide +kernel
theorem dX9_readNumber_85 : decode cX9_readNumber 85 = .ok (.return_, 1) := by decide +kernel
set_option maxRecDepth 10000 in
theorem vX9_readNumber_0 {κ : eg_K} {d : Nat} {post : eg_H → Prop} (M : eg_H)  (h : (∀ x1 : Int32, x1 = (M.1 (9, 0) 2) → eg_W κ gC mtX9_readNumber d (eQV κ gC post) 7 [(0, vR (9, 0)), (1, vI x1), (2, vI (0 : Int32))] [] M)) : eg_W κ gC mtX9_readNumber d (eQV κ gC post) 0 [(0, vR (9, 0))] [] M := by
  refine eg_aload_n 0 dX9_readNumber_0 rfl rfl ?_
  refine eg_getI dX9_readNumber_1 fl_9_25 rfl trivial (obC_9 z1) ?_
  refine en_istore_n (f := fun x1 => [(1, vI x1), (0, vR (9, 0))]) dX9_readNumber_4 rfl (by decide) rfl (fun x1 ex1 => ?_)
  have h := h x1 ex1
  refine eg_iconst dX9_readNumber_5 ic_0 ?_
  refine eg_istore_n dX9_readNumber_6 rfl (by decide) (ls1 := [(2, vI (0 : Int32)), (1, vI x1), (0, vR (9, 0))]) rfl ?_
  refine eg_sub [2, 1, 0] rfl ?_
  exact h
set_option maxRecDepth 10000 in
theorem vX9_readNumber_7 {κ : eg_K} {d : Nat} {post : eg_H → Prop} (M : eg_H) (l1 : Int32) (l2 : Int32) (h : ((M.1 (9, 0) 1) ≤ l1 → eg_W κ gC mtX9_readNumber d (eQV κ gC post) 69 [(0, vR (9, 0)), (1, vI l1), (2, vI l2)] [] M) ∧ ((¬ (M.1 (9, 0) 1) ≤ l1) → (vp_in l1 800 ∧ ((M.1 (50, 0) l1.toNatClampNeg) < (48 : Int32) → eg_W κ gC mtX9_readNumber d (eQV κ gC post) 69 [(0, vR (9, 0)), (1, vI l1), (2, vI l2)] [] M) ∧ ((¬ (M.1 (50, 0) l1.toNatClampNeg) < (48 : Int32)) → ((57 : Int32) < (M.1 (50, 0) l1.toNatClampNeg) → eg_W κ gC mtX9_readNumber d (eQV κ gC post) 69 [(0, vR (9, 0)), (1, vI l1), (2, vI l2)] [] M) ∧ ((¬ (57 : Int32) < (M.1 (50, 0) l1.toNatClampNeg)) → (∀ x5 : Int32, x5 = ((if l2 ≤ (9999 : Int32) then ((l2 * (10 : Int32)) + ((M.1 (50, 0) l1.toNatClampNeg) - (48 : Int32))) else l2)) → (∀ x6 : Int32, x6 = (l1 + (1 : Int32)) → eg_W κ gC mtX9_readNumber d (eQV κ gC post) 7 [(0, vR (9, 0)), (1, vI x6), (2, vI x5)] [] M))))))) : eg_W κ gC mtX9_readNumber d (eQV κ gC post) 7 [(0, vR (9, 0)), (1, vI l1), (2, vI l2)] [] M := by
  refine eg_iload_n 1 dX9_readNumber_7 rfl rfl ?_
  refine eg_aload_n 0 dX9_readNumber_8 rfl rfl ?_
  refine eg_getI dX9_readNumber_9 fl_9_15 rfl trivial (obC_9 z1) ?_
  refine eg_icmp_ge (tgt := 69) dX9_readNumber_12 rfl (fun c1 => ?_) (fun c1 => ?_)
  · have h := h.1 c1
    exact h
  · have h := h.2 c1
    refine eg_aload_n 0 dX9_readNumber_15 rfl rfl ?_
    refine eg_getR dX9_readNumber_16 fl_9_9 rfl rfl (obC_9 z1) ?_
    show eg_W κ gC mtX9_readNumber d (eQV κ gC post) 19 [(0, vR (9, 0)), (1, vI l1), (2, vI l2)] [vR (50, 0)] M
    refine eg_iload_n 1 dX9_readNumber_19 rfl rfl ?_
    obtain ⟨g2, h⟩ := h
    refine eg_baload dX9_readNumber_20 (arC_50 z1 g2) ?_
    refine eg_bipush dX9_readNumber_21 bp_48 ?_
    refine eg_icmp_lt (tgt := 69) dX9_readNumber_23 rfl (fun c3 => ?_) (fun c3 => ?_)
    · have h := h.1 c3
      exact h
    · have h := h.2 c3
      refine eg_aload_n 0 dX9_readNumber_26 rfl rfl ?_
      refine eg_getR dX9_readNumber_27 fl_9_9 rfl rfl (obC_9 z1) ?_
      show eg_W κ gC mtX9_readNumber d (eQV κ gC post) 30 [(0, vR (9, 0)), (1, vI l1), (2, vI l2)] [vR (50, 0)] M
      refine eg_iload_n 1 dX9_readNumber_30 rfl rfl ?_
      refine eg_baload dX9_readNumber_31 (arC_50 z1 g2) ?_
      refine eg_bipush dX9_readNumber_32 bp_57 ?_
      refine eg_icmp_gt (tgt := 69) dX9_readNumber_34 rfl (fun c4 => ?_) (fun c4 => ?_)
      · have h := h.1 c4
        exact h
      · have h := h.2 c4
        refine eg_iload_n 2 dX9_readNumber_37 rfl rfl ?_
        refine eg_sipush dX9_readNumber_38 sp_9999 ?_
        have J : ∀ x5 : Int32, x5 = (if l2 ≤ (9999 : Int32) then ((l2 * (10 : Int32)) + ((M.1 (50, 0) l1.toNatClampNeg) - (48 : Int32))) else l2) → eg_W κ gC mtX9_readNumber d (eQV κ gC post) 62 [(0, vR (9, 0)), (1, vI l1), (2, vI l2)] [vI x5] M := by
          intro x5 ex5
          have h := h x5 ex5
          refine eg_istore_n dX9_readNumber_62 rfl (by decide) (ls1 := [(2, vI x5), (0, vR (9, 0)), (1, vI l1)]) rfl ?_
          refine en_iinc (f := fun x6 => [(1, vI x6), (2, vI x5), (0, vR (9, 0))]) 2 dX9_readNumber_63 rfl rfl (by decide) rfl (fun x6 ex6 => ?_)
          have h := h x6 ex6
          refine eg_goto (tgt := 7) dX9_readNumber_66 rfl ?_
          refine eg_sub [2, 0, 1] rfl ?_
          exact h
        clear h
        refine eg_icmp_le (tgt := 48) dX9_readNumber_41 rfl (fun c7 => ?_) (fun c7 => ?_)
        · refine eg_iload_n 2 dX9_readNumber_48 rfl rfl ?_
          refine eg_bipush dX9_readNumber_49 bp_10 ?_
          refine eg_imul dX9_readNumber_51 ?_
          refine eg_aload_n 0 dX9_readNumber_52 rfl rfl ?_
          refine eg_getR dX9_readNumber_53 fl_9_9 rfl rfl (obC_9 z1) ?_
          show eg_W κ gC mtX9_readNumber d (eQV κ gC post) 56 [(0, vR (9, 0)), (1, vI l1), (2, vI l2)] [vR (50, 0), vI (l2 * (10 : Int32))] M
          refine eg_iload_n 1 dX9_readNumber_56 rfl rfl ?_
          refine eg_baload dX9_readNumber_57 (arC_50 z1 g2) ?_
          refine eg_bipush dX9_readNumber_58 bp_48 ?_
          refine eg_isub dX9_readNumber_60 ?_
          refine eg_iadd dX9_readNumber_61 ?_
          exact J _ (by rw [if_pos c7])
        · refine eg_iload_n 2 dX9_readNumber_44 rfl rfl ?_
          refine eg_goto (tgt := 62) dX9_readNumber_45 rfl ?_
          exact J _ (by rw [if_neg c7])
set_option maxRecDepth 10000 in
theorem vX9_readNumber_69 {κ : eg_K} {d : Nat} {post : eg_H → Prop} (M : eg_H) (l1 : Int32) (l2 : Int32) (h : (∀ M1 : eg_H, M1 = (sI M (9, 0) 3 l1) → (∀ M2 : eg_H, M2 = (sI M1 (9, 0) 5 l2) → (∀ M3 : eg_H, M3 = (sI M2 (9, 0) 4 (37 : Int32)) → post M3)))) : eg_W κ gC mtX9_readNumber d (eQV κ gC post) 69 [(0, vR (9, 0)), (1, vI l1), (2, vI l2)] [] M := by
  refine eg_aload_n 0 dX9_readNumber_69 rfl rfl ?_
  refine eg_iload_n 1 dX9_readNumber_70 rfl rfl ?_
  refine en_putI dX9_readNumber_71 fl_9_19 rfl rfl (obC_9 z1) (fun M1 eM1 => ?_)
  have h := h M1 eM1
  refine eg_aload_n 0 dX9_readNumber_74 rfl rfl ?_
  refine eg_iload_n 2 dX9_readNumber_75 rfl rfl ?_
  refine en_putI dX9_readNumber_76 fl_9_57 rfl rfl (obC_9 z1) (fun M2 eM2 => ?_)
  have h := h M2 eM2
  refine eg_aload_n 0 dX9_readNumber_79 rfl rfl ?_
  refine eg_bipush dX9_readNumber_80 bp_37 ?_
  refine en_putI dX9_readNumber_82 fl_9_28 rfl rfl (obC_9 z1) (fun M3 eM3 => ?_)
  have h := h M3 eM3
  exact eg_vreturn dX9_readNumber_85 rfl h
theorem dX9_readSign_0 : decode cX9_readSign 0 = .ok (.aload_n 0, 1) := by decide +kernel
theorem dX9_readSign_1 : decode cX9_readSign 1 = .ok (.getfield 25, 3) := by decide +kernel
theorem dX9_readSign_4 : decode cX9_readSign 4 = .ok (.iconst 1, 1) := by decide +kernel
theorem dX9_readSign_5 : decode cX9_readSign 5 = .ok (.iadd, 1) := by decide +kernel
theorem dX9_readSign_6 : decode cX9_readSign 6 = .ok (.aload_n 0, 1) := by decide +kernel
theorem dX9_readSign_7 : decode cX9_readSign 7 = .ok (.getfield 15, 3) := by decide +kernel
theorem dX9_readSign_10 : decode cX9_readSign 10 = .ok (.if_icmp .ge 17, 3) := by decide +kernel
theorem dX9_readSign_13 : decode cX9_readSign 13 = .ok (.aload_n 0, 1) := by decide +kernel
theorem dX9_readSign_14 : decode cX9_readSign 14 = .ok (.getfield 9, 3) := by decide +kernel
theorem dX9_readSign_17 : decode cX9_readSign 17 = .ok (.aload_n 0, 1) := by decide +kernel
theorem dX9_readSign_18 : decode cX9_readSign 18 = .ok (.getfield 25, 3) := by decide +kernel
theorem dX9_readSign_21 : decode cX9_readSign 21 = .ok (.iconst 1, 1) := by decide +kernel
theorem dX9_readSign_22 : decode cX9_readSign 22 = .ok (.iadd, 1) := by decide +kernel
theorem dX9_readSign_23 : decode cX9_readSign 23 = .ok (.baload, 1) := by decide +kernel
theorem dX9_readSign_24 : decode cX9_readSign 24 = .ok (.goto 4, 3) := by decide +kernel
theorem dX9_readSign_27 : decode cX9_readSign 27 = .ok (.iconst 0, 1) := by decide +kernel
theorem dX9_readSign_28 : decode cX9_readSign 28 = .ok (.istore_n 1, 1) := by decide +kernel
theorem dX9_readSign_29 : decode cX9_readSign 29 = .ok (.aload_n 0, 1) := by decide +kernel
theorem dX9_readSign_30 : decode cX9_readSign 30 = .ok (.aload_n 0, 1) := by decide +kernel
theorem dX9_readSign_31 : decode cX9_readSign 31 = .ok (.getfield 25, 3) := by decide +kernel
theorem dX9_readSign_34 : decode cX9_readSign 34 = .ok (.iconst 1, 1) := by decide +kernel
theorem dX9_readSign_35 : decode cX9_readSign 35 = .ok (.iadd, 1) := by decide +kernel
theorem dX9_readSign_36 : decode cX9_readSign 36 = .ok (.putfield 19, 3) := by decide +kernel
theorem dX9_readSign_39 : decode cX9_readSign 39 = .ok (.aload_n 0, 1) := by decide +kernel
theorem dX9_readSign_40 : decode cX9_readSign 40 = .ok (.getfield 9, 3) := by decide +kernel
theorem dX9_readSign_43 : decode cX9_readSign 43 = .ok (.aload_n 0, 1) := by decide +kernel
theorem dX9_readSign_44 : decode cX9_readSign 44 = .ok (.getfield 25, 3) := by decide +kernel
theorem dX9_readSign_47 : decode cX9_readSign 47 = .ok (.baload, 1) := by decide +kernel
theorem dX9_readSign_48 : decode cX9_readSign 48 = .ok (.tableswitch 231 40 62 #[117, 126, 153, 135, 231, 144, 231, 162, 231, 231, 231, 231, 231, 231, 231, 231, 231, 231, 231, 108, 180, 171, 211], 108) := by decide +kernel
theorem dX9_readSign_156 : decode cX9_readSign 156 = .ok (.aload_n 0, 1) := by decide +kernel
theorem dX9_readSign_157 : decode cX9_readSign 157 = .ok (.bipush 36, 2) := by decide +kernel
theorem dX9_readSign_159 : decode cX9_readSign 159 = .ok (.putfield 28, 3) := by decide +kernel
theorem dX9_readSign_162 : decode cX9_readSign 162 = .ok (.goto 123, 3) := by decide +kernel
theorem dX9_readSign_165 : decode cX9_readSign 165 = .ok (.aload_n 0, 1) := by decide +kernel
theorem dX9_readSign_166 : decode cX9_readSign 166 = .ok (.bipush 34, 2) := by decide +kernel
theorem dX9_readSign_168 : decode cX9_readSign 168 = .ok (.putfield 28, 3) := by decide +kernel
theorem dX9_readSign_171 : decode cX9_readSign 171 = .ok (.goto 114, 3) := by decide +kernel
theorem dX9_readSign_174 : decode cX9_readSign 174 = .ok (.aload_n 0, 1) := by decide +kernel
theorem dX9_readSign_175 : decode cX9_readSign 175 = .ok (.bipush 35, 2) := by decide +kernel
theorem dX9_readSign_177 : decode cX9_readSign 177 = .ok (.putfield 28, 3) := by decide +kernel
theorem dX9_readSign_180 : decode cX9_readSign 180 = .ok (.goto 105, 3) := by decide +kernel
theorem dX9_readSign_183 : decode cX9_readSign 183 = .ok (.aload_n 0, 1) := by decide +kernel
theorem dX9_readSign_184 : decode cX9_readSign 184 = .ok (.bipush 24, 2) := by decide +kernel
theorem dX9_readSign_186 : decode cX9_readSign 186 = .ok (.putfield 28, 3) := by decide +kernel
theorem dX9_readSign_189 : decode cX9_readSign 189 = .ok (.goto 96, 3) := by decide +kernel
theorem dX9_readSign_192 : decode cX9_readSign 192 = .ok (.aload_n 0, 1) := by decide +kernel
theorem dX9_readSign_193 : decode cX9_readSign 193 = .ok (.bipush 25, 2) := by decide +kernel
theorem dX9_readSign_195 : decode cX9_readSign 195 = .ok (.putfield 28, 3) := by decide +kernel
theorem dX9_readSign_198 : decode cX9_readSign 198 = .ok (.goto 87, 3) := by decide +kernel
theorem dX9_readSign_201 : decode cX9_readSign 201 = .ok (.aload_n 0, 1) := by decide +kernel
theorem dX9_readSign_202 : decode cX9_readSign 202 = .ok (.bipush 26, 2) := by decide +kernel
theorem dX9_readSign_204 : decode cX9_readSign 204 = .ok (.putfield 28, 3) := by decide +kernel
theorem dX9_readSign_207 : decode cX9_readSign 207 = .ok (.goto 78, 3) := by decide +kernel
theorem dX9_readSign_210 : decode cX9_readSign 210 = .ok (.aload_n 0, 1) := by decide +kernel
theorem dX9_readSign_211 : decode cX9_readSign 211 = .ok (.bipush 27, 2) := by decide +kernel
theorem dX9_readSign_213 : decode cX9_readSign 213 = .ok (.putfield 28, 3) := by decide +kernel
theorem dX9_readSign_216 : decode cX9_readSign 216 = .ok (.goto 69, 3) := by decide +kernel
theorem dX9_readSign_219 : decode cX9_readSign 219 = .ok (.aload_n 0, 1) := by decide +kernel
theorem dX9_readSign_220 : decode cX9_readSign 220 = .ok (.bipush 30, 2) := by decide +kernel
theorem dX9_readSign_222 : decode cX9_readSign 222 = .ok (.putfield 28, 3) := by decide +kernel
theorem dX9_readSign_225 : decode cX9_readSign 225 = .ok (.goto 60, 3) := by decide +kernel
theorem dX9_readSign_228 : decode cX9_readSign 228 = .ok (.aload_n 0, 1) := by decide +kernel
theorem dX9_readSign_229 : decode cX9_readSign 229 = .ok (.iload_n 1, 1) := by decide +kernel
theorem dX9_readSign_230 : decode cX9_readSign 230 = .ok (.bipush 61, 2) := by decide +kernel
theorem dX9_readSign_232 : decode cX9_readSign 232 = .ok (.if_icmp .ne 8, 3) := by decide +kernel
theorem dX9_readSign_235 : decode cX9_readSign 235 = .ok (.bipush 29, 2) := by decide +kernel
theorem dX9_readSign_237 : decode cX9_readSign 237 = .ok (.goto 16, 3) := by decide +kernel
theorem dX9_readSign_240 : decode cX9_readSign 240 = .ok (.iload_n 1, 1) := by decide +kernel
theorem dX9_readSign_241 : decode cX9_readSign 241 = .ok (.bipush 62, 2) := by decide +kernel
theorem dX9_readSign_243 : decode cX9_readSign 243 = .ok (.if_icmp .ne 8, 3) := by decide +kernel
theorem dX9_readSign_246 : decode cX9_readSign 246 = .ok (.bipush 31, 2) := by decide +kernel
theorem dX9_readSign_248 : decode cX9_readSign 248 = .ok (.goto 5, 3) := by decide +kernel
theorem dX9_readSign_251 : decode cX9_readSign 251 = .ok (.bipush 28, 2) := by decide +kernel
theorem dX9_readSign_253 : decode cX9_readSign 253 = .ok (.putfield 28, 3) := by decide +kernel
theorem dX9_readSign_256 : decode cX9_readSign 256 = .ok (.goto 29, 3) := by decide +kernel
theorem dX9_readSign_259 : decode cX9_readSign 259 = .ok (.aload_n 0, 1) := by decide +kernel
theorem dX9_readSign_260 : decode cX9_readSign 260 = .ok (.iload_n 1, 1) := by decide +kernel
theorem dX9_readSign_261 : decode cX9_readSign 261 = .ok (.bipush 61, 2) := by decide +kernel
theorem dX9_readSign_263 : decode cX9_readSign 263 = .ok (.if_icmp .ne 8, 3) := by decide +kernel
theorem dX9_readSign_266 : decode cX9_readSign 266 = .ok (.bipush 32, 2) := by decide +kernel
theorem dX9_readSign_268 : decode cX9_readSign 268 = .ok (.goto 5, 3) := by decide +kernel
theorem dX9_readSign_271 : decode cX9_readSign 271 = .ok (.bipush 33, 2) := by decide +kernel
theorem dX9_readSign_273 : decode cX9_readSign 273 = .ok (.putfield 28, 3) := by decide +kernel
theorem dX9_readSign_276 : decode cX9_readSign 276 = .ok (.goto 9, 3) := by decide +kernel
theorem dX9_readSign_279 : decode cX9_readSign 279 = .ok (.aload_n 0, 1) := by decide +kernel
theorem dX9_readSign_280 : decode cX9_readSign 280 = .ok (.bipush 40, 2) := by decide +kernel
theorem dX9_readSign_282 : decode cX9_readSign 282 = .ok (.putfield 28, 3) := by decide +kernel
theorem dX9_readSign_285 : decode cX9_readSign 285 = .ok (.aload_n 0, 1) := by decide +kernel
theorem dX9_readSign_286 : decode cX9_readSign 286 = .ok (.getfield 28, 3) := by decide +kernel
theorem dX9_readSign_289 : decode cX9_readSign 289 = .ok (.bipush 29, 2) := by decide +kernel
theorem dX9_readSign_291 : decode cX9_readSign 291 = .ok (.if_icmp .eq 21, 3) := by decide +kernel
theorem dX9_readSign_294 : decode cX9_readSign 294 = .ok (.aload_n 0, 1) := by decide +kernel
theorem dX9_readSign_295 : decode cX9_readSign 295 = .ok (.getfield 28, 3) := by decide +kernel
theorem dX9_readSign_298 : decode cX9_readSign 298 = .ok (.bipush 31, 2) := by decide +kernel
theorem dX9_readSign_300 : decode cX9_readSign 300 = .ok (.if_icmp .eq 12, 3) := by decide +kernel
theorem dX9_readSign_303 : decode cX9_readSign 303 = .ok (.aload_n 0, 1) := by decide +kernel
theorem dX9_readSign_304 : decode cX9_readSign 304 = .ok (.getfield 28, 3) := by decide +kernel
theorem dX9_readSign_307 : decode cX9_readSign 307 = .ok (.bipush 32, 2) := by decide +kernel
theorem dX9_readSign_309 : decode cX9_readSign 309 = .ok (.if_icmp .ne 13, 3) := by decide +kernel
theorem dX9_readSign_312 : decode cX9_readSign 312 = .ok (.aload_n 0, 1) := by decide +kernel
theorem dX9_readSign_313 : decode cX9_readSign 313 = .ok (.aload_n 0, 1) := by decide +kernel
theorem dX9_readSign_314 : decode cX9_readSign 314 = .ok (.getfield 25, 3) := by decide +kernel
theorem dX9_readSign_317 : decode cX9_readSign 317 = .ok (.iconst 2, 1) := by decide +kernel
theorem dX9_readSign_318 : decode cX9_readSign 318 = .ok (.iadd, 1) := by decide +kernel
theorem dX9_readSign_319 : decode cX9_readSign 319 = .ok (.putfield 19, 3) := by decide +kernel
theorem dX9_readSign_322 : decode cX9_readSign 322 = .ok (.return_, 1) := by decide +kernel
set_option maxRecDepth 10000 in
theorem vX9_readSign_0 {κ : eg_K} {d : Nat} {post : eg_H → Prop} (M : eg_H)  (h : (((¬ (M.1 (9, 0) 1) ≤ ((M.1 (9, 0) 2) + (1 : Int32))) → vp_in ((M.1 (9, 0) 2) + (1 : Int32)) 800) ∧ (∀ x2 : Int32, x2 = ((if (M.1 (9, 0) 1) ≤ ((M.1 (9, 0) 2) + (1 : Int32)) then (0 : Int32) else (M.1 (50, 0) ((M.1 (9, 0) 2) + (1 : Int32)).toNatClampNeg))) → (∀ M3 : eg_H, M3 = (sI M (9, 0) 3 ((M.1 (9, 0) 2) + (1 : Int32))) → (vp_in (M3.1 (9, 0) 2) 800 ∧ ((¬ (M3.1 (50, 0) (M3.1 (9, 0) 2).toNatClampNeg) = (40 : Int32)) → (¬ (M3.1 (50, 0) (M3.1 (9, 0) 2).toNatClampNeg) = (41 : Int32)) → (¬ (M3.1 (50, 0) (M3.1 (9, 0) 2).toNatClampNeg) = (42 : Int32)) → (¬ (M3.1 (50, 0) (M3.1 (9, 0) 2).toNatClampNeg) = (43 : Int32)) → (¬ (M3.1 (50, 0) (M3.1 (9, 0) 2).toNatClampNeg) = (45 : Int32)) → (¬ (M3.1 (50, 0) (M3.1 (9, 0) 2).toNatClampNeg) = (47 : Int32)) → (¬ (M3.1 (50, 0) (M3.1 (9, 0) 2).toNatClampNeg) = (59 : Int32)) → (¬ (M3.1 (50, 0) (M3.1 (9, 0) 2).toNatClampNeg) = (60 : Int32)) → (¬ (M3.1 (50, 0) (M3.1 (9, 0) 2).toNatClampNeg) = (61 : Int32)) → (¬ (M3.1 (50, 0) (M3.1 (9, 0) 2).toNatClampNeg) = (62 : Int32)) → eg_W κ gC mtX9_readSign d (eQV κ gC post) 279 [(0, vR (9, 0))] [] M3) ∧ ((M3.1 (50, 0) (M3.1 (9, 0) 2).toNatClampNeg) = (40 : Int32) → (∀ M5 : eg_H, M5 = (sI M3 (9, 0) 4 (34 : Int32)) → eg_W κ gC mtX9_readSign d (eQV κ gC post) 285 [(0, vR (9, 0))] [] M5)) ∧ ((M3.1 (50, 0) (M3.1 (9, 0) 2).toNatClampNeg) = (41 : Int32) → (∀ M6 : eg_H, M6 = (sI M3 (9, 0) 4 (35 : Int32)) → eg_W κ gC mtX9_readSign d (eQV κ gC post) 285 [(0, vR (9, 0))] [] M6)) ∧ ((M3.1 (50, 0) (M3.1 (9, 0) 2).toNatClampNeg) = (42 : Int32) → (∀ M7 : eg_H, M7 = (sI M3 (9, 0) 4 (26 : Int32)) → eg_W κ gC mtX9_readSign d (eQV κ gC post) 285 [(0, vR (9, 0))] [] M7)) ∧ ((M3.1 (50, 0) (M3.1 (9, 0) 2).toNatClampNeg) = (43 : Int32) → (∀ M8 : eg_H, M8 = (sI M3 (9, 0) 4 (24 : Int32)) → eg_W κ gC mtX9_readSign d (eQV κ gC post) 285 [(0, vR (9, 0))] [] M8)) ∧ ((M3.1 (50, 0) (M3.1 (9, 0) 2).toNatClampNeg) = (45 : Int32) → (∀ M9 : eg_H, M9 = (sI M3 (9, 0) 4 (25 : Int32)) → eg_W κ gC mtX9_readSign d (eQV κ gC post) 285 [(0, vR (9, 0))] [] M9)) ∧ ((M3.1 (50, 0) (M3.1 (9, 0) 2).toNatClampNeg) = (47 : Int32) → (∀ M10 : eg_H, M10 = (sI M3 (9, 0) 4 (27 : Int32)) → eg_W κ gC mtX9_readSign d (eQV κ gC post) 285 [(0, vR (9, 0))] [] M10)) ∧ ((M3.1 (50, 0) (M3.1 (9, 0) 2).toNatClampNeg) = (59 : Int32) → (∀ M11 : eg_H, M11 = (sI M3 (9, 0) 4 (36 : Int32)) → eg_W κ gC mtX9_readSign d (eQV κ gC post) 285 [(0, vR (9, 0))] [] M11)) ∧ ((M3.1 (50, 0) (M3.1 (9, 0) 2).toNatClampNeg) = (60 : Int32) → (∀ x12 : Int32, x12 = ((if (¬ x2 = (61 : Int32)) then (if (¬ x2 = (62 : Int32)) then (28 : Int32) else (31 : Int32)) else (29 : Int32))) → (∀ M13 : eg_H, M13 = (sI M3 (9, 0) 4 x12) → eg_W κ gC mtX9_readSign d (eQV κ gC post) 285 [(0, vR (9, 0))] [] M13))) ∧ ((M3.1 (50, 0) (M3.1 (9, 0) 2).toNatClampNeg) = (61 : Int32) → (∀ M18 : eg_H, M18 = (sI M3 (9, 0) 4 (30 : Int32)) → eg_W κ gC mtX9_readSign d (eQV κ gC post) 285 [(0, vR (9, 0))] [] M18)) ∧ ((M3.1 (50, 0) (M3.1 (9, 0) 2).toNatClampNeg) = (62 : Int32) → (∀ x19 : Int32, x19 = ((if (¬ x2 = (61 : Int32)) then (33 : Int32) else (32 : Int32))) → (∀ M20 : eg_H, M20 = (sI M3 (9, 0) 4 x19) → eg_W κ gC mtX9_readSign d (eQV κ gC post) 285 [(0, vR (9, 0))] [] M20)))))))) : eg_W κ gC mtX9_readSign d (eQV κ gC post) 0 [(0, vR (9, 0))] [] M := by
  refine eg_aload_n 0 dX9_readSign_0 rfl rfl ?_
  refine eg_getI dX9_readSign_1 fl_9_25 rfl trivial (obC_9 z1) ?_
  refine eg_iconst dX9_readSign_4 ic_1 ?_
  refine eg_iadd dX9_readSign_5 ?_
  refine eg_aload_n 0 dX9_readSign_6 rfl rfl ?_
  refine eg_getI dX9_readSign_7 fl_9_15 rfl trivial (obC_9 z1) ?_
  obtain ⟨g1, h⟩ := h
  have J : ∀ x2 : Int32, x2 = (if (M.1 (9, 0) 1) ≤ ((M.1 (9, 0) 2) + (1 : Int32)) then (0 : Int32) else (M.1 (50, 0) ((M.1 (9, 0) 2) + (1 : Int32)).toNatClampNeg)) → eg_W κ gC mtX9_readSign d (eQV κ gC post) 28 [(0, vR (9, 0))] [vI x2] M := by
    intro x2 ex2
    have h := h x2 ex2
    refine eg_istore_n dX9_readSign_28 rfl (by decide) (ls1 := [(1, vI x2), (0, vR (9, 0))]) rfl ?_
    refine eg_aload_n 1 dX9_readSign_29 rfl rfl ?_
    refine eg_aload_n 1 dX9_readSign_30 rfl rfl ?_
    refine eg_getI dX9_readSign_31 fl_9_25 rfl trivial (obC_9 z1) ?_
    refine eg_iconst dX9_readSign_34 ic_1 ?_
    refine eg_iadd dX9_readSign_35 ?_
    refine en_putI dX9_readSign_36 fl_9_19 rfl rfl (obC_9 z1) (fun M3 eM3 => ?_)
    have h := h M3 eM3
    refine eg_aload_n 1 dX9_readSign_39 rfl rfl ?_
    refine eg_getR dX9_readSign_40 fl_9_9 rfl rfl (obC_9 z1) ?_
    show eg_W κ gC mtX9_readSign d (eQV κ gC post) 43 [(1, vI x2), (0, vR (9, 0))] [vR (50, 0)] M3
    refine eg_aload_n 1 dX9_readSign_43 rfl rfl ?_
    refine eg_getI dX9_readSign_44 fl_9_25 rfl trivial (obC_9 z1) ?_
    obtain ⟨g4, h⟩ := h
    refine eg_baload dX9_readSign_47 (arC_50 z1 g4) ?_
    have J : (¬ (M3.1 (50, 0) (M3.1 (9, 0) 2).toNatClampNeg) = (40 : Int32)) → (¬ (M3.1 (50, 0) (M3.1 (9, 0) 2).toNatClampNeg) = (41 : Int32)) → (¬ (M3.1 (50, 0) (M3.1 (9, 0) 2).toNatClampNeg) = (42 : Int32)) → (¬ (M3.1 (50, 0) (M3.1 (9, 0) 2).toNatClampNeg) = (43 : Int32)) → (¬ (M3.1 (50, 0) (M3.1 (9, 0) 2).toNatClampNeg) = (45 : Int32)) → (¬ (M3.1 (50, 0) (M3.1 (9, 0) 2).toNatClampNeg) = (47 : Int32)) → (¬ (M3.1 (50, 0) (M3.1 (9, 0) 2).toNatClampNeg) = (59 : Int32)) → (¬ (M3.1 (50, 0) (M3.1 (9, 0) 2).toNatClampNeg) = (60 : Int32)) → (¬ (M3.1 (50, 0) (M3.1 (9, 0) 2).toNatClampNeg) = (61 : Int32)) → (¬ (M3.1 (50, 0) (M3.1 (9, 0) 2).toNatClampNeg) = (62 : Int32)) → eg_W κ gC mtX9_readSign d (eQV κ gC post) 279 [(1, vI x2), (0, vR (9, 0))] [] M3 := by
      intro c0_ c1_ c2_ c3_ c5_ c7_ c19_ c20_ c21_ c22_
      have h := h.1 c0_ c1_ c2_ c3_ c5_ c7_ c19_ c20_ c21_ c22_
      refine eg_sub [1] rfl ?_
      exact h
    by_cases c0_ : (M3.1 (50, 0) (M3.1 (9, 0) 2).toNatClampNeg) = (40 : Int32)
    · refine eg_tabI (tgt := 165) dX9_readSign_48 (by rw [c0_]; decide) (by rw [c0_]; decide) (off := 117) (by rw [c0_]; rfl) rfl ?_
      have h := h.2.1 c0_
      refine eg_aload_n 1 dX9_readSign_165 rfl rfl ?_
      refine eg_bipush dX9_readSign_166 bp_34 ?_
      refine en_putI dX9_readSign_168 fl_9_28 rfl rfl (obC_9 z1) (fun M5 eM5 => ?_)
      have h := h M5 eM5
      refine eg_goto (tgt := 285) dX9_readSign_171 rfl ?_
      refine eg_sub [1] rfl ?_
      exact h
    by_cases c1_ : (M3.1 (50, 0) (M3.1 (9, 0) 2).toNatClampNeg) = (41 : Int32)
    · refine eg_tabI (tgt := 174) dX9_readSign_48 (by rw [c1_]; decide) (by rw [c1_]; decide) (off := 126) (by rw [c1_]; rfl) rfl ?_
      have h := h.2.2.1 c1_
      refine eg_aload_n 1 dX9_readSign_174 rfl rfl ?_
      refine eg_bipush dX9_readSign_175 bp_35 ?_
      refine en_putI dX9_readSign_177 fl_9_28 rfl rfl (obC_9 z1) (fun M6 eM6 => ?_)
      have h := h M6 eM6
      refine eg_goto (tgt := 285) dX9_readSign_180 rfl ?_
      refine eg_sub [1] rfl ?_
      exact h
    by_cases c2_ : (M3.1 (50, 0) (M3.1 (9, 0) 2).toNatClampNeg) = (42 : Int32)
    · refine eg_tabI (tgt := 201) dX9_readSign_48 (by rw [c2_]; decide) (by rw [c2_]; decide) (off := 153) (by rw [c2_]; rfl) rfl ?_
      have h := h.2.2.2.1 c2_
      refine eg_aload_n 1 dX9_readSign_201 rfl rfl ?_
      refine eg_bipush dX9_readSign_202 bp_26 ?_
      refine en_putI dX9_readSign_204 fl_9_28 rfl rfl (obC_9 z1) (fun M7 eM7 => ?_)
      have h := h M7 eM7
      refine eg_goto (tgt := 285) dX9_readSign_207 rfl ?_
      refine eg_sub [1] rfl ?_
      exact h
    by_cases c3_ : (M3.1 (50, 0) (M3.1 (9, 0) 2).toNatClampNeg) = (43 : Int32)
    · refine eg_tabI (tgt := 183) dX9_readSign_48 (by rw [c3_]; decide) (by rw [c3_]; decide) (off := 135) (by rw [c3_]; rfl) rfl ?_
      have h := h.2.2.2.2.1 c3_
      refine eg_aload_n 1 dX9_readSign_183 rfl rfl ?_
      refine eg_bipush dX9_readSign_184 bp_24 ?_
      refine en_putI dX9_readSign_186 fl_9_28 rfl rfl (obC_9 z1) (fun M8 eM8 => ?_)
      have h := h M8 eM8
      refine eg_goto (tgt := 285) dX9_readSign_189 rfl ?_
      refine eg_sub [1] rfl ?_
      exact h
    by_cases c4_ : (M3.1 (50, 0) (M3.1 (9, 0) 2).toNatClampNeg) = (44 : Int32)
    · refine eg_tabI (tgt := 279) dX9_readSign_48 (by rw [c4_]; decide) (by rw [c4_]; decide) (off := 231) (by rw [c4_]; rfl) rfl ?_
      exact J (by rw [c4_]; decide) (by rw [c4_]; decide) (by rw [c4_]; decide) (by rw [c4_]; decide) (by rw [c4_]; decide) (by rw [c4_]; decide) (by rw [c4_]; decide) (by rw [c4_]; decide) (by rw [c4_]; decide) (by rw [c4_]; decide)
    by_cases c5_ : (M3.1 (50, 0) (M3.1 (9, 0) 2).toNatClampNeg) = (45 : Int32)
    · refine eg_tabI (tgt := 192) dX9_readSign_48 (by rw [c5_]; decide) (by rw [c5_]; decide) (off := 144) (by rw [c5_]; rfl) rfl ?_
      have h := h.2.2.2.2.2.1 c5_
      refine eg_aload_n 1 dX9_readSign_192 rfl rfl ?_
      refine eg_bipush dX9_readSign_193 bp_25 ?_
      refine en_putI dX9_readSign_195 fl_9_28 rfl rfl (obC_9 z1) (fun M9 eM9 => ?_)
      have h := h M9 eM9
      refine eg_goto (tgt := 285) dX9_readSign_198 rfl ?_
      refine eg_sub [1] rfl ?_
      exact h
    by_cases c6_ : (M3.1 (50, 0) (M3.1 (9, 0) 2).toNatClampNeg) = (46 : Int32)
    · refine eg_tabI (tgt := 279) dX9_readSign_48 (by rw [c6_]; decide) (by rw [c6_]; decide) (off := 231) (by rw [c6_]; rfl) rfl ?_
      exact J (by rw [c6_]; decide) (by rw [c6_]; decide) (by rw [c6_]; decide) (by rw [c6_]; decide) (by rw [c6_]; decide) (by rw [c6_]; decide) (by rw [c6_]; decide) (by rw [c6_]; decide) (by rw [c6_]; decide) (by rw [c6_]; decide)
    by_cases c7_ : (M3.1 (50, 0) (M3.1 (9, 0) 2).toNatClampNeg) = (47 : Int32)
    · refine eg_tabI (tgt := 210) dX9_readSign_48 (by rw [c7_]; decide) (by rw [c7_]; decide) (off := 162) (by rw [c7_]; rfl) rfl ?_
      have h := h.2.2.2.2.2.2.1 c7_
      refine eg_aload_n 1 dX9_readSign_210 rfl rfl ?_
      refine eg_bipush dX9_readSign_211 bp_27 ?_
      refine en_putI dX9_readSign_213 fl_9_28 rfl rfl (obC_9 z1) (fun M10 eM10 => ?_)
      have h := h M10 eM10
      refine eg_goto (tgt := 285) dX9_readSign_216 rfl ?_
      refine eg_sub [1] rfl ?_
      exact h
    by_cases c8_ : (M3.1 (50, 0) (M3.1 (9, 0) 2).toNatClampNeg) = (48 : Int32)
    · refine eg_tabI (tgt := 279) dX9_readSign_48 (by rw [c8_]; decide) (by rw [c8_]; decide) (off := 231) (by rw [c8_]; rfl) rfl ?_
      exact J (by rw [c8_]; decide) (by rw [c8_]; decide) (by rw [c8_]; decide) (by rw [c8_]; decide) (by rw [c8_]; decide) (by rw [c8_]; decide) (by rw [c8_]; decide) (by rw [c8_]; decide) (by rw [c8_]; decide) (by rw [c8_]; decide)
    by_cases c9_ : (M3.1 (50, 0) (M3.1 (9, 0) 2).toNatClampNeg) = (49 : Int32)
    · refine eg_tabI (tgt := 279) dX9_readSign_48 (by rw [c9_]; decide) (by rw [c9_]; decide) (off := 231) (by rw [c9_]; rfl) rfl ?_
      exact J (by rw [c9_]; decide) (by rw [c9_]; decide) (by rw [c9_]; decide) (by rw [c9_]; decide) (by rw [c9_]; decide) (by rw [c9_]; decide) (by rw [c9_]; decide) (by rw [c9_]; decide) (by rw [c9_]; decide) (by rw [c9_]; decide)
    by_cases c10_ : (M3.1 (50, 0) (M3.1 (9, 0) 2).toNatClampNeg) = (50 : Int32)
    · refine eg_tabI (tgt := 279) dX9_readSign_48 (by rw [c10_]; decide) (by rw [c10_]; decide) (off := 231) (by rw [c10_]; rfl) rfl ?_
      exact J (by rw [c10_]; decide) (by rw [c10_]; decide) (by rw [c10_]; decide) (by rw [c10_]; decide) (by rw [c10_]; decide) (by rw [c10_]; decide) (by rw [c10_]; decide) (by rw [c10_]; decide) (by rw [c10_]; decide) (by rw [c10_]; decide)
    by_cases c11_ : (M3.1 (50, 0) (M3.1 (9, 0) 2).toNatClampNeg) = (51 : Int32)
    · refine eg_tabI (tgt := 279) dX9_readSign_48 (by rw [c11_]; decide) (by rw [c11_]; decide) (off := 231) (by rw [c11_]; rfl) rfl ?_
      exact J (by rw [c11_]; decide) (by rw [c11_]; decide) (by rw [c11_]; decide) (by rw [c11_]; decide) (by rw [c11_]; decide) (by rw [c11_]; decide) (by rw [c11_]; decide) (by rw [c11_]; decide) (by rw [c11_]; decide) (by rw [c11_]; decide)
    by_cases c12_ : (M3.1 (50, 0) (M3.1 (9, 0) 2).toNatClampNeg) = (52 : Int32)
    · refine eg_tabI (tgt := 279) dX9_readSign_48 (by rw [c12_]; decide) (by rw [c12_]; decide) (off := 231) (by rw [c12_]; rfl) rfl ?_
      exact J (by rw [c12_]; decide) (by rw [c12_]; decide) (by rw [c12_]; decide) (by rw [c12_]; decide) (by rw [c12_]; decide) (by rw [c12_]; decide) (by rw [c12_]; decide) (by rw [c12_]; decide) (by rw [c12_]; decide) (by rw [c12_]; decide)
    by_cases c13_ : (M3.1 (50, 0) (M3.1 (9, 0) 2).toNatClampNeg) = (53 : Int32)
    · refine eg_tabI (tgt := 279) dX9_readSign_48 (by rw [c13_]; decide) (by rw [c13_]; decide) (off := 231) (by rw [c13_]; rfl) rfl ?_
      exact J (by rw [c13_]; decide) (by rw [c13_]; decide) (by rw [c13_]; decide) (by rw [c13_]; decide) (by rw [c13_]; decide) (by rw [c13_]; decide) (by rw [c13_]; decide) (by rw [c13_]; decide) (by rw [c13_]; decide) (by rw [c13_]; decide)
    by_cases c14_ : (M3.1 (50, 0) (M3.1 (9, 0) 2).toNatClampNeg) = (54 : Int32)
    · refine eg_tabI (tgt := 279) dX9_readSign_48 (by rw [c14_]; decide) (by rw [c14_]; decide) (off := 231) (by rw [c14_]; rfl) rfl ?_
      exact J (by rw [c14_]; decide) (by rw [c14_]; decide) (by rw [c14_]; decide) (by rw [c14_]; decide) (by rw [c14_]; decide) (by rw [c14_]; decide) (by rw [c14_]; decide) (by rw [c14_]; decide) (by rw [c14_]; decide) (by rw [c14_]; decide)
    by_cases c15_ : (M3.1 (50, 0) (M3.1 (9, 0) 2).toNatClampNeg) = (55 : Int32)
    · refine eg_tabI (tgt := 279) dX9_readSign_48 (by rw [c15_]; decide) (by rw [c15_]; decide) (off := 231) (by rw [c15_]; rfl) rfl ?_
      exact J (by rw [c15_]; decide) (by rw [c15_]; decide) (by rw [c15_]; decide) (by rw [c15_]; decide) (by rw [c15_]; decide) (by rw [c15_]; decide) (by rw [c15_]; decide) (by rw [c15_]; decide) (by rw [c15_]; decide) (by rw [c15_]; decide)
    by_cases c16_ : (M3.1 (50, 0) (M3.1 (9, 0) 2).toNatClampNeg) = (56 : Int32)
    · refine eg_tabI (tgt := 279) dX9_readSign_48 (by rw [c16_]; decide) (by rw [c16_]; decide) (off := 231) (by rw [c16_]; rfl) rfl ?_
      exact J (by rw [c16_]; decide) (by rw [c16_]; decide) (by rw [c16_]; decide) (by rw [c16_]; decide) (by rw [c16_]; decide) (by rw [c16_]; decide) (by rw [c16_]; decide) (by rw [c16_]; decide) (by rw [c16_]; decide) (by rw [c16_]; decide)
    by_cases c17_ : (M3.1 (50, 0) (M3.1 (9, 0) 2).toNatClampNeg) = (57 : Int32)
    · refine eg_tabI (tgt := 279) dX9_readSign_48 (by rw [c17_]; decide) (by rw [c17_]; decide) (off := 231) (by rw [c17_]; rfl) rfl ?_
      exact J (by rw [c17_]; decide) (by rw [c17_]; decide) (by rw [c17_]; decide) (by rw [c17_]; decide) (by rw [c17_]; decide) (by rw [c17_]; decide) (by rw [c17_]; decide) (by rw [c17_]; decide) (by rw [c17_]; decide) (by rw [c17_]; decide)
    by_cases c18_ : (M3.1 (50, 0) (M3.1 (9, 0) 2).toNatClampNeg) = (58 : Int32)
    · refine eg_tabI (tgt := 279) dX9_readSign_48 (by rw [c18_]; decide) (by rw [c18_]; decide) (off := 231) (by rw [c18_]; rfl) rfl ?_
      exact J (by rw [c18_]; decide) (by rw [c18_]; decide) (by rw [c18_]; decide) (by rw [c18_]; decide) (by rw [c18_]; decide) (by rw [c18_]; decide) (by rw [c18_]; decide) (by rw [c18_]; decide) (by rw [c18_]; decide) (by rw [c18_]; decide)
    by_cases c19_ : (M3.1 (50, 0) (M3.1 (9, 0) 2).toNatClampNeg) = (59 : Int32)
    · refine eg_tabI (tgt := 156) dX9_readSign_48 (by rw [c19_]; decide) (by rw [c19_]; decide) (off := 108) (by rw [c19_]; rfl) rfl ?_
      have h := h.2.2.2.2.2.2.2.1 c19_
      refine eg_aload_n 1 dX9_readSign_156 rfl rfl ?_
      refine eg_bipush dX9_readSign_157 bp_36 ?_
      refine en_putI dX9_readSign_159 fl_9_28 rfl rfl (obC_9 z1) (fun M11 eM11 => ?_)
      have h := h M11 eM11
      refine eg_goto (tgt := 285) dX9_readSign_162 rfl ?_
      refine eg_sub [1] rfl ?_
      exact h
    by_cases c20_ : (M3.1 (50, 0) (M3.1 (9, 0) 2).toNatClampNeg) = (60 : Int32)
    · refine eg_tabI (tgt := 228) dX9_readSign_48 (by rw [c20_]; decide) (by rw [c20_]; decide) (off := 180) (by rw [c20_]; rfl) rfl ?_
      have h := h.2.2.2.2.2.2.2.2.1 c20_
      refine eg_aload_n 1 dX9_readSign_228 rfl rfl ?_
      refine eg_iload_n 0 dX9_readSign_229 rfl rfl ?_
      refine eg_bipush dX9_readSign_230 bp_61 ?_
      have J : ∀ x12 : Int32, x12 = (if (¬ x2 = (61 : Int32)) then (if (¬ x2 = (62 : Int32)) then (28 : Int32) else (31 : Int32)) else (29 : Int32)) → eg_W κ gC mtX9_readSign d (eQV κ gC post) 253 [(1, vI x2), (0, vR (9, 0))] [vI x12, vR (9, 0)] M3 := by
        intro x12 ex12
        have h := h x12 ex12
        refine en_putI dX9_readSign_253 fl_9_28 rfl rfl (obC_9 z1) (fun M13 eM13 => ?_)
        have h := h M13 eM13
        refine eg_goto (tgt := 285) dX9_readSign_256 rfl ?_
        refine eg_sub [1] rfl ?_
        exact h
      clear h
      refine eg_icmp_ne (tgt := 240) dX9_readSign_232 rfl (fun c14 => ?_) (fun c14 => ?_)
      · refine eg_iload_n 0 dX9_readSign_240 rfl rfl ?_
        refine eg_bipush dX9_readSign_241 bp_62 ?_
        refine eg_icmp_ne (tgt := 251) dX9_readSign_243 rfl (fun c15 => ?_) (fun c15 => ?_)
        · refine eg_bipush dX9_readSign_251 bp_28 ?_
          exact J _ (by rw [if_pos c14, if_pos c15])
        · have c16 : ¬ (¬ x2 = (62 : Int32)) := fun z => z c15
          refine eg_bipush dX9_readSign_246 bp_31 ?_
          refine eg_goto (tgt := 253) dX9_readSign_248 rfl ?_
          exact J _ (by rw [if_pos c14, if_neg c16])
      · have c17 : ¬ (¬ x2 = (61 : Int32)) := fun z => z c14
        refine eg_bipush dX9_readSign_235 bp_29 ?_
        refine eg_goto (tgt := 253) dX9_readSign_237 rfl ?_
        exact J _ (by rw [if_neg c17])
    by_cases c21_ : (M3.1 (50, 0) (M3.1 (9, 0) 2).toNatClampNeg) = (61 : Int32)
    · refine eg_tabI (tgt := 219) dX9_readSign_48 (by rw [c21_]; decide) (by rw [c21_]; decide) (off := 171) (by rw [c21_]; rfl) rfl ?_
      have h := h.2.2.2.2.2.2.2.2.2.1 c21_
      refine eg_aload_n 1 dX9_readSign_219 rfl rfl ?_
      refine eg_bipush dX9_readSign_220 bp_30 ?_
      refine en_putI dX9_readSign_222 fl_9_28 rfl rfl (obC_9 z1) (fun M18 eM18 => ?_)
      have h := h M18 eM18
      refine eg_goto (tgt := 285) dX9_readSign_225 rfl ?_
      refine eg_sub [1] rfl ?_
      exact h
    by_cases c22_ : (M3.1 (50, 0) (M3.1 (9, 0) 2).toNatClampNeg) = (62 : Int32)
    · refine eg_tabI (tgt := 259) dX9_readSign_48 (by rw [c22_]; decide) (by rw [c22_]; decide) (off := 211) (by rw [c22_]; rfl) rfl ?_
      have h := h.2.2.2.2.2.2.2.2.2.2 c22_
      refine eg_aload_n 1 dX9_readSign_259 rfl rfl ?_
      refine eg_iload_n 0 dX9_readSign_260 rfl rfl ?_
      refine eg_bipush dX9_readSign_261 bp_61 ?_
      have J : ∀ x19 : Int32, x19 = (if (¬ x2 = (61 : Int32)) then (33 : Int32) else (32 : Int32)) → eg_W κ gC mtX9_readSign d (eQV κ gC post) 273 [(1, vI x2), (0, vR (9, 0))] [vI x19, vR (9, 0)] M3 := by
        intro x19 ex19
        have h := h x19 ex19
        refine en_putI dX9_readSign_273 fl_9_28 rfl rfl (obC_9 z1) (fun M20 eM20 => ?_)
        have h := h M20 eM20
        refine eg_goto (tgt := 285) dX9_readSign_276 rfl ?_
        refine eg_sub [1] rfl ?_
        exact h
      clear h
      refine eg_icmp_ne (tgt := 271) dX9_readSign_263 rfl (fun c21 => ?_) (fun c21 => ?_)
      · refine eg_bipush dX9_readSign_271 bp_33 ?_
        exact J _ (by rw [if_pos c21])
      · have c22 : ¬ (¬ x2 = (61 : Int32)) := fun z => z c21
        refine eg_bipush dX9_readSign_266 bp_32 ?_
        refine eg_goto (tgt := 273) dX9_readSign_268 rfl ?_
        exact J _ (by rw [if_neg c22])
    refine eg_tabO (tgt := 279) dX9_readSign_48 ?_ rfl (J c0_ c1_ c2_ c3_ c5_ c7_ c19_ c20_ c21_ c22_)
    have t0_ := eg_ti 40 (by decide) c0_
    have t1_ := eg_ti 41 (by decide) c1_
    have t2_ := eg_ti 42 (by decide) c2_
    have t3_ := eg_ti 43 (by decide) c3_
    have t4_ := eg_ti 44 (by decide) c4_
    have t5_ := eg_ti 45 (by decide) c5_
    have t6_ := eg_ti 46 (by decide) c6_
    have t7_ := eg_ti 47 (by decide) c7_
    have t8_ := eg_ti 48 (by decide) c8_
    have t9_ := eg_ti 49 (by decide) c9_
    have t10_ := eg_ti 50 (by decide) c10_
    have t11_ := eg_ti 51 (by decide) c11_
    have t12_ := eg_ti 52 (by decide) c12_
    have t13_ := eg_ti 53 (by decide) c13_
    have t14_ := eg_ti 54 (by decide) c14_
    have t15_ := eg_ti 55 (by decide) c15_
    have t16_ := eg_ti 56 (by decide) c16_
    have t17_ := eg_ti 57 (by decide) c17_
    have t18_ := eg_ti 58 (by decide) c18_
    have t19_ := eg_ti 59 (by decide) c19_
    have t20_ := eg_ti 60 (by decide) c20_
    have t21_ := eg_ti 61 (by decide) c21_
    have t22_ := eg_ti 62 (by decide) c22_
    omega
  clear h
  refine eg_icmp_ge (tgt := 27) dX9_readSign_10 rfl (fun c23 => ?_) (fun c23 => ?_)
  · refine eg_iconst dX9_readSign_27 ic_0 ?_
    exact J _ (by rw [if_pos c23])
  · refine eg_aload_n 0 dX9_readSign_13 rfl rfl ?_
    refine eg_getR dX9_readSign_14 fl_9_9 rfl rfl (obC_9 z1) ?_
    show eg_W κ gC mtX9_readSign d (eQV κ gC post) 17 [(0, vR (9, 0))] [vR (50, 0)] M
    refine eg_aload_n 0 dX9_readSign_17 rfl rfl ?_
    refine eg_getI dX9_readSign_18 fl_9_25 rfl trivial (obC_9 z1) ?_
    refine eg_iconst dX9_readSign_21 ic_1 ?_
    refine eg_iadd dX9_readSign_22 ?_
    refine eg_baload dX9_readSign_23 (arC_50 z1 (g1 (show (¬ (M.1 (9, 0) 1) ≤ ((M.1 (9, 0) 2) + (1 : Int32))) from by first | exact c23 | exact Classical.not_not.mp c23))) ?_
    refine eg_goto (tgt := 28) dX9_readSign_24 rfl ?_
    exact J _ (by rw [if_neg c23])
set_option maxRecDepth 10000 in
theorem vX9_readSign_279 {κ : eg_K} {d : Nat} {post : eg_H → Prop} (M : eg_H)  (h : (∀ M1 : eg_H, M1 = (sI M (9, 0) 4 (40 : Int32)) → eg_W κ gC mtX9_readSign d (eQV κ gC post) 285 [(0, vR (9, 0))] [] M1)) : eg_W κ gC mtX9_readSign d (eQV κ gC post) 279 [(0, vR (9, 0))] [] M := by
  refine eg_aload_n 0 dX9_readSign_279 rfl rfl ?_
  refine eg_bipush dX9_readSign_280 bp_40 ?_
  refine en_putI dX9_readSign_282 fl_9_28 rfl rfl (obC_9 z1) (fun M1 eM1 => ?_)
  have h := h M1 eM1
  exact h
set_option maxRecDepth 10000 in
theorem vX9_readSign_285 {κ : eg_K} {d : Nat} {post : eg_H → Prop} (M : eg_H)  (h : ((M.1 (9, 0) 4) = (29 : Int32) → eg_W κ gC mtX9_readSign d (eQV κ gC post) 312 [(0, vR (9, 0))] [] M) ∧ ((¬ (M.1 (9, 0) 4) = (29 : Int32)) → ((M.1 (9, 0) 4) = (31 : Int32) → eg_W κ gC mtX9_readSign d (eQV κ gC post) 312 [(0, vR (9, 0))] [] M) ∧ ((¬ (M.1 (9, 0) 4) = (31 : Int32)) → ((¬ (M.1 (9, 0) 4) = (32 : Int32)) → post M) ∧ ((M.1 (9, 0) 4) = (32 : Int32) → eg_W κ gC mtX9_readSign d (eQV κ gC post) 312 [(0, vR (9, 0))] [] M)))) : eg_W κ gC mtX9_readSign d (eQV κ gC post) 285 [(0, vR (9, 0))] [] M := by
  refine eg_aload_n 0 dX9_readSign_285 rfl rfl ?_
  refine eg_getI dX9_readSign_286 fl_9_28 rfl trivial (obC_9 z1) ?_
  refine eg_bipush dX9_readSign_289 bp_29 ?_
  refine eg_icmp_eq (tgt := 312) dX9_readSign_291 rfl (fun c1 => ?_) (fun c1 => ?_)
  · have h := h.1 c1
    exact h
  · have h := h.2 c1
    refine eg_aload_n 0 dX9_readSign_294 rfl rfl ?_
    refine eg_getI dX9_readSign_295 fl_9_28 rfl trivial (obC_9 z1) ?_
    refine eg_bipush dX9_readSign_298 bp_31 ?_
    refine eg_icmp_eq (tgt := 312) dX9_readSign_300 rfl (fun c2 => ?_) (fun c2 => ?_)
    · have h := h.1 c2
      exact h
    · have h := h.2 c2
      refine eg_aload_n 0 dX9_readSign_303 rfl rfl ?_
      refine eg_getI dX9_readSign_304 fl_9_28 rfl trivial (obC_9 z1) ?_
      refine eg_bipush dX9_readSign_307 bp_32 ?_
      refine eg_icmp_ne (tgt := 322) dX9_readSign_309 rfl (fun c3 => ?_) (fun c3 => ?_)
      · have h := h.1 c3
        exact eg_vreturn dX9_readSign_322 rfl h
      · have h := h.2 c3
        exact h
set_option maxRecDepth 10000 in
theorem vX9_readSign_312 {κ : eg_K} {d : Nat} {post : eg_H → Prop} (M : eg_H)  (h : (∀ M1 : eg_H, M1 = (sI M (9, 0) 3 ((M.1 (9, 0) 2) + (2 : Int32))) → post M1)) : eg_W κ gC mtX9_readSign d (eQV κ gC post) 312 [(0, vR (9, 0))] [] M := by
  refine eg_aload_n 0 dX9_readSign_312 rfl rfl ?_
  refine eg_aload_n 0 dX9_readSign_313 rfl rfl ?_
  refine eg_getI dX9_readSign_314 fl_9_25 rfl trivial (obC_9 z1) ?_
  refine eg_iconst dX9_readSign_317 ic_2 ?_
  refine eg_iadd dX9_readSign_318 ?_
  refine en_putI dX9_readSign_319 fl_9_19 rfl rfl (obC_9 z1) (fun M1 eM1 => ?_)
  have h := h M1 eM1
  exact eg_vreturn dX9_readSign_322 rfl h
theorem dX6_begin_0 : decode cX6_begin 0 = .ok (.aload_n 0, 1) := by decide +kernel
theorem dX6_begin_1 : decode cX6_begin 1 = .ok (.aload_n 1, 1) := by decide +kernel
theorem dX6_begin_2 : decode cX6_begin 2 = .ok (.putfield 23, 3) := by decide +kernel
theorem dX6_begin_5 : decode cX6_begin 5 = .ok (.aload_n 0, 1) := by decide +kernel
theorem dX6_begin_6 : decode cX6_begin 6 = .ok (.getfield 23, 3) := by decide +kernel
theorem dX6_begin_9 : decode cX6_begin 9 = .ok (.invokevirtual 27, 3) := by decide +kernel
theorem dX6_begin_12 : decode cX6_begin 12 = .ok (.aload_n 0, 1) := by decide +kernel
theorem dX6_begin_13 : decode cX6_begin 13 = .ok (.iconst 0, 1) := by decide +kernel
theorem dX6_begin_14 : decode cX6_begin 14 = .ok (.putfield 32, 3) := by decide +kernel
theorem dX6_begin_17 : decode cX6_begin 17 = .ok (.aload_n 0, 1) := by decide +kernel
theorem dX6_begin_18 : decode cX6_begin 18 = .ok (.iconst (-1), 1) := by decide +kernel
theorem dX6_begin_19 : decode cX6_begin 19 = .ok (.putfield 9, 3) := by decide +kernel
theorem dX6_begin_22 : decode cX6_begin 22 = .ok (.aload_n 0, 1) := by decide +kernel
theorem dX6_begin_23 : decode cX6_begin 23 = .ok (.iconst 0, 1) := by decide +kernel
theorem dX6_begin_24 : decode cX6_begin 24 = .ok (.putfield 35, 3) := by decide +kernel
theorem dX6_begin_27 : decode cX6_begin 27 = .ok (.aload_n 0, 1) := by decide +kernel
theorem dX6_begin_28 : decode cX6_begin 28 = .ok (.iconst 0, 1) := by decide +kernel
theorem dX6_begin_29 : decode cX6_begin 29 = .ok (.putfield 38, 3) := by decide +kernel
theorem dX6_begin_32 : decode cX6_begin 32 = .ok (.aload_n 0, 1) := by decide +kernel
theorem dX6_begin_33 : decode cX6_begin 33 = .ok (.iconst 0, 1) := by decide +kernel
theorem dX6_begin_34 : decode cX6_begin 34 = .ok (.putfield 41, 3) := by decide +kernel
theorem dX6_begin_37 : decode cX6_begin 37 = .ok (.aload_n 0, 1) := by decide +kernel
theorem dX6_begin_38 : decode cX6_begin 38 = .ok (.getfield 19, 3) := by decide +kernel
theorem dX6_begin_41 : decode cX6_begin 41 = .ok (.iload_n 2, 1) := by decide +kernel
theorem dX6_begin_42 : decode cX6_begin 42 = .ok (.invokevirtual 45, 3) := by decide +kernel
theorem dX6_begin_45 : decode cX6_begin 45 = .ok (.return_, 1) := by decide +kernel
set_option maxRecDepth 10000 in
theorem vX6_begin_0 {κ : eg_K} {d : Nat} (hd : 1 ≤ d) {post : eg_H → Prop} (M : eg_H) {l1 : Nat} (hl1 : l1 < 2) (l2 : Int32) (h : (∀ M1 : eg_H, M1 = (sR M (6, 0) 1 (5, l1)) → (∃ p2 : Nat, p2 < 2 ∧ M1.2.2 (6, 0) 1 = (5, p2) ∧ eCV κ gC mtX5_clear d [vR (5, p2)] M1 (fun M3 => (∀ M5 : eg_H, M5 = (sI M3 (6, 0) 2 (0 : Int32)) → (∀ M6 : eg_H, M6 = (sI M5 (6, 0) 3 (-1 : Int32)) → (∀ M7 : eg_H, M7 = (sI M6 (6, 0) 4 (0 : Int32)) → (∀ M8 : eg_H, M8 = (sI M7 (6, 0) 8 (0 : Int32)) → (∀ M9 : eg_H, M9 = (sI M8 (6, 0) 5 (0 : Int32)) → eCV κ gC mtX9_begin d [vR (9, 0), vI l2] M9 (fun M10 => post M10)))))))))) : eg_W κ gC mtX6_begin d (eQV κ gC post) 0 [(0, vR (6, 0)), (1, vR (5, l1)), (2, vI l2)] [] M := by
  refine eg_aload_n 0 dX6_begin_0 rfl rfl ?_
  refine eg_aload_n 1 dX6_begin_1 rfl rfl ?_
  refine en_putD dX6_begin_2 fl_6_23 rfl rfl rfl (obC_6 z1) (fun M1 eM1 => ?_)
  have h := h M1 eM1
  refine eg_aload_n 0 dX6_begin_5 rfl rfl ?_
  obtain ⟨p2, hp2, ep2, h⟩ := h
  refine eg_getD dX6_begin_6 fl_6_23 rfl rfl (obC_6 z1) ?_ (Or.inr (eg_nne ep2))
  rw [ep2]
  obtain ⟨q4, hq4, h⟩ := h
  refine eg_callVV (av := []) (st := []) dX6_begin_9 ml_6_27 rfl rfl (obC_5 hp2) (by decide) rfl (Nat.le_of_ble_eq_true rfl) (eg_dd (by omega)) hq4 (fun M3 hp => ?_)
  have h := h M3 hp
  refine eg_aload_n 0 dX6_begin_12 rfl rfl ?_
  refine eg_iconst dX6_begin_13 ic_0 ?_
  refine en_putI dX6_begin_14 fl_6_32 rfl rfl (obC_6 z1) (fun M5 eM5 => ?_)
  have h := h M5 eM5
  refine eg_aload_n 0 dX6_begin_17 rfl rfl ?_
  refine eg_iconst dX6_begin_18 ic_m1 ?_
  refine en_putI dX6_begin_19 fl_6_9 rfl rfl (obC_6 z1) (fun M6 eM6 => ?_)
  have h := h M6 eM6
  refine eg_aload_n 0 dX6_begin_22 rfl rfl ?_
  refine eg_iconst dX6_begin_23 ic_0 ?_
  refine en_putI dX6_begin_24 fl_6_35 rfl rfl (obC_6 z1) (fun M7 eM7 => ?_)
  have h := h M7 eM7
  refine eg_aload_n 0 dX6_begin_27 rfl rfl ?_
  refine eg_iconst dX6_begin_28 ic_0 ?_
  refine en_putI dX6_begin_29 fl_6_38 rfl rfl (obC_6 z1) (fun M8 eM8 => ?_)
  have h := h M8 eM8
  refine eg_aload_n 0 dX6_begin_32 rfl rfl ?_
  refine eg_iconst dX6_begin_33 ic_0 ?_
  refine en_putZ dX6_begin_34 fl_6_41 rfl rfl (Or.inl rfl) (obC_6 z1) (fun M9 eM9 => ?_)
  have h := h M9 eM9
  refine eg_aload_n 0 dX6_begin_37 rfl rfl ?_
  refine eg_getR dX6_begin_38 fl_6_19 rfl rfl (obC_6 z1) ?_
  show eg_W κ gC mtX6_begin d (eQV κ gC post) 41 [(0, vR (6, 0)), (1, vR (5, l1)), (2, vI l2)] [vR (9, 0)] M9
  refine eg_iload_n 2 dX6_begin_41 rfl rfl ?_
  obtain ⟨q11, hq11, h⟩ := h
  refine eg_callVV (av := [vI l2]) (st := []) dX6_begin_42 ml_6_45 rfl rfl (obC_9 z1) (by decide) rfl (Nat.le_of_ble_eq_true rfl) (eg_dd (by omega)) hq11 (fun M10 hp => ?_)
  have h := h M10 hp
  exact eg_vreturn dX6_begin_45 rfl h
theorem dX6_endLine_0 : decode cX6_endLine 0 = .ok (.aload_n 0, 1) := by decide +kernel
theorem dX6_endLine_1 : decode cX6_endLine 1 = .ok (.getfield 19, 3) := by decide +kernel
theorem dX6_endLine_4 : decode cX6_endLine 4 = .ok (.getfield 51, 3) := by decide +kernel
theorem dX6_endLine_7 : decode cX6_endLine 7 = .ok (.bipush 36, 2) := by decide +kernel
theorem dX6_endLine_9 : decode cX6_endLine 9 = .ok (.if_icmp .eq 10, 3) := by decide +kernel
theorem dX6_endLine_12 : decode cX6_endLine 12 = .ok (.aload_n 0, 1) := by decide +kernel
theorem dX6_endLine_13 : decode cX6_endLine 13 = .ok (.iconst 1, 1) := by decide +kernel
theorem dX6_endLine_14 : decode cX6_endLine 14 = .ok (.invokevirtual 57, 3) := by decide +kernel
theorem dX6_endLine_17 : decode cX6_endLine 17 = .ok (.pop, 1) := by decide +kernel
theorem dX6_endLine_18 : decode cX6_endLine 18 = .ok (.return_, 1) := by decide +kernel
theorem dX6_endLine_19 : decode cX6_endLine 19 = .ok (.aload_n 0, 1) := by decide +kernel
theorem dX6_endLine_20 : decode cX6_endLine 20 = .ok (.getfield 19, 3) := by decide +kernel
theorem dX6_endLine_23 : decode cX6_endLine 23 = .ok (.invokevirtual 61, 3) := by decide +kernel
theorem dX6_endLine_26 : decode cX6_endLine 26 = .ok (.aload_n 0, 1) := by decide +kernel
theorem dX6_endLine_27 : decode cX6_endLine 27 = .ok (.dup, 1) := by decide +kernel
theorem dX6_endLine_28 : decode cX6_endLine 28 = .ok (.getfield 35, 3) := by decide +kernel
theorem dX6_endLine_31 : decode cX6_endLine 31 = .ok (.iconst 1, 1) := by decide +kernel
theorem dX6_endLine_32 : decode cX6_endLine 32 = .ok (.iadd, 1) := by decide +kernel
theorem dX6_endLine_33 : decode cX6_endLine 33 = .ok (.putfield 35, 3) := by decide +kernel
theorem dX6_endLine_36 : decode cX6_endLine 36 = .ok (.return_, 1) := by decide +kernel
set_option maxRecDepth 10000 in
theorem vX6_endLine_0 {κ : eg_K} {d : Nat} (hd : 1 ≤ d) {post : eg_H → Prop} (M : eg_H)  (h : ((M.1 (9, 0) 4) = (36 : Int32) → eCV κ gC mtX9_advance d [vR (9, 0)] M (fun M2 => (∀ M4 : eg_H, M4 = (sI M2 (6, 0) 4 ((M2.1 (6, 0) 4) + (1 : Int32))) → post M4))) ∧ ((¬ (M.1 (9, 0) 4) = (36 : Int32)) → (∀ (x6 : Int32) (M5 : eg_H), (x6, M5) = fX6_refuse M (1 : Int32) → post M5))) : eg_W κ gC mtX6_endLine d (eQV κ gC post) 0 [(0, vR (6, 0))] [] M := by
  refine eg_aload_n 0 dX6_endLine_0 rfl rfl ?_
  refine eg_getR dX6_endLine_1 fl_6_19 rfl rfl (obC_6 z1) ?_
  show eg_W κ gC mtX6_endLine d (eQV κ gC post) 4 [(0, vR (6, 0))] [vR (9, 0)] M
  refine eg_getI dX6_endLine_4 fl_6_51 rfl trivial (obC_9 z1) ?_
  refine eg_bipush dX6_endLine_7 bp_36 ?_
  refine eg_icmp_eq (tgt := 19) dX6_endLine_9 rfl (fun c1 => ?_) (fun c1 => ?_)
  · have h := h.1 c1
    refine eg_aload_n 0 dX6_endLine_19 rfl rfl ?_
    refine eg_getR dX6_endLine_20 fl_6_19 rfl rfl (obC_6 z1) ?_
    show eg_W κ gC mtX6_endLine d (eQV κ gC post) 23 [(0, vR (6, 0))] [vR (9, 0)] M
    obtain ⟨q3, hq3, h⟩ := h
    refine eg_callVV (av := []) (st := []) dX6_endLine_23 ml_6_61 rfl rfl (obC_9 z1) (by decide) rfl (Nat.le_of_ble_eq_true rfl) (eg_dd (by omega)) hq3 (fun M2 hp => ?_)
    have h := h M2 hp
    refine eg_aload_n 0 dX6_endLine_26 rfl rfl ?_
    refine eg_dup dX6_endLine_27 rfl ?_
    refine eg_getI dX6_endLine_28 fl_6_35 rfl trivial (obC_6 z1) ?_
    refine eg_iconst dX6_endLine_31 ic_1 ?_
    refine eg_iadd dX6_endLine_32 ?_
    refine en_putI dX6_endLine_33 fl_6_35 rfl rfl (obC_6 z1) (fun M4 eM4 => ?_)
    have h := h M4 eM4
    exact eg_vreturn dX6_endLine_36 rfl h
  · have h := h.2 c1
    refine eg_aload_n 0 dX6_endLine_12 rfl rfl ?_
    refine eg_iconst dX6_endLine_13 ic_1 ?_
    refine eg_callVI (av := [vI (1 : Int32)]) (st := []) dX6_endLine_14 ml_6_57 rfl rfl (obC_6 z1) (by decide) rfl (Nat.le_of_ble_eq_true rfl) (eg_dd (by omega)) (sX6_refuse (by omega) M (1 : Int32)  ) (fun x6 M5 eM5 => ?_)
    have h := h x6 M5 eM5
    refine eg_pop dX6_endLine_17 rfl ?_
    exact eg_vreturn dX6_endLine_18 rfl h
theorem dX6_readLine_0 : decode cX6_readLine 0 = .ok (.aload_n 0, 1) := by decide +kernel
theorem dX6_readLine_1 : decode cX6_readLine 1 = .ok (.getfield 19, 3) := by decide +kernel
theorem dX6_readLine_4 : decode cX6_readLine 4 = .ok (.getfield 51, 3) := by decide +kernel
theorem dX6_readLine_7 : decode cX6_readLine 7 = .ok (.tableswitch 88 0 9 #[53, 88, 88, 58, 88, 63, 68, 73, 78, 83], 53) := by decide +kernel
theorem dX6_readLine_60 : decode cX6_readLine 60 = .ok (.aload_n 0, 1) := by decide +kernel
theorem dX6_readLine_61 : decode cX6_readLine 61 = .ok (.invokevirtual 64, 3) := by decide +kernel
theorem dX6_readLine_64 : decode cX6_readLine 64 = .ok (.ireturn, 1) := by decide +kernel
theorem dX6_readLine_65 : decode cX6_readLine 65 = .ok (.aload_n 0, 1) := by decide +kernel
theorem dX6_readLine_66 : decode cX6_readLine 66 = .ok (.invokevirtual 68, 3) := by decide +kernel
theorem dX6_readLine_69 : decode cX6_readLine 69 = .ok (.ireturn, 1) := by decide +kernel
theorem dX6_readLine_70 : decode cX6_readLine 70 = .ok (.aload_n 0, 1) := by decide +kernel
theorem dX6_readLine_71 : decode cX6_readLine 71 = .ok (.invokevirtual 71, 3) := by decide +kernel
theorem dX6_readLine_74 : decode cX6_readLine 74 = .ok (.ireturn, 1) := by decide +kernel
theorem dX6_readLine_75 : decode cX6_readLine 75 = .ok (.aload_n 0, 1) := by decide +kernel
theorem dX6_readLine_76 : decode cX6_readLine 76 = .ok (.invokevirtual 74, 3) := by decide +kernel
theorem dX6_readLine_79 : decode cX6_readLine 79 = .ok (.ireturn, 1) := by decide +kernel
theorem dX6_readLine_80 : decode cX6_readLine 80 = .ok (.aload_n 0, 1) := by decide +kernel
theorem dX6_readLine_81 : decode cX6_readLine 81 = .ok (.invokevirtual 77, 3) := by decide +kernel
theorem dX6_readLine_84 : decode cX6_readLine 84 = .ok (.ireturn, 1) := by decide +kernel
theorem dX6_readLine_85 : decode cX6_readLine 85 = .ok (.aload_n 0, 1) := by decide +kernel
theorem dX6_readLine_86 : decode cX6_readLine 86 = .ok (.invokevirtual 80, 3) := by decide +kernel
theorem dX6_readLine_89 : decode cX6_readLine 89 = .ok (.ireturn, 1) := by decide +kernel
theorem dX6_readLine_90 : decode cX6_readLine 90 = .ok (.aload_n 0, 1) := by decide +kernel
theorem dX6_readLine_91 : decode cX6_readLine 91 = .ok (.invokevirtual 83, 3) := by decide +kernel
theorem dX6_readLine_94 : decode cX6_readLine 94 = .ok (.ireturn, 1) := by decide +kernel
theorem dX6_readLine_95 : decode cX6_readLine 95 = .ok (.aload_n 0, 1) := by decide +kernel
theorem dX6_readLine_96 : decode cX6_readLine 96 = .ok (.iconst 1, 1) := by decide +kernel
theorem dX6_readLine_97 : decode cX6_readLine 97 = .ok (.invokevirtual 57, 3) := by decide +kernel
theorem dX6_readLine_100 : decode cX6_readLine 100 = .ok (.ireturn, 1) := by decide +kernel
set_option maxRecDepth 10000 in
theorem vX6_readLine_0 {κ : eg_K} {d : Nat} (hd : 1 ≤ d) {post : Int32 → eg_H → Prop} (M : eg_H)  (h : ((¬ (M.1 (9, 0) 4) = (0 : Int32)) → (¬ (M.1 (9, 0) 4) = (3 : Int32)) → (¬ (M.1 (9, 0) 4) = (5 : Int32)) → (¬ (M.1 (9, 0) 4) = (6 : Int32)) → (¬ (M.1 (9, 0) 4) = (7 : Int32)) → (¬ (M.1 (9, 0) 4) = (8 : Int32)) → (¬ (M.1 (9, 0) 4) = (9 : Int32)) → eg_W κ gC mtX6_readLine d (eQI κ gC post) 95 [(0, vR (6, 0))] [] M) ∧ ((M.1 (9, 0) 4) = (0 : Int32) → eCI κ gC mtX6_readStation d [vR (6, 0)] M (fun x1 M2 => ((x1 = 0 ∨ x1 = 1) ∧ post x1 M2))) ∧ ((M.1 (9, 0) 4) = (3 : Int32) → eCI κ gC mtX6_readGuest d [vR (6, 0)] M (fun x5 M6 => ((x5 = 0 ∨ x5 = 1) ∧ post x5 M6))) ∧ ((M.1 (9, 0) 4) = (5 : Int32) → eCI κ gC mtX6_readPass d [vR (6, 0)] M (fun x9 M10 => ((x9 = 0 ∨ x9 = 1) ∧ post x9 M10))) ∧ ((M.1 (9, 0) 4) = (6 : Int32) → eCI κ gC mtX6_readAgain d [vR (6, 0)] M (fun x13 M14 => ((x13 = 0 ∨ x13 = 1) ∧ post x13 M14))) ∧ ((M.1 (9, 0) 4) = (7 : Int32) → eCI κ gC mtX6_readClose d [vR (6, 0)] M (fun x17 M18 => ((x17 = 0 ∨ x17 = 1) ∧ post x17 M18))) ∧ ((M.1 (9, 0) 4) = (8 : Int32) → eCI κ gC mtX6_readLaw d [vR (6, 0)] M (fun x21 M22 => ((x21 = 0 ∨ x21 = 1) ∧ post x21 M22))) ∧ ((M.1 (9, 0) 4) = (9 : Int32) → eCI κ gC mtX6_readMay d [vR (6, 0)] M (fun x25 M26 => ((x25 = 0 ∨ x25 = 1) ∧ post x25 M26)))) : eg_W κ gC mtX6_readLine d (eQI κ gC post) 0 [(0, vR (6, 0))] [] M := by
  refine eg_aload_n 0 dX6_readLine_0 rfl rfl ?_
  refine eg_getR dX6_readLine_1 fl_6_19 rfl rfl (obC_6 z1) ?_
  show eg_W κ gC mtX6_readLine d (eQI κ gC post) 4 [(0, vR (6, 0))] [vR (9, 0)] M
  refine eg_getI dX6_readLine_4 fl_6_51 rfl trivial (obC_9 z1) ?_
  have J : (¬ (M.1 (9, 0) 4) = (0 : Int32)) → (¬ (M.1 (9, 0) 4) = (3 : Int32)) → (¬ (M.1 (9, 0) 4) = (5 : Int32)) → (¬ (M.1 (9, 0) 4) = (6 : Int32)) → (¬ (M.1 (9, 0) 4) = (7 : Int32)) → (¬ (M.1 (9, 0) 4) = (8 : Int32)) → (¬ (M.1 (9, 0) 4) = (9 : Int32)) → eg_W κ gC mtX6_readLine d (eQI κ gC post) 95 [(0, vR (6, 0))] [] M := by
    intro c0_ c3_ c5_ c6_ c7_ c8_ c9_
    have h := h.1 c0_ c3_ c5_ c6_ c7_ c8_ c9_
    exact h
  by_cases c0_ : (M.1 (9, 0) 4) = (0 : Int32)
  · refine eg_tabI (tgt := 60) dX6_readLine_7 (by rw [c0_]; decide) (by rw [c0_]; decide) (off := 53) (by rw [c0_]; rfl) rfl ?_
    have h := h.2.1 c0_
    refine eg_aload_n 0 dX6_readLine_60 rfl rfl ?_
    obtain ⟨q3, hq3, h⟩ := h
    refine eg_callVI (av := []) (st := []) dX6_readLine_61 ml_6_64 rfl rfl (obC_6 z1) (by decide) rfl (Nat.le_of_ble_eq_true rfl) (eg_dd (by omega)) hq3 (fun x1 M2 hp => ?_)
    have h := h x1 M2 hp
    obtain ⟨g4, h⟩ := h
    exact eg_zreturn dX6_readLine_64 rfl g4 h
  by_cases c1_ : (M.1 (9, 0) 4) = (1 : Int32)
  · refine eg_tabI (tgt := 95) dX6_readLine_7 (by rw [c1_]; decide) (by rw [c1_]; decide) (off := 88) (by rw [c1_]; rfl) rfl ?_
    exact J (by rw [c1_]; decide) (by rw [c1_]; decide) (by rw [c1_]; decide) (by rw [c1_]; decide) (by rw [c1_]; decide) (by rw [c1_]; decide) (by rw [c1_]; decide)
  by_cases c2_ : (M.1 (9, 0) 4) = (2 : Int32)
  · refine eg_tabI (tgt := 95) dX6_readLine_7 (by rw [c2_]; decide) (by rw [c2_]; decide) (off := 88) (by rw [c2_]; rfl) rfl ?_
    exact J (by rw [c2_]; decide) (by rw [c2_]; decide) (by rw [c2_]; decide) (by rw [c2_]; decide) (by rw [c2_]; decide) (by rw [c2_]; decide) (by rw [c2_]; decide)
  by_cases c3_ : (M.1 (9, 0) 4) = (3 : Int32)
  · refine eg_tabI (tgt := 65) dX6_readLine_7 (by rw [c3_]; decide) (by rw [c3_]; decide) (off := 58) (by rw [c3_]; rfl) rfl ?_
    have h := h.2.2.1 c3_
    refine eg_aload_n 0 dX6_readLine_65 rfl rfl ?_
    obtain ⟨q7, hq7, h⟩ := h
    refine eg_callVI (av := []) (st := []) dX6_readLine_66 ml_6_68 rfl rfl (obC_6 z1) (by decide) rfl (Nat.le_of_ble_eq_true rfl) (eg_dd (by omega)) hq7 (fun x5 M6 hp => ?_)
    have h := h x5 M6 hp
    obtain ⟨g8, h⟩ := h
    exact eg_zreturn dX6_readLine_69 rfl g8 h
  by_cases c4_ : (M.1 (9, 0) 4) = (4 : Int32)
  · refine eg_tabI (tgt := 95) dX6_readLine_7 (by rw [c4_]; decide) (by rw [c4_]; decide) (off := 88) (by rw [c4_]; rfl) rfl ?_
    exact J (by rw [c4_]; decide) (by rw [c4_]; decide) (by rw [c4_]; decide) (by rw [c4_]; decide) (by rw [c4_]; decide) (by rw [c4_]; decide) (by rw [c4_]; decide)
  by_cases c5_ : (M.1 (9, 0) 4) = (5 : Int32)
  · refine eg_tabI (tgt := 70) dX6_readLine_7 (by rw [c5_]; decide) (by rw [c5_]; decide) (off := 63) (by rw [c5_]; rfl) rfl ?_
    have h := h.2.2.2.1 c5_
    refine eg_aload_n 0 dX6_readLine_70 rfl rfl ?_
    obtain ⟨q11, hq11, h⟩ := h
    refine eg_callVI (av := []) (st := []) dX6_readLine_71 ml_6_71 rfl rfl (obC_6 z1) (by decide) rfl (Nat.le_of_ble_eq_true rfl) (eg_dd (by omega)) hq11 (fun x9 M10 hp => ?_)
    have h := h x9 M10 hp
    obtain ⟨g12, h⟩ := h
    exact eg_zreturn dX6_readLine_74 rfl g12 h
  by_cases c6_ : (M.1 (9, 0) 4) = (6 : Int32)
  · refine eg_tabI (tgt := 75) dX6_readLine_7 (by rw [c6_]; decide) (by rw [c6_]; decide) (off := 68) (by rw [c6_]; rfl) rfl ?_
    have h := h.2.2.2.2.1 c6_
    refine eg_aload_n 0 dX6_readLine_75 rfl rfl ?_
    obtain ⟨q15, hq15, h⟩ := h
    refine eg_callVI (av := []) (st := []) dX6_readLine_76 ml_6_74 rfl rfl (obC_6 z1) (by decide) rfl (Nat.le_of_ble_eq_true rfl) (eg_dd (by omega)) hq15 (fun x13 M14 hp => ?_)
    have h := h x13 M14 hp
    obtain ⟨g16, h⟩ := h
    exact eg_zreturn dX6_readLine_79 rfl g16 h
  by_cases c7_ : (M.1 (9, 0) 4) = (7 : Int32)
  · refine eg_tabI (tgt := 80) dX6_readLine_7 (by rw [c7_]; decide) (by rw [c7_]; decide) (off := 73) (by rw [c7_]; rfl) rfl ?_
    have h := h.2.2.2.2.2.1 c7_
    refine eg_aload_n 0 dX6_readLine_80 rfl rfl ?_
    obtain ⟨q19, hq19, h⟩ := h
    refine eg_callVI (av := []) (st := []) dX6_readLine_81 ml_6_77 rfl rfl (obC_6 z1) (by decide) rfl (Nat.le_of_ble_eq_true rfl) (eg_dd (by omega)) hq19 (fun x17 M18 hp => ?_)
    have h := h x17 M18 hp
    obtain ⟨g20, h⟩ := h
    exact eg_zreturn dX6_readLine_84 rfl g20 h
  by_cases c8_ : (M.1 (9, 0) 4) = (8 : Int32)
  · refine eg_tabI (tgt := 85) dX6_readLine_7 (by rw [c8_]; decide) (by rw [c8_]; decide) (off := 78) (by rw [c8_]; rfl) rfl ?_
    have h := h.2.2.2.2.2.2.1 c8_
    refine eg_aload_n 0 dX6_readLine_85 rfl rfl ?_
    obtain ⟨q23, hq23, h⟩ := h
    refine eg_callVI (av := []) (st := []) dX6_readLine_86 ml_6_80 rfl rfl (obC_6 z1) (by decide) rfl (Nat.le_of_ble_eq_true rfl) (eg_dd (by omega)) hq23 (fun x21 M22 hp => ?_)
    have h := h x21 M22 hp
    obtain ⟨g24, h⟩ := h
    exact eg_zreturn dX6_readLine_89 rfl g24 h
  by_cases c9_ : (M.1 (9, 0) 4) = (9 : Int32)
  · refine eg_tabI (tgt := 90) dX6_readLine_7 (by rw [c9_]; decide) (by rw [c9_]; decide) (off := 83) (by rw [c9_]; rfl) rfl ?_
    have h := h.2.2.2.2.2.2.2 c9_
    refine eg_aload_n 0 dX6_readLine_90 rfl rfl ?_
    obtain ⟨q27, hq27, h⟩ := h
    refine eg_callVI (av := []) (st := []) dX6_readLine_91 ml_6_83 rfl rfl (obC_6 z1) (by decide) rfl (Nat.le_of_ble_eq_true rfl) (eg_dd (by omega)) hq27 (fun x25 M26 hp => ?_)
    have h := h x25 M26 hp
    obtain ⟨g28, h⟩ := h
    exact eg_zreturn dX6_readLine_94 rfl g28 h
  refine eg_tabO (tgt := 95) dX6_readLine_7 ?_ rfl (J c0_ c3_ c5_ c6_ c7_ c8_ c9_)
  have t0_ := eg_ti 0 (by decide) c0_
  have t1_ := eg_ti 1 (by decide) c1_
  have t2_ := eg_ti 2 (by decide) c2_
  have t3_ := eg_ti 3 (by decide) c3_
  have t4_ := eg_ti 4 (by decide) c4_
  have t5_ := eg_ti 5 (by decide) c5_
  have t6_ := eg_ti 6 (by decide) c6_
  have t7_ := eg_ti 7 (by decide) c7_
  have t8_ := eg_ti 8 (by decide) c8_
  have t9_ := eg_ti 9 (by decide) c9_
  omega
set_option maxRecDepth 10000 in
theorem vX6_readLine_95 {κ : eg_K} {d : Nat} (hd : 1 ≤ d) {post : Int32 → eg_H → Prop} (M : eg_H)  (h : (∀ (x2 : Int32) (M1 : eg_H), (x2, M1) = fX6_refuse M (1 : Int32) → post x2 M1)) : eg_W κ gC mtX6_readLine d (eQI κ gC post) 95 [(0, vR (6, 0))] [] M := by
  refine eg_aload_n 0 dX6_readLine_95 rfl rfl ?_
  refine eg_iconst dX6_readLine_96 ic_1 ?_
  refine eg_callVI (av := [vI (1 : Int32)]) (st := []) dX6_readLine_97 ml_6_57 rfl rfl (obC_6 z1) (by decide) rfl (Nat.le_of_ble_eq_true rfl) (eg_dd (by omega)) (sX6_refuse (by omega) M (1 : Int32)  ) (fun x2 M1 eM1 => ?_)
  have h := h x2 M1 eM1
  exact eg_zreturn dX6_readLine_100 rfl (show x2 = 0 ∨ x2 = 1 from by rw [show x2 = _ from congrArg Prod.fst eM1]; exact zX6_refuse M (1 : Int32)) h
theorem dX6_readNumber_0 : decode cX6_readNumber 0 = .ok (.aload_n 0, 1) := by decide +kernel
theorem dX6_readNumber_1 : decode cX6_readNumber 1 = .ok (.getfield 19, 3) := by decide +kernel
theorem dX6_readNumber_4 : decode cX6_readNumber 4 = .ok (.getfield 51, 3) := by decide +kernel
theorem dX6_readNumber_7 : decode cX6_readNumber 7 = .ok (.bipush 37, 2) := by decide +kernel
theorem dX6_readNumber_9 : decode cX6_readNumber 9 = .ok (.if_icmp .eq 9, 3) := by decide +kernel
theorem dX6_readNumber_12 : decode cX6_readNumber 12 = .ok (.aload_n 0, 1) := by decide +kernel
theorem dX6_readNumber_13 : decode cX6_readNumber 13 = .ok (.iconst 1, 1) := by decide +kernel
theorem dX6_readNumber_14 : decode cX6_readNumber 14 = .ok (.invokevirtual 57, 3) := by decide +kernel
theorem dX6_readNumber_17 : decode cX6_readNumber 17 = .ok (.ireturn, 1) := by decide +kernel
theorem dX6_readNumber_18 : decode cX6_readNumber 18 = .ok (.aload_n 0, 1) := by decide +kernel
theorem dX6_readNumber_19 : decode cX6_readNumber 19 = .ok (.getfield 19, 3) := by decide +kernel
theorem dX6_readNumber_22 : decode cX6_readNumber 22 = .ok (.getfield 86, 3) := by decide +kernel
theorem dX6_readNumber_25 : decode cX6_readNumber 25 = .ok (.iload_n 1, 1) := by decide +kernel
theorem dX6_readNumber_26 : decode cX6_readNumber 26 = .ok (.if_icmp .lt 14, 3) := by decide +kernel
theorem dX6_readNumber_29 : decode cX6_readNumber 29 = .ok (.aload_n 0, 1) := by decide +kernel
theorem dX6_readNumber_30 : decode cX6_readNumber 30 = .ok (.getfield 19, 3) := by decide +kernel
theorem dX6_readNumber_33 : decode cX6_readNumber 33 = .ok (.getfield 86, 3) := by decide +kernel
theorem dX6_readNumber_36 : decode cX6_readNumber 36 = .ok (.iload_n 2, 1) := by decide +kernel
theorem dX6_readNumber_37 : decode cX6_readNumber 37 = .ok (.if_icmp .le 9, 3) := by decide +kernel
theorem dX6_readNumber_40 : decode cX6_readNumber 40 = .ok (.aload_n 0, 1) := by decide +kernel
theorem dX6_readNumber_41 : decode cX6_readNumber 41 = .ok (.iconst 2, 1) := by decide +kernel
theorem dX6_readNumber_42 : decode cX6_readNumber 42 = .ok (.invokevirtual 57, 3) := by decide +kernel
theorem dX6_readNumber_45 : decode cX6_readNumber 45 = .ok (.ireturn, 1) := by decide +kernel
theorem dX6_readNumber_46 : decode cX6_readNumber 46 = .ok (.aload_n 0, 1) := by decide +kernel
theorem dX6_readNumber_47 : decode cX6_readNumber 47 = .ok (.aload_n 0, 1) := by decide +kernel
theorem dX6_readNumber_48 : decode cX6_readNumber 48 = .ok (.getfield 19, 3) := by decide +kernel
theorem dX6_readNumber_51 : decode cX6_readNumber 51 = .ok (.getfield 86, 3) := by decide +kernel
theorem dX6_readNumber_54 : decode cX6_readNumber 54 = .ok (.putfield 89, 3) := by decide +kernel
theorem dX6_readNumber_57 : decode cX6_readNumber 57 = .ok (.aload_n 0, 1) := by decide +kernel
theorem dX6_readNumber_58 : decode cX6_readNumber 58 = .ok (.getfield 19, 3) := by decide +kernel
theorem dX6_readNumber_61 : decode cX6_readNumber 61 = .ok (.invokevirtual 61, 3) := by decide +kernel
theorem dX6_readNumber_64 : decode cX6_readNumber 64 = .ok (.iconst 1, 1) := by decide +kernel
theorem dX6_readNumber_65 : decode cX6_readNumber 65 = .ok (.ireturn, 1) := by decide +kernel
set_option maxRecDepth 10000 in
theorem vX6_readNumber_0 {κ : eg_K} {d : Nat} (hd : 1 ≤ d) {post : Int32 → eg_H → Prop} (M : eg_H) (l1 : Int32) (l2 : Int32) (h : ((M.1 (9, 0) 4) = (37 : Int32) → ((M.1 (9, 0) 5) < l1 → (∀ (x4 : Int32) (M3 : eg_H), (x4, M3) = fX6_refuse M (2 : Int32) → post x4 M3)) ∧ ((¬ (M.1 (9, 0) 5) < l1) → ((M.1 (9, 0) 5) ≤ l2 → (∀ M6 : eg_H, M6 = (sI M (6, 0) 6 (M.1 (9, 0) 5)) → eCV κ gC mtX9_advance d [vR (9, 0)] M6 (fun M7 => post (1 : Int32) M7))) ∧ ((¬ (M.1 (9, 0) 5) ≤ l2) → (∀ (x10 : Int32) (M9 : eg_H), (x10, M9) = fX6_refuse M (2 : Int32) → post x10 M9)))) ∧ ((¬ (M.1 (9, 0) 4) = (37 : Int32)) → (∀ (x12 : Int32) (M11 : eg_H), (x12, M11) = fX6_refuse M (1 : Int32) → post x12 M11))) : eg_W κ gC mtX6_readNumber d (eQI κ gC post) 0 [(0, vR (6, 0)), (1, vI l1), (2, vI l2)] [] M := by
  refine eg_aload_n 0 dX6_readNumber_0 rfl rfl ?_
  refine eg_getR dX6_readNumber_1 fl_6_19 rfl rfl (obC_6 z1) ?_
  show eg_W κ gC mtX6_readNumber d (eQI κ gC post) 4 [(0, vR (6, 0)), (1, vI l1), (2, vI l2)] [vR (9, 0)] M
  refine eg_getI dX6_readNumber_4 fl_6_51 rfl trivial (obC_9 z1) ?_
  refine eg_bipush dX6_readNumber_7 bp_37 ?_
  refine eg_icmp_eq (tgt := 18) dX6_readNumber_9 rfl (fun c1 => ?_) (fun c1 => ?_)
  · have h := h.1 c1
    refine eg_aload_n 0 dX6_readNumber_18 rfl rfl ?_
    refine eg_getR dX6_readNumber_19 fl_6_19 rfl rfl (obC_6 z1) ?_
    show eg_W κ gC mtX6_readNumber d (eQI κ gC post) 22 [(0, vR (6, 0)), (1, vI l1), (2, vI l2)] [vR (9, 0)] M
    refine eg_getI dX6_readNumber_22 fl_6_86 rfl trivial (obC_9 z1) ?_
    refine eg_iload_n 1 dX6_readNumber_25 rfl rfl ?_
    refine eg_icmp_lt (tgt := 40) dX6_readNumber_26 rfl (fun c2 => ?_) (fun c2 => ?_)
    · have h := h.1 c2
      refine eg_aload_n 0 dX6_readNumber_40 rfl rfl ?_
      refine eg_iconst dX6_readNumber_41 ic_2 ?_
      refine eg_callVI (av := [vI (2 : Int32)]) (st := []) dX6_readNumber_42 ml_6_57 rfl rfl (obC_6 z1) (by decide) rfl (Nat.le_of_ble_eq_true rfl) (eg_dd (by omega)) (sX6_refuse (by omega) M (2 : Int32)  ) (fun x4 M3 eM3 => ?_)
      have h := h x4 M3 eM3
      exact eg_zreturn dX6_readNumber_45 rfl (show x4 = 0 ∨ x4 = 1 from by rw [show x4 = _ from congrArg Prod.fst eM3]; exact zX6_refuse M (2 : Int32)) h
    · have h := h.2 c2
      refine eg_aload_n 0 dX6_readNumber_29 rfl rfl ?_
      refine eg_getR dX6_readNumber_30 fl_6_19 rfl rfl (obC_6 z1) ?_
      show eg_W κ gC mtX6_readNumber d (eQI κ gC post) 33 [(0, vR (6, 0)), (1, vI l1), (2, vI l2)] [vR (9, 0)] M
      refine eg_getI dX6_readNumber_33 fl_6_86 rfl trivial (obC_9 z1) ?_
      refine eg_iload_n 2 dX6_readNumber_36 rfl rfl ?_
      refine eg_icmp_le (tgt := 46) dX6_readNumber_37 rfl (fun c5 => ?_) (fun c5 => ?_)
      · have h := h.1 c5
        refine eg_aload_n 0 dX6_readNumber_46 rfl rfl ?_
        refine eg_aload_n 0 dX6_readNumber_47 rfl rfl ?_
        refine eg_getR dX6_readNumber_48 fl_6_19 rfl rfl (obC_6 z1) ?_
        show eg_W κ gC mtX6_readNumber d (eQI κ gC post) 51 [(0, vR (6, 0)), (1, vI l1), (2, vI l2)] [vR (9, 0), vR (6, 0)] M
        refine eg_getI dX6_readNumber_51 fl_6_86 rfl trivial (obC_9 z1) ?_
        refine en_putI dX6_readNumber_54 fl_6_89 rfl rfl (obC_6 z1) (fun M6 eM6 => ?_)
        have h := h M6 eM6
        refine eg_aload_n 0 dX6_readNumber_57 rfl rfl ?_
        refine eg_getR dX6_readNumber_58 fl_6_19 rfl rfl (obC_6 z1) ?_
        show eg_W κ gC mtX6_readNumber d (eQI κ gC post) 61 [(0, vR (6, 0)), (1, vI l1), (2, vI l2)] [vR (9, 0)] M6
        obtain ⟨q8, hq8, h⟩ := h
        refine eg_callVV (av := []) (st := []) dX6_readNumber_61 ml_6_61 rfl rfl (obC_9 z1) (by decide) rfl (Nat.le_of_ble_eq_true rfl) (eg_dd (by omega)) hq8 (fun M7 hp => ?_)
        have h := h M7 hp
        refine eg_iconst dX6_readNumber_64 ic_1 ?_
        exact eg_zreturn dX6_readNumber_65 rfl (Or.inr rfl) h
      · have h := h.2 c5
        refine eg_aload_n 0 dX6_readNumber_40 rfl rfl ?_
        refine eg_iconst dX6_readNumber_41 ic_2 ?_
        refine eg_callVI (av := [vI (2 : Int32)]) (st := []) dX6_readNumber_42 ml_6_57 rfl rfl (obC_6 z1) (by decide) rfl (Nat.le_of_ble_eq_true rfl) (eg_dd (by omega)) (sX6_refuse (by omega) M (2 : Int32)  ) (fun x10 M9 eM9 => ?_)
        have h := h x10 M9 eM9
        exact eg_zreturn dX6_readNumber_45 rfl (show x10 = 0 ∨ x10 = 1 from by rw [show x10 = _ from congrArg Prod.fst eM9]; exact zX6_refuse M (2 : Int32)) h
  · have h := h.2 c1
    refine eg_aload_n 0 dX6_readNumber_12 rfl rfl ?_
    refine eg_iconst dX6_readNumber_13 ic_1 ?_
    refine eg_callVI (av := [vI (1 : Int32)]) (st := []) dX6_readNumber_14 ml_6_57 rfl rfl (obC_6 z1) (by decide) rfl (Nat.le_of_ble_eq_true rfl) (eg_dd (by omega)) (sX6_refuse (by omega) M (1 : Int32)  ) (fun x12 M11 eM11 => ?_)
    have h := h x12 M11 eM11
    exact eg_zreturn dX6_readNumber_17 rfl (show x12 = 0 ∨ x12 = 1 from by rw [show x12 = _ from congrArg Prod.fst eM11]; exact zX6_refuse M (1 : Int32)) h
theorem dX6_readNewName_0 : decode cX6_readNewName 0 = .ok (.aload_n 0, 1) := by decide +kernel
theorem dX6_readNewName_1 : decode cX6_readNewName 1 = .ok (.getfield 19, 3) := by decide +kernel
theorem dX6_readNewName_4 : decode cX6_readNewName 4 = .ok (.getfield 51, 3) := by decide +kernel
theorem dX6_readNewName_7 : decode cX6_readNewName 7 = .ok (.bipush 38, 2) := by decide +kernel
theorem dX6_readNewName_9 : decode cX6_readNewName 9 = .ok (.if_icmp .eq 9, 3) := by decide +kernel
theorem dX6_readNewName_12 : decode cX6_readNewName 12 = .ok (.aload_n 0, 1) := by decide +kernel
theorem dX6_readNewName_13 : decode cX6_readNewName 13 = .ok (.iconst 1, 1) := by decide +kernel
theorem dX6_readNewName_14 : decode cX6_readNewName 14 = .ok (.invokevirtual 57, 3) := by decide +kernel
theorem dX6_readNewName_17 : decode cX6_readNewName 17 = .ok (.ireturn, 1) := by decide +kernel
theorem dX6_readNewName_18 : decode cX6_readNewName 18 = .ok (.aload_n 0, 1) := by decide +kernel
theorem dX6_readNewName_19 : decode cX6_readNewName 19 = .ok (.aload_n 0, 1) := by decide +kernel
theorem dX6_readNewName_20 : decode cX6_readNewName 20 = .ok (.getfield 19, 3) := by decide +kernel
theorem dX6_readNewName_23 : decode cX6_readNewName 23 = .ok (.getfield 92, 3) := by decide +kernel
theorem dX6_readNewName_26 : decode cX6_readNewName 26 = .ok (.putfield 95, 3) := by decide +kernel
theorem dX6_readNewName_29 : decode cX6_readNewName 29 = .ok (.iload_n 1, 1) := by decide +kernel
theorem dX6_readNewName_30 : decode cX6_readNewName 30 = .ok (.ifCond .ne 17, 3) := by decide +kernel
theorem dX6_readNewName_33 : decode cX6_readNewName 33 = .ok (.aload_n 0, 1) := by decide +kernel
theorem dX6_readNewName_34 : decode cX6_readNewName 34 = .ok (.getfield 23, 3) := by decide +kernel
theorem dX6_readNewName_37 : decode cX6_readNewName 37 = .ok (.aload_n 0, 1) := by decide +kernel
theorem dX6_readNewName_38 : decode cX6_readNewName 38 = .ok (.getfield 95, 3) := by decide +kernel
theorem dX6_readNewName_41 : decode cX6_readNewName 41 = .ok (.invokevirtual 96, 3) := by decide +kernel
theorem dX6_readNewName_44 : decode cX6_readNewName 44 = .ok (.goto 33, 3) := by decide +kernel
theorem dX6_readNewName_47 : decode cX6_readNewName 47 = .ok (.iload_n 1, 1) := by decide +kernel
theorem dX6_readNewName_48 : decode cX6_readNewName 48 = .ok (.iconst 3, 1) := by decide +kernel
theorem dX6_readNewName_49 : decode cX6_readNewName 49 = .ok (.if_icmp .ne 17, 3) := by decide +kernel
theorem dX6_readNewName_52 : decode cX6_readNewName 52 = .ok (.aload_n 0, 1) := by decide +kernel
theorem dX6_readNewName_53 : decode cX6_readNewName 53 = .ok (.getfield 23, 3) := by decide +kernel
theorem dX6_readNewName_56 : decode cX6_readNewName 56 = .ok (.aload_n 0, 1) := by decide +kernel
theorem dX6_readNewName_57 : decode cX6_readNewName 57 = .ok (.getfield 95, 3) := by decide +kernel
theorem dX6_readNewName_60 : decode cX6_readNewName 60 = .ok (.invokevirtual 100, 3) := by decide +kernel
theorem dX6_readNewName_63 : decode cX6_readNewName 63 = .ok (.goto 14, 3) := by decide +kernel
theorem dX6_readNewName_66 : decode cX6_readNewName 66 = .ok (.aload_n 0, 1) := by decide +kernel
theorem dX6_readNewName_67 : decode cX6_readNewName 67 = .ok (.getfield 23, 3) := by decide +kernel
theorem dX6_readNewName_70 : decode cX6_readNewName 70 = .ok (.aload_n 0, 1) := by decide +kernel
theorem dX6_readNewName_71 : decode cX6_readNewName 71 = .ok (.getfield 95, 3) := by decide +kernel
theorem dX6_readNewName_74 : decode cX6_readNewName 74 = .ok (.invokevirtual 103, 3) := by decide +kernel
theorem dX6_readNewName_77 : decode cX6_readNewName 77 = .ok (.istore_n 2, 1) := by decide +kernel
theorem dX6_readNewName_78 : decode cX6_readNewName 78 = .ok (.iload_n 2, 1) := by decide +kernel
theorem dX6_readNewName_79 : decode cX6_readNewName 79 = .ok (.iconst (-1), 1) := by decide +kernel
theorem dX6_readNewName_80 : decode cX6_readNewName 80 = .ok (.if_icmp .eq 9, 3) := by decide +kernel
theorem dX6_readNewName_83 : decode cX6_readNewName 83 = .ok (.aload_n 0, 1) := by decide +kernel
theorem dX6_readNewName_84 : decode cX6_readNewName 84 = .ok (.iconst 3, 1) := by decide +kernel
theorem dX6_readNewName_85 : decode cX6_readNewName 85 = .ok (.invokevirtual 57, 3) := by decide +kernel
theorem dX6_readNewName_88 : decode cX6_readNewName 88 = .ok (.ireturn, 1) := by decide +kernel
theorem dX6_readNewName_89 : decode cX6_readNewName 89 = .ok (.aload_n 0, 1) := by decide +kernel
theorem dX6_readNewName_90 : decode cX6_readNewName 90 = .ok (.getfield 19, 3) := by decide +kernel
theorem dX6_readNewName_93 : decode cX6_readNewName 93 = .ok (.invokevirtual 61, 3) := by decide +kernel
theorem dX6_readNewName_96 : decode cX6_readNewName 96 = .ok (.iconst 1, 1) := by decide +kernel
theorem dX6_readNewName_97 : decode cX6_readNewName 97 = .ok (.ireturn, 1) := by decide +kernel
set_option maxRecDepth 10000 in
theorem vX6_readNewName_0 {κ : eg_K} {d : Nat} (hd : 1 ≤ d) {post : Int32 → eg_H → Prop} (M : eg_H) (l1 : Int32) (h : ((M.1 (9, 0) 4) = (38 : Int32) → (∀ M2 : eg_H, M2 = (sI M (6, 0) 7 (M.1 (9, 0) 6)) → ((¬ l1 = 0) → ((¬ l1 = (3 : Int32)) → (∃ p5 : Nat, p5 < 2 ∧ M2.2.2 (6, 0) 1 = (5, p5) ∧ (gX5_mayOf M2 p5 (M2.1 (6, 0) 7) ∧ (∀ x8 : Int32, x8 = (fX5_mayOf M2 p5 (M2.1 (6, 0) 7)) → eg_W κ gC mtX6_readNewName d (eQI κ gC post) 77 [(0, vR (6, 0))] [vI x8] M2)))) ∧ (l1 = (3 : Int32) → (∃ p9 : Nat, p9 < 2 ∧ M2.2.2 (6, 0) 1 = (5, p9) ∧ (gX5_guestOf M2 p9 (M2.1 (6, 0) 7) ∧ (∀ x12 : Int32, x12 = (fX5_guestOf M2 p9 (M2.1 (6, 0) 7)) → eg_W κ gC mtX6_readNewName d (eQI κ gC post) 77 [(0, vR (6, 0))] [vI x12] M2))))) ∧ (l1 = 0 → (∃ p13 : Nat, p13 < 2 ∧ M2.2.2 (6, 0) 1 = (5, p13) ∧ (gX5_stationOf M2 p13 (M2.1 (6, 0) 7) ∧ (∀ x16 : Int32, x16 = (fX5_stationOf M2 p13 (M2.1 (6, 0) 7)) → eg_W κ gC mtX6_readNewName d (eQI κ gC post) 77 [(0, vR (6, 0))] [vI x16] M2)))))) ∧ ((¬ (M.1 (9, 0) 4) = (38 : Int32)) → (∀ (x18 : Int32) (M17 : eg_H), (x18, M17) = fX6_refuse M (1 : Int32) → post x18 M17))) : eg_W κ gC mtX6_readNewName d (eQI κ gC post) 0 [(0, vR (6, 0)), (1, vI l1)] [] M := by
  refine eg_aload_n 0 dX6_readNewName_0 rfl rfl ?_
  refine eg_getR dX6_readNewName_1 fl_6_19 rfl rfl (obC_6 z1) ?_
  show eg_W κ gC mtX6_readNewName d (eQI κ gC post) 4 [(0, vR (6, 0)), (1, vI l1)] [vR (9, 0)] M
  refine eg_getI dX6_readNewName_4 fl_6_51 rfl trivial (obC_9 z1) ?_
  refine eg_bipush dX6_readNewName_7 bp_38 ?_
  refine eg_icmp_eq (tgt := 18) dX6_readNewName_9 rfl (fun c1 => ?_) (fun c1 => ?_)
  · have h := h.1 c1
    refine eg_aload_n 0 dX6_readNewName_18 rfl rfl ?_
    refine eg_aload_n 0 dX6_readNewName_19 rfl rfl ?_
    refine eg_getR dX6_readNewName_20 fl_6_19 rfl rfl (obC_6 z1) ?_
    show eg_W κ gC mtX6_readNewName d (eQI κ gC post) 23 [(0, vR (6, 0)), (1, vI l1)] [vR (9, 0), vR (6, 0)] M
    refine eg_getI dX6_readNewName_23 fl_6_92 rfl trivial (obC_9 z1) ?_
    refine en_putI dX6_readNewName_26 fl_6_95 rfl rfl (obC_6 z1) (fun M2 eM2 => ?_)
    have h := h M2 eM2
    refine eg_iload_n 1 dX6_readNewName_29 rfl rfl ?_
    refine eg_if_ne (tgt := 47) dX6_readNewName_30 rfl (fun c3 => ?_) (fun c3 => ?_)
    · have h := h.1 c3
      refine eg_iload_n 1 dX6_readNewName_47 rfl rfl ?_
      refine eg_iconst dX6_readNewName_48 ic_3 ?_
      refine eg_icmp_ne (tgt := 66) dX6_readNewName_49 rfl (fun c4 => ?_) (fun c4 => ?_)
      · have h := h.1 c4
        refine eg_aload_n 0 dX6_readNewName_66 rfl rfl ?_
        obtain ⟨p5, hp5, ep5, h⟩ := h
        refine eg_getD dX6_readNewName_67 fl_6_23 rfl rfl (obC_6 z1) ?_ (Or.inr (eg_nne ep5))
        rw [ep5]
        refine eg_aload_n 0 dX6_readNewName_70 rfl rfl ?_
        refine eg_getI dX6_readNewName_71 fl_6_95 rfl trivial (obC_6 z1) ?_
        obtain ⟨g6, h⟩ := h
        refine eg_callVI (av := [vI (M2.1 (6, 0) 7)]) (st := []) dX6_readNewName_74 ml_6_103 rfl rfl (obC_5 hp5) (by decide) rfl (Nat.le_of_ble_eq_true rfl) (eg_dd (by omega)) (sX5_mayOf (by omega) M2 p5 (M2.1 (6, 0) 7) hp5 g6) (fun x8 M7 hp => ?_)
        obtain ⟨ex8, eM7⟩ := hp
        rw [eM7]
        have h := h x8 ex8
        refine eg_sub [0] rfl ?_
        exact h
      · have h := h.2 c4
        refine eg_aload_n 0 dX6_readNewName_52 rfl rfl ?_
        obtain ⟨p9, hp9, ep9, h⟩ := h
        refine eg_getD dX6_readNewName_53 fl_6_23 rfl rfl (obC_6 z1) ?_ (Or.inr (eg_nne ep9))
        rw [ep9]
        refine eg_aload_n 0 dX6_readNewName_56 rfl rfl ?_
        refine eg_getI dX6_readNewName_57 fl_6_95 rfl trivial (obC_6 z1) ?_
        obtain ⟨g10, h⟩ := h
        refine eg_callVI (av := [vI (M2.1 (6, 0) 7)]) (st := []) dX6_readNewName_60 ml_6_100 rfl rfl (obC_5 hp9) (by decide) rfl (Nat.le_of_ble_eq_true rfl) (eg_dd (by omega)) (sX5_guestOf (by omega) M2 p9 (M2.1 (6, 0) 7) hp9 g10) (fun x12 M11 hp => ?_)
        obtain ⟨ex12, eM11⟩ := hp
        rw [eM11]
        have h := h x12 ex12
        refine eg_goto (tgt := 77) dX6_readNewName_63 rfl ?_
        refine eg_sub [0] rfl ?_
        exact h
    · have h := h.2 c3
      refine eg_aload_n 0 dX6_readNewName_33 rfl rfl ?_
      obtain ⟨p13, hp13, ep13, h⟩ := h
      refine eg_getD dX6_readNewName_34 fl_6_23 rfl rfl (obC_6 z1) ?_ (Or.inr (eg_nne ep13))
      rw [ep13]
      refine eg_aload_n 0 dX6_readNewName_37 rfl rfl ?_
      refine eg_getI dX6_readNewName_38 fl_6_95 rfl trivial (obC_6 z1) ?_
      obtain ⟨g14, h⟩ := h
      refine eg_callVI (av := [vI (M2.1 (6, 0) 7)]) (st := []) dX6_readNewName_41 ml_6_96 rfl rfl (obC_5 hp13) (by decide) rfl (Nat.le_of_ble_eq_true rfl) (eg_dd (by omega)) (sX5_stationOf (by omega) M2 p13 (M2.1 (6, 0) 7) hp13 g14) (fun x16 M15 hp => ?_)
      obtain ⟨ex16, eM15⟩ := hp
      rw [eM15]
      have h := h x16 ex16
      refine eg_goto (tgt := 77) dX6_readNewName_44 rfl ?_
      refine eg_sub [0] rfl ?_
      exact h
  · have h := h.2 c1
    refine eg_aload_n 0 dX6_readNewName_12 rfl rfl ?_
    refine eg_iconst dX6_readNewName_13 ic_1 ?_
    refine eg_callVI (av := [vI (1 : Int32)]) (st := []) dX6_readNewName_14 ml_6_57 rfl rfl (obC_6 z1) (by decide) rfl (Nat.le_of_ble_eq_true rfl) (eg_dd (by omega)) (sX6_refuse (by omega) M (1 : Int32)  ) (fun x18 M17 eM17 => ?_)
    have h := h x18 M17 eM17
    exact eg_zreturn dX6_readNewName_17 rfl (show x18 = 0 ∨ x18 = 1 from by rw [show x18 = _ from congrArg Prod.fst eM17]; exact zX6_refuse M (1 : Int32)) h
set_option maxRecDepth 10000 in
theorem vX6_readNewName_77 {κ : eg_K} {d : Nat} (hd : 1 ≤ d) {post : Int32 → eg_H → Prop} (M : eg_H) (s0 : Int32) (h : (s0 = (-1 : Int32) → eCV κ gC mtX9_advance d [vR (9, 0)] M (fun M2 => post (1 : Int32) M2)) ∧ ((¬ s0 = (-1 : Int32)) → (∀ (x5 : Int32) (M4 : eg_H), (x5, M4) = fX6_refuse M (3 : Int32) → post x5 M4))) : eg_W κ gC mtX6_readNewName d (eQI κ gC post) 77 [(0, vR (6, 0))] [vI s0] M := by
  refine eg_istore_n dX6_readNewName_77 rfl (by decide) (ls1 := [(2, vI s0), (0, vR (6, 0))]) rfl ?_
  refine eg_iload_n 0 dX6_readNewName_78 rfl rfl ?_
  refine eg_iconst dX6_readNewName_79 ic_m1 ?_
  refine eg_icmp_eq (tgt := 89) dX6_readNewName_80 rfl (fun c1 => ?_) (fun c1 => ?_)
  · have h := h.1 c1
    refine eg_aload_n 1 dX6_readNewName_89 rfl rfl ?_
    refine eg_getR dX6_readNewName_90 fl_6_19 rfl rfl (obC_6 z1) ?_
    show eg_W κ gC mtX6_readNewName d (eQI κ gC post) 93 [(2, vI s0), (0, vR (6, 0))] [vR (9, 0)] M
    obtain ⟨q3, hq3, h⟩ := h
    refine eg_callVV (av := []) (st := []) dX6_readNewName_93 ml_6_61 rfl rfl (obC_9 z1) (by decide) rfl (Nat.le_of_ble_eq_true rfl) (eg_dd (by omega)) hq3 (fun M2 hp => ?_)
    have h := h M2 hp
    refine eg_iconst dX6_readNewName_96 ic_1 ?_
    exact eg_zreturn dX6_readNewName_97 rfl (Or.inr rfl) h
  · have h := h.2 c1
    refine eg_aload_n 1 dX6_readNewName_83 rfl rfl ?_
    refine eg_iconst dX6_readNewName_84 ic_3 ?_
    refine eg_callVI (av := [vI (3 : Int32)]) (st := []) dX6_readNewName_85 ml_6_57 rfl rfl (obC_6 z1) (by decide) rfl (Nat.le_of_ble_eq_true rfl) (eg_dd (by omega)) (sX6_refuse (by omega) M (3 : Int32)  ) (fun x5 M4 eM4 => ?_)
    have h := h x5 M4 eM4
    exact eg_zreturn dX6_readNewName_88 rfl (show x5 = 0 ∨ x5 = 1 from by rw [show x5 = _ from congrArg Prod.fst eM4]; exact zX6_refuse M (3 : Int32)) h
theorem dX6_readStation_0 : decode cX6_readStation 0 = .ok (.aload_n 0, 1) := by decide +kernel
theorem dX6_readStation_1 : decode cX6_readStation 1 = .ok (.getfield 23, 3) := by decide +kernel
theorem dX6_readStation_4 : decode cX6_readStation 4 = .ok (.getfield 106, 3) := by decide +kernel
theorem dX6_readStation_7 : decode cX6_readStation 7 = .ok (.iconst 5, 1) := by decide +kernel
theorem dX6_readStation_8 : decode cX6_readStation 8 = .ok (.if_icmp .lt 9, 3) := by decide +kernel
theorem dX6_readStation_11 : decode cX6_readStation 11 = .ok (.aload_n 0, 1) := by decide +kernel
theorem dX6_readStation_12 : decode cX6_readStation 12 = .ok (.iconst 2, 1) := by decide +kernel
theorem dX6_readStation_13 : decode cX6_readStation 13 = .ok (.invokevirtual 57, 3) := by decide +kernel
theorem dX6_readStation_16 : decode cX6_readStation 16 = .ok (.ireturn, 1) := by decide +kernel
theorem dX6_readStation_17 : decode cX6_readStation 17 = .ok (.aload_n 0, 1) := by decide +kernel
theorem dX6_readStation_18 : decode cX6_readStation 18 = .ok (.getfield 23, 3) := by decide +kernel
theorem dX6_readStation_21 : decode cX6_readStation 21 = .ok (.getfield 109, 3) := by decide +kernel
theorem dX6_readStation_24 : decode cX6_readStation 24 = .ok (.aload_n 0, 1) := by decide +kernel
theorem dX6_readStation_25 : decode cX6_readStation 25 = .ok (.getfield 23, 3) := by decide +kernel
theorem dX6_readStation_28 : decode cX6_readStation 28 = .ok (.getfield 106, 3) := by decide +kernel
theorem dX6_readStation_31 : decode cX6_readStation 31 = .ok (.aaload, 1) := by decide +kernel
theorem dX6_readStation_32 : decode cX6_readStation 32 = .ok (.astore_n 1, 1) := by decide +kernel
theorem dX6_readStation_33 : decode cX6_readStation 33 = .ok (.aload_n 1, 1) := by decide +kernel
theorem dX6_readStation_34 : decode cX6_readStation 34 = .ok (.invokevirtual 113, 3) := by decide +kernel
theorem dX6_readStation_37 : decode cX6_readStation 37 = .ok (.aload_n 0, 1) := by decide +kernel
theorem dX6_readStation_38 : decode cX6_readStation 38 = .ok (.getfield 19, 3) := by decide +kernel
theorem dX6_readStation_41 : decode cX6_readStation 41 = .ok (.invokevirtual 61, 3) := by decide +kernel
theorem dX6_readStation_44 : decode cX6_readStation 44 = .ok (.aload_n 0, 1) := by decide +kernel
theorem dX6_readStation_45 : decode cX6_readStation 45 = .ok (.iconst 0, 1) := by decide +kernel
theorem dX6_readStation_46 : decode cX6_readStation 46 = .ok (.invokevirtual 116, 3) := by decide +kernel
theorem dX6_readStation_49 : decode cX6_readStation 49 = .ok (.ifCond .ne 5, 3) := by decide +kernel
theorem dX6_readStation_52 : decode cX6_readStation 52 = .ok (.iconst 0, 1) := by decide +kernel
theorem dX6_readStation_53 : decode cX6_readStation 53 = .ok (.ireturn, 1) := by decide +kernel
theorem dX6_readStation_54 : decode cX6_readStation 54 = .ok (.aload_n 1, 1) := by decide +kernel
theorem dX6_readStation_55 : decode cX6_readStation 55 = .ok (.aload_n 0, 1) := by decide +kernel
theorem dX6_readStation_56 : decode cX6_readStation 56 = .ok (.getfield 95, 3) := by decide +kernel
theorem dX6_readStation_59 : decode cX6_readStation 59 = .ok (.putfield 119, 3) := by decide +kernel
theorem dX6_readStation_62 : decode cX6_readStation 62 = .ok (.aload_n 0, 1) := by decide +kernel
theorem dX6_readStation_63 : decode cX6_readStation 63 = .ok (.iconst 1, 1) := by decide +kernel
theorem dX6_readStation_64 : decode cX6_readStation 64 = .ok (.sipush 240, 3) := by decide +kernel
theorem dX6_readStation_67 : decode cX6_readStation 67 = .ok (.invokevirtual 122, 3) := by decide +kernel
theorem dX6_readStation_70 : decode cX6_readStation 70 = .ok (.ifCond .ne 5, 3) := by decide +kernel
theorem dX6_readStation_73 : decode cX6_readStation 73 = .ok (.iconst 0, 1) := by decide +kernel
theorem dX6_readStation_74 : decode cX6_readStation 74 = .ok (.ireturn, 1) := by decide +kernel
theorem dX6_readStation_75 : decode cX6_readStation 75 = .ok (.aload_n 1, 1) := by decide +kernel
theorem dX6_readStation_76 : decode cX6_readStation 76 = .ok (.aload_n 0, 1) := by decide +kernel
theorem dX6_readStation_77 : decode cX6_readStation 77 = .ok (.getfield 89, 3) := by decide +kernel
theorem dX6_readStation_80 : decode cX6_readStation 80 = .ok (.putfield 126, 3) := by decide +kernel
theorem dX6_readStation_83 : decode cX6_readStation 83 = .ok (.aload_n 0, 1) := by decide +kernel
theorem dX6_readStation_84 : decode cX6_readStation 84 = .ok (.iconst 1, 1) := by decide +kernel
theorem dX6_readStation_85 : decode cX6_readStation 85 = .ok (.iconst 4, 1) := by decide +kernel
theorem dX6_readStation_86 : decode cX6_readStation 86 = .ok (.invokevirtual 122, 3) := by decide +kernel
theorem dX6_readStation_89 : decode cX6_readStation 89 = .ok (.ifCond .ne 5, 3) := by decide +kernel
theorem dX6_readStation_92 : decode cX6_readStation 92 = .ok (.iconst 0, 1) := by decide +kernel
theorem dX6_readStation_93 : decode cX6_readStation 93 = .ok (.ireturn, 1) := by decide +kernel
theorem dX6_readStation_94 : decode cX6_readStation 94 = .ok (.aload_n 1, 1) := by decide +kernel
theorem dX6_readStation_95 : decode cX6_readStation 95 = .ok (.aload_n 0, 1) := by decide +kernel
theorem dX6_readStation_96 : decode cX6_readStation 96 = .ok (.getfield 89, 3) := by decide +kernel
theorem dX6_readStation_99 : decode cX6_readStation 99 = .ok (.putfield 129, 3) := by decide +kernel
theorem dX6_readStation_102 : decode cX6_readStation 102 = .ok (.aload_n 0, 1) := by decide +kernel
theorem dX6_readStation_103 : decode cX6_readStation 103 = .ok (.getfield 19, 3) := by decide +kernel
theorem dX6_readStation_106 : decode cX6_readStation 106 = .ok (.getfield 51, 3) := by decide +kernel
theorem dX6_readStation_109 : decode cX6_readStation 109 = .ok (.iconst 1, 1) := by decide +kernel
theorem dX6_readStation_110 : decode cX6_readStation 110 = .ok (.if_icmp .ne 71, 3) := by decide +kernel
theorem dX6_readStation_113 : decode cX6_readStation 113 = .ok (.aload_n 0, 1) := by decide +kernel
theorem dX6_readStation_114 : decode cX6_readStation 114 = .ok (.getfield 19, 3) := by decide +kernel
theorem dX6_readStation_117 : decode cX6_readStation 117 = .ok (.invokevirtual 61, 3) := by decide +kernel
theorem dX6_readStation_120 : decode cX6_readStation 120 = .ok (.aload_n 0, 1) := by decide +kernel
theorem dX6_readStation_121 : decode cX6_readStation 121 = .ok (.iconst 1, 1) := by decide +kernel
theorem dX6_readStation_122 : decode cX6_readStation 122 = .ok (.bipush 60, 2) := by decide +kernel
theorem dX6_readStation_124 : decode cX6_readStation 124 = .ok (.invokevirtual 122, 3) := by decide +kernel
theorem dX6_readStation_127 : decode cX6_readStation 127 = .ok (.ifCond .ne 5, 3) := by decide +kernel
theorem dX6_readStation_130 : decode cX6_readStation 130 = .ok (.iconst 0, 1) := by decide +kernel
theorem dX6_readStation_131 : decode cX6_readStation 131 = .ok (.ireturn, 1) := by decide +kernel
theorem dX6_readStation_132 : decode cX6_readStation 132 = .ok (.aload_n 1, 1) := by decide +kernel
theorem dX6_readStation_133 : decode cX6_readStation 133 = .ok (.aload_n 0, 1) := by decide +kernel
theorem dX6_readStation_134 : decode cX6_readStation 134 = .ok (.getfield 89, 3) := by decide +kernel
theorem dX6_readStation_137 : decode cX6_readStation 137 = .ok (.putfield 132, 3) := by decide +kernel
theorem dX6_readStation_140 : decode cX6_readStation 140 = .ok (.aload_n 0, 1) := by decide +kernel
theorem dX6_readStation_141 : decode cX6_readStation 141 = .ok (.iconst 1, 1) := by decide +kernel
theorem dX6_readStation_142 : decode cX6_readStation 142 = .ok (.sipush 900, 3) := by decide +kernel
theorem dX6_readStation_145 : decode cX6_readStation 145 = .ok (.invokevirtual 122, 3) := by decide +kernel
theorem dX6_readStation_148 : decode cX6_readStation 148 = .ok (.ifCond .ne 5, 3) := by decide +kernel
theorem dX6_readStation_151 : decode cX6_readStation 151 = .ok (.iconst 0, 1) := by decide +kernel
theorem dX6_readStation_152 : decode cX6_readStation 152 = .ok (.ireturn, 1) := by decide +kernel
theorem dX6_readStation_153 : decode cX6_readStation 153 = .ok (.aload_n 1, 1) := by decide +kernel
theorem dX6_readStation_154 : decode cX6_readStation 154 = .ok (.aload_n 0, 1) := by decide +kernel
theorem dX6_readStation_155 : decode cX6_readStation 155 = .ok (.getfield 89, 3) := by decide +kernel
theorem dX6_readStation_158 : decode cX6_readStation 158 = .ok (.putfield 135, 3) := by decide +kernel
theorem dX6_readStation_161 : decode cX6_readStation 161 = .ok (.aload_n 0, 1) := by decide +kernel
theorem dX6_readStation_162 : decode cX6_readStation 162 = .ok (.iconst 0, 1) := by decide +kernel
theorem dX6_readStation_163 : decode cX6_readStation 163 = .ok (.bipush 59, 2) := by decide +kernel
theorem dX6_readStation_165 : decode cX6_readStation 165 = .ok (.invokevirtual 122, 3) := by decide +kernel
theorem dX6_readStation_168 : decode cX6_readStation 168 = .ok (.ifCond .ne 5, 3) := by decide +kernel
theorem dX6_readStation_171 : decode cX6_readStation 171 = .ok (.iconst 0, 1) := by decide +kernel
theorem dX6_readStation_172 : decode cX6_readStation 172 = .ok (.ireturn, 1) := by decide +kernel
theorem dX6_readStation_173 : decode cX6_readStation 173 = .ok (.aload_n 1, 1) := by decide +kernel
theorem dX6_readStation_174 : decode cX6_readStation 174 = .ok (.aload_n 0, 1) := by decide +kernel
theorem dX6_readStation_175 : decode cX6_readStation 175 = .ok (.getfield 89, 3) := by decide +kernel
theorem dX6_readStation_178 : decode cX6_readStation 178 = .ok (.putfield 138, 3) := by decide +kernel
theorem dX6_readStation_181 : decode cX6_readStation 181 = .ok (.aload_n 0, 1) := by decide +kernel
theorem dX6_readStation_182 : decode cX6_readStation 182 = .ok (.getfield 19, 3) := by decide +kernel
theorem dX6_readStation_185 : decode cX6_readStation 185 = .ok (.getfield 51, 3) := by decide +kernel
theorem dX6_readStation_188 : decode cX6_readStation 188 = .ok (.iconst 2, 1) := by decide +kernel
theorem dX6_readStation_189 : decode cX6_readStation 189 = .ok (.if_icmp .ne 31, 3) := by decide +kernel
theorem dX6_readStation_192 : decode cX6_readStation 192 = .ok (.aload_n 0, 1) := by decide +kernel
theorem dX6_readStation_193 : decode cX6_readStation 193 = .ok (.getfield 19, 3) := by decide +kernel
theorem dX6_readStation_196 : decode cX6_readStation 196 = .ok (.invokevirtual 61, 3) := by decide +kernel
theorem dX6_readStation_199 : decode cX6_readStation 199 = .ok (.aload_n 0, 1) := by decide +kernel
theorem dX6_readStation_200 : decode cX6_readStation 200 = .ok (.iconst 1, 1) := by decide +kernel
theorem dX6_readStation_201 : decode cX6_readStation 201 = .ok (.sipush 3600, 3) := by decide +kernel
theorem dX6_readStation_204 : decode cX6_readStation 204 = .ok (.invokevirtual 122, 3) := by decide +kernel
theorem dX6_readStation_207 : decode cX6_readStation 207 = .ok (.ifCond .ne 5, 3) := by decide +kernel
theorem dX6_readStation_210 : decode cX6_readStation 210 = .ok (.iconst 0, 1) := by decide +kernel
theorem dX6_readStation_211 : decode cX6_readStation 211 = .ok (.ireturn, 1) := by decide +kernel
theorem dX6_readStation_212 : decode cX6_readStation 212 = .ok (.aload_n 1, 1) := by decide +kernel
theorem dX6_readStation_213 : decode cX6_readStation 213 = .ok (.aload_n 0, 1) := by decide +kernel
theorem dX6_readStation_214 : decode cX6_readStation 214 = .ok (.getfield 89, 3) := by decide +kernel
theorem dX6_readStation_217 : decode cX6_readStation 217 = .ok (.putfield 141, 3) := by decide +kernel
theorem dX6_readStation_220 : decode cX6_readStation 220 = .ok (.aload_n 0, 1) := by decide +kernel
theorem dX6_readStation_221 : decode cX6_readStation 221 = .ok (.getfield 23, 3) := by decide +kernel
theorem dX6_readStation_224 : decode cX6_readStation 224 = .ok (.dup, 1) := by decide +kernel
theorem dX6_readStation_225 : decode cX6_readStation 225 = .ok (.getfield 106, 3) := by decide +kernel
theorem dX6_readStation_228 : decode cX6_readStation 228 = .ok (.iconst 1, 1) := by decide +kernel
theorem dX6_readStation_229 : decode cX6_readStation 229 = .ok (.iadd, 1) := by decide +kernel
theorem dX6_readStation_230 : decode cX6_readStation 230 = .ok (.putfield 106, 3) := by decide +kernel
theorem dX6_readStation_233 : decode cX6_readStation 233 = .ok (.iconst 1, 1) := by decide +kernel
theorem dX6_readStation_234 : decode cX6_readStation 234 = .ok (.ireturn, 1) := by decide +kernel
set_option maxRecDepth 10000 in
theorem vX6_readStation_0 {κ : eg_K} {d : Nat} (hd : 1 ≤ d) {post : Int32 → eg_H → Prop} (M : eg_H)  (h : (∃ p1 : Nat, p1 < 2 ∧ M.2.2 (6, 0) 1 = (5, p1) ∧ ((M.1 (5, p1) 0) < (5 : Int32) → (vp_in (M.1 (5, p1) 0) 5 ∧ (∀ M4 : eg_H, M4 = (fX1_clear M (5 * p1 + (M.1 (5, p1) 0).toNatClampNeg)) → eCV κ gC mtX9_advance d [vR (9, 0)] M4 (fun M6 => eCI κ gC mtX6_readNewName d [vR (6, 0), vI (0 : Int32)] M6 (fun x8 M9 => ((¬ x8 = 0) → (∀ M12 : eg_H, M12 = (sI M9 (1, 5 * p1 + (M.1 (5, p1) 0).toNatClampNeg) 0 (M9.1 (6, 0) 7)) → eCI κ gC mtX6_readNumber d [vR (6, 0), vI (1 : Int32), vI (240 : Int32)] M12 (fun x13 M14 => ((¬ x13 = 0) → (∀ M17 : eg_H, M17 = (sI M14 (1, 5 * p1 + (M.1 (5, p1) 0).toNatClampNeg) 1 (M14.1 (6, 0) 6)) → eCI κ gC mtX6_readNumber d [vR (6, 0), vI (1 : Int32), vI (4 : Int32)] M17 (fun x18 M19 => ((¬ x18 = 0) → (∀ M22 : eg_H, M22 = (sI M19 (1, 5 * p1 + (M.1 (5, p1) 0).toNatClampNeg) 2 (M19.1 (6, 0) 6)) → ((¬ (M22.1 (9, 0) 4) = (1 : Int32)) → eg_W κ gC mtX6_readStation d (eQI κ gC post) 181 [(0, vR (6, 0)), (1, vR (1, 5 * p1 + (M.1 (5, p1) 0).toNatClampNeg))] [] M22) ∧ ((M22.1 (9, 0) 4) = (1 : Int32) → eCV κ gC mtX9_advance d [vR (9, 0)] M22 (fun M24 => eCI κ gC mtX6_readNumber d [vR (6, 0), vI (1 : Int32), vI (60 : Int32)] M24 (fun x26 M27 => ((¬ x26 = 0) → (∀ M30 : eg_H, M30 = (sI M27 (1, 5 * p1 + (M.1 (5, p1) 0).toNatClampNeg) 3 (M27.1 (6, 0) 6)) → eCI κ gC mtX6_readNumber d [vR (6, 0), vI (1 : Int32), vI (900 : Int32)] M30 (fun x31 M32 => ((¬ x31 = 0) → (∀ M35 : eg_H, M35 = (sI M32 (1, 5 * p1 + (M.1 (5, p1) 0).toNatClampNeg) 4 (M32.1 (6, 0) 6)) → eCI κ gC mtX6_readNumber d [vR (6, 0), vI (0 : Int32), vI (59 : Int32)] M35 (fun x36 M37 => ((¬ x36 = 0) → (∀ M40 : eg_H, M40 = (sI M37 (1, 5 * p1 + (M.1 (5, p1) 0).toNatClampNeg) 5 (M37.1 (6, 0) 6)) → eg_W κ gC mtX6_readStation d (eQI κ gC post) 181 [(0, vR (6, 0)), (1, vR (1, 5 * p1 + (M.1 (5, p1) 0).toNatClampNeg))] [] M40)) ∧ (x36 = 0 → post (0 : Int32) M37)))) ∧ (x31 = 0 → post (0 : Int32) M32)))) ∧ (x26 = 0 → post (0 : Int32) M27)))))) ∧ (x18 = 0 → post (0 : Int32) M19)))) ∧ (x13 = 0 → post (0 : Int32) M14)))) ∧ (x8 = 0 → post (0 : Int32) M9)))))) ∧ ((¬ (M.1 (5, p1) 0) < (5 : Int32)) → (∀ (x42 : Int32) (M41 : eg_H), (x42, M41) = fX6_refuse M (2 : Int32) → post x42 M41)))) : eg_W κ gC mtX6_readStation d (eQI κ gC post) 0 [(0, vR (6, 0))] [] M := by
  refine eg_aload_n 0 dX6_readStation_0 rfl rfl ?_
  obtain ⟨p1, hp1, ep1, h⟩ := h
  refine eg_getD dX6_readStation_1 fl_6_23 rfl rfl (obC_6 z1) ?_ (Or.inr (eg_nne ep1))
  rw [ep1]
  refine eg_getI dX6_readStation_4 fl_6_106 rfl trivial (obC_5 hp1) ?_
  refine eg_iconst dX6_readStation_7 ic_5 ?_
  refine eg_icmp_lt (tgt := 17) dX6_readStation_8 rfl (fun c2 => ?_) (fun c2 => ?_)
  · have h := h.1 c2
    refine eg_aload_n 0 dX6_readStation_17 rfl rfl ?_
    refine eg_getD dX6_readStation_18 fl_6_23 rfl rfl (obC_6 z1) ?_ (Or.inr (eg_nne ep1))
    rw [ep1]
    refine eg_getR dX6_readStation_21 fl_6_109 rfl rfl (obC_5 hp1) ?_
    show eg_W κ gC mtX6_readStation d (eQI κ gC post) 24 [(0, vR (6, 0))] [vR (30, p1)] M
    refine eg_aload_n 0 dX6_readStation_24 rfl rfl ?_
    refine eg_getD dX6_readStation_25 fl_6_23 rfl rfl (obC_6 z1) ?_ (Or.inr (eg_nne ep1))
    rw [ep1]
    refine eg_getI dX6_readStation_28 fl_6_106 rfl trivial (obC_5 hp1) ?_
    obtain ⟨g3, h⟩ := h
    refine eg_aaload4 dX6_readStation_31 (arC_30 hp1 g3) ?_
    show eg_W κ gC mtX6_readStation d (eQI κ gC post) 32 [(0, vR (6, 0))] [vR (1, 5 * p1 + (M.1 (5, p1) 0).toNatClampNeg)] M
    refine eg_astore_n dX6_readStation_32 rfl (by decide) (ls1 := [(1, vR (1, 5 * p1 + (M.1 (5, p1) 0).toNatClampNeg)), (0, vR (6, 0))]) rfl ?_
    refine eg_aload_n 0 dX6_readStation_33 rfl rfl ?_
    refine eg_callVV (av := []) (st := []) dX6_readStation_34 ml_6_113 rfl rfl (obC_1 (ixP5 hp1 g3)) (by decide) rfl (Nat.le_of_ble_eq_true rfl) (eg_dd (by omega)) (sX1_clear (by omega) M (5 * p1 + (M.1 (5, p1) 0).toNatClampNeg) (ixP5 hp1 g3) ) (fun M4 eM4 => ?_)
    have h := h M4 eM4
    refine eg_aload_n 1 dX6_readStation_37 rfl rfl ?_
    refine eg_getR dX6_readStation_38 fl_6_19 rfl rfl (obC_6 z1) ?_
    show eg_W κ gC mtX6_readStation d (eQI κ gC post) 41 [(1, vR (1, 5 * p1 + (M.1 (5, p1) 0).toNatClampNeg)), (0, vR (6, 0))] [vR (9, 0)] M4
    obtain ⟨q7, hq7, h⟩ := h
    refine eg_callVV (av := []) (st := []) dX6_readStation_41 ml_6_61 rfl rfl (obC_9 z1) (by decide) rfl (Nat.le_of_ble_eq_true rfl) (eg_dd (by omega)) hq7 (fun M6 hp => ?_)
    have h := h M6 hp
    refine eg_aload_n 1 dX6_readStation_44 rfl rfl ?_
    refine eg_iconst dX6_readStation_45 ic_0 ?_
    obtain ⟨q10, hq10, h⟩ := h
    refine eg_callVI (av := [vI (0 : Int32)]) (st := []) dX6_readStation_46 ml_6_116 rfl rfl (obC_6 z1) (by decide) rfl (Nat.le_of_ble_eq_true rfl) (eg_dd (by omega)) hq10 (fun x8 M9 hp => ?_)
    have h := h x8 M9 hp
    refine eg_if_ne (tgt := 54) dX6_readStation_49 rfl (fun c11 => ?_) (fun c11 => ?_)
    · have h := h.1 c11
      refine eg_aload_n 0 dX6_readStation_54 rfl rfl ?_
      refine eg_aload_n 1 dX6_readStation_55 rfl rfl ?_
      refine eg_getI dX6_readStation_56 fl_6_95 rfl trivial (obC_6 z1) ?_
      refine en_putI dX6_readStation_59 fl_6_119 rfl rfl (obC_1 (ixP5 hp1 g3)) (fun M12 eM12 => ?_)
      have h := h M12 eM12
      refine eg_aload_n 1 dX6_readStation_62 rfl rfl ?_
      refine eg_iconst dX6_readStation_63 ic_1 ?_
      refine eg_sipush dX6_readStation_64 sp_240 ?_
      obtain ⟨q15, hq15, h⟩ := h
      refine eg_callVI (av := [vI (1 : Int32), vI (240 : Int32)]) (st := []) dX6_readStation_67 ml_6_122 rfl rfl (obC_6 z1) (by decide) rfl (Nat.le_of_ble_eq_true rfl) (eg_dd (by omega)) hq15 (fun x13 M14 hp => ?_)
      have h := h x13 M14 hp
      refine eg_if_ne (tgt := 75) dX6_readStation_70 rfl (fun c16 => ?_) (fun c16 => ?_)
      · have h := h.1 c16
        refine eg_aload_n 0 dX6_readStation_75 rfl rfl ?_
        refine eg_aload_n 1 dX6_readStation_76 rfl rfl ?_
        refine eg_getI dX6_readStation_77 fl_6_89 rfl trivial (obC_6 z1) ?_
        refine en_putI dX6_readStation_80 fl_6_126 rfl rfl (obC_1 (ixP5 hp1 g3)) (fun M17 eM17 => ?_)
        have h := h M17 eM17
        refine eg_aload_n 1 dX6_readStation_83 rfl rfl ?_
        refine eg_iconst dX6_readStation_84 ic_1 ?_
        refine eg_iconst dX6_readStation_85 ic_4 ?_
        obtain ⟨q20, hq20, h⟩ := h
        refine eg_callVI (av := [vI (1 : Int32), vI (4 : Int32)]) (st := []) dX6_readStation_86 ml_6_122 rfl rfl (obC_6 z1) (by decide) rfl (Nat.le_of_ble_eq_true rfl) (eg_dd (by omega)) hq20 (fun x18 M19 hp => ?_)
        have h := h x18 M19 hp
        refine eg_if_ne (tgt := 94) dX6_readStation_89 rfl (fun c21 => ?_) (fun c21 => ?_)
        · have h := h.1 c21
          refine eg_aload_n 0 dX6_readStation_94 rfl rfl ?_
          refine eg_aload_n 1 dX6_readStation_95 rfl rfl ?_
          refine eg_getI dX6_readStation_96 fl_6_89 rfl trivial (obC_6 z1) ?_
          refine en_putI dX6_readStation_99 fl_6_129 rfl rfl (obC_1 (ixP5 hp1 g3)) (fun M22 eM22 => ?_)
          have h := h M22 eM22
          refine eg_aload_n 1 dX6_readStation_102 rfl rfl ?_
          refine eg_getR dX6_readStation_103 fl_6_19 rfl rfl (obC_6 z1) ?_
          show eg_W κ gC mtX6_readStation d (eQI κ gC post) 106 [(1, vR (1, 5 * p1 + (M.1 (5, p1) 0).toNatClampNeg)), (0, vR (6, 0))] [vR (9, 0)] M22
          refine eg_getI dX6_readStation_106 fl_6_51 rfl trivial (obC_9 z1) ?_
          refine eg_iconst dX6_readStation_109 ic_1 ?_
          refine eg_icmp_ne (tgt := 181) dX6_readStation_110 rfl (fun c23 => ?_) (fun c23 => ?_)
          · have h := h.1 c23
            refine eg_sub [1, 0] rfl ?_
            exact h
          · have h := h.2 c23
            refine eg_aload_n 1 dX6_readStation_113 rfl rfl ?_
            refine eg_getR dX6_readStation_114 fl_6_19 rfl rfl (obC_6 z1) ?_
            show eg_W κ gC mtX6_readStation d (eQI κ gC post) 117 [(1, vR (1, 5 * p1 + (M.1 (5, p1) 0).toNatClampNeg)), (0, vR (6, 0))] [vR (9, 0)] M22
            obtain ⟨q25, hq25, h⟩ := h
            refine eg_callVV (av := []) (st := []) dX6_readStation_117 ml_6_61 rfl rfl (obC_9 z1) (by decide) rfl (Nat.le_of_ble_eq_true rfl) (eg_dd (by omega)) hq25 (fun M24 hp => ?_)
            have h := h M24 hp
            refine eg_aload_n 1 dX6_readStation_120 rfl rfl ?_
            refine eg_iconst dX6_readStation_121 ic_1 ?_
            refine eg_bipush dX6_readStation_122 bp_60 ?_
            obtain ⟨q28, hq28, h⟩ := h
            refine eg_callVI (av := [vI (1 : Int32), vI (60 : Int32)]) (st := []) dX6_readStation_124 ml_6_122 rfl rfl (obC_6 z1) (by decide) rfl (Nat.le_of_ble_eq_true rfl) (eg_dd (by omega)) hq28 (fun x26 M27 hp => ?_)
            have h := h x26 M27 hp
            refine eg_if_ne (tgt := 132) dX6_readStation_127 rfl (fun c29 => ?_) (fun c29 => ?_)
            · have h := h.1 c29
              refine eg_aload_n 0 dX6_readStation_132 rfl rfl ?_
              refine eg_aload_n 1 dX6_readStation_133 rfl rfl ?_
              refine eg_getI dX6_readStation_134 fl_6_89 rfl trivial (obC_6 z1) ?_
              refine en_putI dX6_readStation_137 fl_6_132 rfl rfl (obC_1 (ixP5 hp1 g3)) (fun M30 eM30 => ?_)
              have h := h M30 eM30
              refine eg_aload_n 1 dX6_readStation_140 rfl rfl ?_
              refine eg_iconst dX6_readStation_141 ic_1 ?_
              refine eg_sipush dX6_readStation_142 sp_900 ?_
              obtain ⟨q33, hq33, h⟩ := h
              refine eg_callVI (av := [vI (1 : Int32), vI (900 : Int32)]) (st := []) dX6_readStation_145 ml_6_122 rfl rfl (obC_6 z1) (by decide) rfl (Nat.le_of_ble_eq_true rfl) (eg_dd (by omega)) hq33 (fun x31 M32 hp => ?_)
              have h := h x31 M32 hp
              refine eg_if_ne (tgt := 153) dX6_readStation_148 rfl (fun c34 => ?_) (fun c34 => ?_)
              · have h := h.1 c34
                refine eg_aload_n 0 dX6_readStation_153 rfl rfl ?_
                refine eg_aload_n 1 dX6_readStation_154 rfl rfl ?_
                refine eg_getI dX6_readStation_155 fl_6_89 rfl trivial (obC_6 z1) ?_
                refine en_putI dX6_readStation_158 fl_6_135 rfl rfl (obC_1 (ixP5 hp1 g3)) (fun M35 eM35 => ?_)
                have h := h M35 eM35
                refine eg_aload_n 1 dX6_readStation_161 rfl rfl ?_
                refine eg_iconst dX6_readStation_162 ic_0 ?_
                refine eg_bipush dX6_readStation_163 bp_59 ?_
                obtain ⟨q38, hq38, h⟩ := h
                refine eg_callVI (av := [vI (0 : Int32), vI (59 : Int32)]) (st := []) dX6_readStation_165 ml_6_122 rfl rfl (obC_6 z1) (by decide) rfl (Nat.le_of_ble_eq_true rfl) (eg_dd (by omega)) hq38 (fun x36 M37 hp => ?_)
                have h := h x36 M37 hp
                refine eg_if_ne (tgt := 173) dX6_readStation_168 rfl (fun c39 => ?_) (fun c39 => ?_)
                · have h := h.1 c39
                  refine eg_aload_n 0 dX6_readStation_173 rfl rfl ?_
                  refine eg_aload_n 1 dX6_readStation_174 rfl rfl ?_
                  refine eg_getI dX6_readStation_175 fl_6_89 rfl trivial (obC_6 z1) ?_
                  refine en_putI dX6_readStation_178 fl_6_138 rfl rfl (obC_1 (ixP5 hp1 g3)) (fun M40 eM40 => ?_)
                  have h := h M40 eM40
                  refine eg_sub [1, 0] rfl ?_
                  exact h
                · have h := h.2 c39
                  refine eg_iconst dX6_readStation_171 ic_0 ?_
                  exact eg_zreturn dX6_readStation_172 rfl (Or.inl rfl) h
              · have h := h.2 c34
                refine eg_iconst dX6_readStation_151 ic_0 ?_
                exact eg_zreturn dX6_readStation_152 rfl (Or.inl rfl) h
            · have h := h.2 c29
              refine eg_iconst dX6_readStation_130 ic_0 ?_
              exact eg_zreturn dX6_readStation_131 rfl (Or.inl rfl) h
        · have h := h.2 c21
          refine eg_iconst dX6_readStation_92 ic_0 ?_
          exact eg_zreturn dX6_readStation_93 rfl (Or.inl rfl) h
      · have h := h.2 c16
        refine eg_iconst dX6_readStation_73 ic_0 ?_
        exact eg_zreturn dX6_readStation_74 rfl (Or.inl rfl) h
    · have h := h.2 c11
      refine eg_iconst dX6_readStation_52 ic_0 ?_
      exact eg_zreturn dX6_readStation_53 rfl (Or.inl rfl) h
  · have h := h.2 c2
    refine eg_aload_n 0 dX6_readStation_11 rfl rfl ?_
    refine eg_iconst dX6_readStation_12 ic_2 ?_
    refine eg_callVI (av := [vI (2 : Int32)]) (st := []) dX6_readStation_13 ml_6_57 rfl rfl (obC_6 z1) (by decide) rfl (Nat.le_of_ble_eq_true rfl) (eg_dd (by omega)) (sX6_refuse (by omega) M (2 : Int32)  ) (fun x42 M41 eM41 => ?_)
    have h := h x42 M41 eM41
    exact eg_zreturn dX6_readStation_16 rfl (show x42 = 0 ∨ x42 = 1 from by rw [show x42 = _ from congrArg Prod.fst eM41]; exact zX6_refuse M (2 : Int32)) h
set_option maxRecDepth 10000 in
theorem vX6_readStation_181 {κ : eg_K} {d : Nat} (hd : 1 ≤ d) {post : Int32 → eg_H → Prop} (M : eg_H) {l1 : Nat} (hl1 : l1 < 10) (h : ((¬ (M.1 (9, 0) 4) = (2 : Int32)) → (∃ p2 : Nat, p2 < 2 ∧ M.2.2 (6, 0) 1 = (5, p2) ∧ (∀ M3 : eg_H, M3 = (sI M (5, p2) 0 ((M.1 (5, p2) 0) + (1 : Int32))) → post (1 : Int32) M3))) ∧ ((M.1 (9, 0) 4) = (2 : Int32) → eCV κ gC mtX9_advance d [vR (9, 0)] M (fun M4 => eCI κ gC mtX6_readNumber d [vR (6, 0), vI (1 : Int32), vI (3600 : Int32)] M4 (fun x6 M7 => ((¬ x6 = 0) → (∀ M10 : eg_H, M10 = (sI M7 (1, l1) 6 (M7.1 (6, 0) 6)) → (∃ p11 : Nat, p11 < 2 ∧ M10.2.2 (6, 0) 1 = (5, p11) ∧ (∀ M12 : eg_H, M12 = (sI M10 (5, p11) 0 ((M10.1 (5, p11) 0) + (1 : Int32))) → post (1 : Int32) M12)))) ∧ (x6 = 0 → post (0 : Int32) M7))))) : eg_W κ gC mtX6_readStation d (eQI κ gC post) 181 [(0, vR (6, 0)), (1, vR (1, l1))] [] M := by
  refine eg_aload_n 0 dX6_readStation_181 rfl rfl ?_
  refine eg_getR dX6_readStation_182 fl_6_19 rfl rfl (obC_6 z1) ?_
  show eg_W κ gC mtX6_readStation d (eQI κ gC post) 185 [(0, vR (6, 0)), (1, vR (1, l1))] [vR (9, 0)] M
  refine eg_getI dX6_readStation_185 fl_6_51 rfl trivial (obC_9 z1) ?_
  refine eg_iconst dX6_readStation_188 ic_2 ?_
  refine eg_icmp_ne (tgt := 220) dX6_readStation_189 rfl (fun c1 => ?_) (fun c1 => ?_)
  · have h := h.1 c1
    refine eg_aload_n 0 dX6_readStation_220 rfl rfl ?_
    obtain ⟨p2, hp2, ep2, h⟩ := h
    refine eg_getD dX6_readStation_221 fl_6_23 rfl rfl (obC_6 z1) ?_ (Or.inr (eg_nne ep2))
    rw [ep2]
    refine eg_dup dX6_readStation_224 rfl ?_
    refine eg_getI dX6_readStation_225 fl_6_106 rfl trivial (obC_5 hp2) ?_
    refine eg_iconst dX6_readStation_228 ic_1 ?_
    refine eg_iadd dX6_readStation_229 ?_
    refine en_putI dX6_readStation_230 fl_6_106 rfl rfl (obC_5 hp2) (fun M3 eM3 => ?_)
    have h := h M3 eM3
    refine eg_iconst dX6_readStation_233 ic_1 ?_
    exact eg_zreturn dX6_readStation_234 rfl (Or.inr rfl) h
  · have h := h.2 c1
    refine eg_aload_n 0 dX6_readStation_192 rfl rfl ?_
    refine eg_getR dX6_readStation_193 fl_6_19 rfl rfl (obC_6 z1) ?_
    show eg_W κ gC mtX6_readStation d (eQI κ gC post) 196 [(0, vR (6, 0)), (1, vR (1, l1))] [vR (9, 0)] M
    obtain ⟨q5, hq5, h⟩ := h
    refine eg_callVV (av := []) (st := []) dX6_readStation_196 ml_6_61 rfl rfl (obC_9 z1) (by decide) rfl (Nat.le_of_ble_eq_true rfl) (eg_dd (by omega)) hq5 (fun M4 hp => ?_)
    have h := h M4 hp
    refine eg_aload_n 0 dX6_readStation_199 rfl rfl ?_
    refine eg_iconst dX6_readStation_200 ic_1 ?_
    refine eg_sipush dX6_readStation_201 sp_3600 ?_
    obtain ⟨q8, hq8, h⟩ := h
    refine eg_callVI (av := [vI (1 : Int32), vI (3600 : Int32)]) (st := []) dX6_readStation_204 ml_6_122 rfl rfl (obC_6 z1) (by decide) rfl (Nat.le_of_ble_eq_true rfl) (eg_dd (by omega)) hq8 (fun x6 M7 hp => ?_)
    have h := h x6 M7 hp
    refine eg_if_ne (tgt := 212) dX6_readStation_207 rfl (fun c9 => ?_) (fun c9 => ?_)
    · have h := h.1 c9
      refine eg_aload_n 1 dX6_readStation_212 rfl rfl ?_
      refine eg_aload_n 0 dX6_readStation_213 rfl rfl ?_
      refine eg_getI dX6_readStation_214 fl_6_89 rfl trivial (obC_6 z1) ?_
      refine en_putI dX6_readStation_217 fl_6_141 rfl rfl (obC_1 hl1) (fun M10 eM10 => ?_)
      have h := h M10 eM10
      refine eg_aload_n 0 dX6_readStation_220 rfl rfl ?_
      obtain ⟨p11, hp11, ep11, h⟩ := h
      refine eg_getD dX6_readStation_221 fl_6_23 rfl rfl (obC_6 z1) ?_ (Or.inr (eg_nne ep11))
      rw [ep11]
      refine eg_dup dX6_readStation_224 rfl ?_
      refine eg_getI dX6_readStation_225 fl_6_106 rfl trivial (obC_5 hp11) ?_
      refine eg_iconst dX6_readStation_228 ic_1 ?_
      refine eg_iadd dX6_readStation_229 ?_
      refine en_putI dX6_readStation_230 fl_6_106 rfl rfl (obC_5 hp11) (fun M12 eM12 => ?_)
      have h := h M12 eM12
      refine eg_iconst dX6_readStation_233 ic_1 ?_
      exact eg_zreturn dX6_readStation_234 rfl (Or.inr rfl) h
    · have h := h.2 c9
      refine eg_iconst dX6_readStation_210 ic_0 ?_
      exact eg_zreturn dX6_readStation_211 rfl (Or.inl rfl) h
theorem dX6_readGuest_0 : decode cX6_readGuest 0 = .ok (.aload_n 0, 1) := by decide +kernel
theorem dX6_readGuest_1 : decode cX6_readGuest 1 = .ok (.getfield 23, 3) := by decide +kernel
theorem dX6_readGuest_4 : decode cX6_readGuest 4 = .ok (.getfield 144, 3) := by decide +kernel
theorem dX6_readGuest_7 : decode cX6_readGuest 7 = .ok (.bipush 9, 2) := by decide +kernel
theorem dX6_readGuest_9 : decode cX6_readGuest 9 = .ok (.if_icmp .lt 9, 3) := by decide +kernel
theorem dX6_readGuest_12 : decode cX6_readGuest 12 = .ok (.aload_n 0, 1) := by decide +kernel
theorem dX6_readGuest_13 : decode cX6_readGuest 13 = .ok (.iconst 2, 1) := by decide +kernel
theorem dX6_readGuest_14 : decode cX6_readGuest 14 = .ok (.invokevirtual 57, 3) := by decide +kernel
theorem dX6_readGuest_17 : decode cX6_readGuest 17 = .ok (.ireturn, 1) := by decide +kernel
theorem dX6_readGuest_18 : decode cX6_readGuest 18 = .ok (.aload_n 0, 1) := by decide +kernel
theorem dX6_readGuest_19 : decode cX6_readGuest 19 = .ok (.getfield 23, 3) := by decide +kernel
theorem dX6_readGuest_22 : decode cX6_readGuest 22 = .ok (.getfield 147, 3) := by decide +kernel
theorem dX6_readGuest_25 : decode cX6_readGuest 25 = .ok (.aload_n 0, 1) := by decide +kernel
theorem dX6_readGuest_26 : decode cX6_readGuest 26 = .ok (.getfield 23, 3) := by decide +kernel
theorem dX6_readGuest_29 : decode cX6_readGuest 29 = .ok (.getfield 144, 3) := by decide +kernel
theorem dX6_readGuest_32 : decode cX6_readGuest 32 = .ok (.aaload, 1) := by decide +kernel
theorem dX6_readGuest_33 : decode cX6_readGuest 33 = .ok (.astore_n 1, 1) := by decide +kernel
theorem dX6_readGuest_34 : decode cX6_readGuest 34 = .ok (.aload_n 1, 1) := by decide +kernel
theorem dX6_readGuest_35 : decode cX6_readGuest 35 = .ok (.invokevirtual 151, 3) := by decide +kernel
theorem dX6_readGuest_38 : decode cX6_readGuest 38 = .ok (.aload_n 0, 1) := by decide +kernel
theorem dX6_readGuest_39 : decode cX6_readGuest 39 = .ok (.getfield 19, 3) := by decide +kernel
theorem dX6_readGuest_42 : decode cX6_readGuest 42 = .ok (.invokevirtual 61, 3) := by decide +kernel
theorem dX6_readGuest_45 : decode cX6_readGuest 45 = .ok (.aload_n 0, 1) := by decide +kernel
theorem dX6_readGuest_46 : decode cX6_readGuest 46 = .ok (.iconst 3, 1) := by decide +kernel
theorem dX6_readGuest_47 : decode cX6_readGuest 47 = .ok (.invokevirtual 116, 3) := by decide +kernel
theorem dX6_readGuest_50 : decode cX6_readGuest 50 = .ok (.ifCond .ne 5, 3) := by decide +kernel
theorem dX6_readGuest_53 : decode cX6_readGuest 53 = .ok (.iconst 0, 1) := by decide +kernel
theorem dX6_readGuest_54 : decode cX6_readGuest 54 = .ok (.ireturn, 1) := by decide +kernel
theorem dX6_readGuest_55 : decode cX6_readGuest 55 = .ok (.aload_n 1, 1) := by decide +kernel
theorem dX6_readGuest_56 : decode cX6_readGuest 56 = .ok (.aload_n 0, 1) := by decide +kernel
theorem dX6_readGuest_57 : decode cX6_readGuest 57 = .ok (.getfield 95, 3) := by decide +kernel
theorem dX6_readGuest_60 : decode cX6_readGuest 60 = .ok (.putfield 154, 3) := by decide +kernel
theorem dX6_readGuest_63 : decode cX6_readGuest 63 = .ok (.aload_n 0, 1) := by decide +kernel
theorem dX6_readGuest_64 : decode cX6_readGuest 64 = .ok (.iconst 0, 1) := by decide +kernel
theorem dX6_readGuest_65 : decode cX6_readGuest 65 = .ok (.sipush 3599, 3) := by decide +kernel
theorem dX6_readGuest_68 : decode cX6_readGuest 68 = .ok (.invokevirtual 122, 3) := by decide +kernel
theorem dX6_readGuest_71 : decode cX6_readGuest 71 = .ok (.ifCond .ne 5, 3) := by decide +kernel
theorem dX6_readGuest_74 : decode cX6_readGuest 74 = .ok (.iconst 0, 1) := by decide +kernel
theorem dX6_readGuest_75 : decode cX6_readGuest 75 = .ok (.ireturn, 1) := by decide +kernel
theorem dX6_readGuest_76 : decode cX6_readGuest 76 = .ok (.aload_n 1, 1) := by decide +kernel
theorem dX6_readGuest_77 : decode cX6_readGuest 77 = .ok (.aload_n 0, 1) := by decide +kernel
theorem dX6_readGuest_78 : decode cX6_readGuest 78 = .ok (.getfield 89, 3) := by decide +kernel
theorem dX6_readGuest_81 : decode cX6_readGuest 81 = .ok (.putfield 155, 3) := by decide +kernel
theorem dX6_readGuest_84 : decode cX6_readGuest 84 = .ok (.aload_n 0, 1) := by decide +kernel
theorem dX6_readGuest_85 : decode cX6_readGuest 85 = .ok (.iconst 1, 1) := by decide +kernel
theorem dX6_readGuest_86 : decode cX6_readGuest 86 = .ok (.bipush 20, 2) := by decide +kernel
theorem dX6_readGuest_88 : decode cX6_readGuest 88 = .ok (.invokevirtual 122, 3) := by decide +kernel
theorem dX6_readGuest_91 : decode cX6_readGuest 91 = .ok (.ifCond .ne 5, 3) := by decide +kernel
theorem dX6_readGuest_94 : decode cX6_readGuest 94 = .ok (.iconst 0, 1) := by decide +kernel
theorem dX6_readGuest_95 : decode cX6_readGuest 95 = .ok (.ireturn, 1) := by decide +kernel
theorem dX6_readGuest_96 : decode cX6_readGuest 96 = .ok (.aload_n 1, 1) := by decide +kernel
theorem dX6_readGuest_97 : decode cX6_readGuest 97 = .ok (.aload_n 0, 1) := by decide +kernel
theorem dX6_readGuest_98 : decode cX6_readGuest 98 = .ok (.getfield 89, 3) := by decide +kernel
theorem dX6_readGuest_101 : decode cX6_readGuest 101 = .ok (.putfield 158, 3) := by decide +kernel
theorem dX6_readGuest_104 : decode cX6_readGuest 104 = .ok (.iconst 0, 1) := by decide +kernel
theorem dX6_readGuest_105 : decode cX6_readGuest 105 = .ok (.istore_n 2, 1) := by decide +kernel
theorem dX6_readGuest_106 : decode cX6_readGuest 106 = .ok (.iload_n 2, 1) := by decide +kernel
theorem dX6_readGuest_107 : decode cX6_readGuest 107 = .ok (.iconst 5, 1) := by decide +kernel
theorem dX6_readGuest_108 : decode cX6_readGuest 108 = .ok (.if_icmp .gt 69, 3) := by decide +kernel
theorem dX6_readGuest_111 : decode cX6_readGuest 111 = .ok (.aload_n 0, 1) := by decide +kernel
theorem dX6_readGuest_112 : decode cX6_readGuest 112 = .ok (.getfield 19, 3) := by decide +kernel
theorem dX6_readGuest_115 : decode cX6_readGuest 115 = .ok (.getfield 51, 3) := by decide +kernel
theorem dX6_readGuest_118 : decode cX6_readGuest 118 = .ok (.iconst 4, 1) := by decide +kernel
theorem dX6_readGuest_119 : decode cX6_readGuest 119 = .ok (.if_icmp .ne 58, 3) := by decide +kernel
theorem dX6_readGuest_122 : decode cX6_readGuest 122 = .ok (.aload_n 0, 1) := by decide +kernel
theorem dX6_readGuest_123 : decode cX6_readGuest 123 = .ok (.getfield 19, 3) := by decide +kernel
theorem dX6_readGuest_126 : decode cX6_readGuest 126 = .ok (.invokevirtual 61, 3) := by decide +kernel
theorem dX6_readGuest_129 : decode cX6_readGuest 129 = .ok (.aload_n 0, 1) := by decide +kernel
theorem dX6_readGuest_130 : decode cX6_readGuest 130 = .ok (.aload_n 1, 1) := by decide +kernel
theorem dX6_readGuest_131 : decode cX6_readGuest 131 = .ok (.invokevirtual 161, 3) := by decide +kernel
theorem dX6_readGuest_134 : decode cX6_readGuest 134 = .ok (.istore_n 3, 1) := by decide +kernel
theorem dX6_readGuest_135 : decode cX6_readGuest 135 = .ok (.iload_n 3, 1) := by decide +kernel
theorem dX6_readGuest_136 : decode cX6_readGuest 136 = .ok (.iconst (-1), 1) := by decide +kernel
theorem dX6_readGuest_137 : decode cX6_readGuest 137 = .ok (.if_icmp .ne 5, 3) := by decide +kernel
theorem dX6_readGuest_140 : decode cX6_readGuest 140 = .ok (.iconst 0, 1) := by decide +kernel
theorem dX6_readGuest_141 : decode cX6_readGuest 141 = .ok (.ireturn, 1) := by decide +kernel
theorem dX6_readGuest_142 : decode cX6_readGuest 142 = .ok (.aload_n 0, 1) := by decide +kernel
theorem dX6_readGuest_143 : decode cX6_readGuest 143 = .ok (.getfield 19, 3) := by decide +kernel
theorem dX6_readGuest_146 : decode cX6_readGuest 146 = .ok (.invokevirtual 61, 3) := by decide +kernel
theorem dX6_readGuest_149 : decode cX6_readGuest 149 = .ok (.aload_n 0, 1) := by decide +kernel
theorem dX6_readGuest_150 : decode cX6_readGuest 150 = .ok (.iconst 1, 1) := by decide +kernel
theorem dX6_readGuest_151 : decode cX6_readGuest 151 = .ok (.bipush 9, 2) := by decide +kernel
theorem dX6_readGuest_153 : decode cX6_readGuest 153 = .ok (.invokevirtual 122, 3) := by decide +kernel
theorem dX6_readGuest_156 : decode cX6_readGuest 156 = .ok (.ifCond .ne 5, 3) := by decide +kernel
theorem dX6_readGuest_159 : decode cX6_readGuest 159 = .ok (.iconst 0, 1) := by decide +kernel
theorem dX6_readGuest_160 : decode cX6_readGuest 160 = .ok (.ireturn, 1) := by decide +kernel
theorem dX6_readGuest_161 : decode cX6_readGuest 161 = .ok (.aload_n 1, 1) := by decide +kernel
theorem dX6_readGuest_162 : decode cX6_readGuest 162 = .ok (.getfield 165, 3) := by decide +kernel
theorem dX6_readGuest_165 : decode cX6_readGuest 165 = .ok (.iload_n 3, 1) := by decide +kernel
theorem dX6_readGuest_166 : decode cX6_readGuest 166 = .ok (.aload_n 0, 1) := by decide +kernel
theorem dX6_readGuest_167 : decode cX6_readGuest 167 = .ok (.getfield 89, 3) := by decide +kernel
theorem dX6_readGuest_170 : decode cX6_readGuest 170 = .ok (.iastore, 1) := by decide +kernel
theorem dX6_readGuest_171 : decode cX6_readGuest 171 = .ok (.iinc 2 1, 3) := by decide +kernel
theorem dX6_readGuest_174 : decode cX6_readGuest 174 = .ok (.goto (-68), 3) := by decide +kernel
theorem dX6_readGuest_177 : decode cX6_readGuest 177 = .ok (.aload_n 0, 1) := by decide +kernel
theorem dX6_readGuest_178 : decode cX6_readGuest 178 = .ok (.getfield 23, 3) := by decide +kernel
theorem dX6_readGuest_181 : decode cX6_readGuest 181 = .ok (.dup, 1) := by decide +kernel
theorem dX6_readGuest_182 : decode cX6_readGuest 182 = .ok (.getfield 144, 3) := by decide +kernel
theorem dX6_readGuest_185 : decode cX6_readGuest 185 = .ok (.iconst 1, 1) := by decide +kernel
theorem dX6_readGuest_186 : decode cX6_readGuest 186 = .ok (.iadd, 1) := by decide +kernel
theorem dX6_readGuest_187 : decode cX6_readGuest 187 = .ok (.putfield 144, 3) := by decide +kernel
theorem dX6_readGuest_190 : decode cX6_readGuest 190 = .ok (.iconst 1, 1) := by decide +kernel
theorem dX6_readGuest_191 : decode cX6_readGuest 191 = .ok (.ireturn, 1) := by decide +kernel
set_option maxRecDepth 10000 in
theorem vX6_readGuest_0 {κ : eg_K} {d : Nat} (hd : 1 ≤ d) {post : Int32 → eg_H → Prop} (M : eg_H)  (h : (∃ p1 : Nat, p1 < 2 ∧ M.2.2 (6, 0) 1 = (5, p1) ∧ ((M.1 (5, p1) 2) < (9 : Int32) → (vp_in (M.1 (5, p1) 2) 15 ∧ (∀ M4 : eg_H, M4 = (fX0_clear M (15 * p1 + (M.1 (5, p1) 2).toNatClampNeg)) → eCV κ gC mtX9_advance d [vR (9, 0)] M4 (fun M6 => eCI κ gC mtX6_readNewName d [vR (6, 0), vI (3 : Int32)] M6 (fun x8 M9 => ((¬ x8 = 0) → (∀ M12 : eg_H, M12 = (sI M9 (0, 15 * p1 + (M.1 (5, p1) 2).toNatClampNeg) 0 (M9.1 (6, 0) 7)) → eCI κ gC mtX6_readNumber d [vR (6, 0), vI (0 : Int32), vI (3599 : Int32)] M12 (fun x13 M14 => ((¬ x13 = 0) → (∀ M17 : eg_H, M17 = (sI M14 (0, 15 * p1 + (M.1 (5, p1) 2).toNatClampNeg) 1 (M14.1 (6, 0) 6)) → eCI κ gC mtX6_readNumber d [vR (6, 0), vI (1 : Int32), vI (20 : Int32)] M17 (fun x18 M19 => ((¬ x18 = 0) → (∀ M22 : eg_H, M22 = (sI M19 (0, 15 * p1 + (M.1 (5, p1) 2).toNatClampNeg) 2 (M19.1 (6, 0) 6)) → eg_W κ gC mtX6_readGuest d (eQI κ gC post) 106 [(0, vR (6, 0)), (1, vR (0, 15 * p1 + (M.1 (5, p1) 2).toNatClampNeg)), (2, vI (0 : Int32))] [] M22)) ∧ (x18 = 0 → post (0 : Int32) M19)))) ∧ (x13 = 0 → post (0 : Int32) M14)))) ∧ (x8 = 0 → post (0 : Int32) M9)))))) ∧ ((¬ (M.1 (5, p1) 2) < (9 : Int32)) → (∀ (x24 : Int32) (M23 : eg_H), (x24, M23) = fX6_refuse M (2 : Int32) → post x24 M23)))) : eg_W κ gC mtX6_readGuest d (eQI κ gC post) 0 [(0, vR (6, 0))] [] M := by
  refine eg_aload_n 0 dX6_readGuest_0 rfl rfl ?_
  obtain ⟨p1, hp1, ep1, h⟩ := h
  refine eg_getD dX6_readGuest_1 fl_6_23 rfl rfl (obC_6 z1) ?_ (Or.inr (eg_nne ep1))
  rw [ep1]
  refine eg_getI dX6_readGuest_4 fl_6_144 rfl trivial (obC_5 hp1) ?_
  refine eg_bipush dX6_readGuest_7 bp_9 ?_
  refine eg_icmp_lt (tgt := 18) dX6_readGuest_9 rfl (fun c2 => ?_) (fun c2 => ?_)
  · have h := h.1 c2
    refine eg_aload_n 0 dX6_readGuest_18 rfl rfl ?_
    refine eg_getD dX6_readGuest_19 fl_6_23 rfl rfl (obC_6 z1) ?_ (Or.inr (eg_nne ep1))
    rw [ep1]
    refine eg_getR dX6_readGuest_22 fl_6_147 rfl rfl (obC_5 hp1) ?_
    show eg_W κ gC mtX6_readGuest d (eQI κ gC post) 25 [(0, vR (6, 0))] [vR (31, p1)] M
    refine eg_aload_n 0 dX6_readGuest_25 rfl rfl ?_
    refine eg_getD dX6_readGuest_26 fl_6_23 rfl rfl (obC_6 z1) ?_ (Or.inr (eg_nne ep1))
    rw [ep1]
    refine eg_getI dX6_readGuest_29 fl_6_144 rfl trivial (obC_5 hp1) ?_
    obtain ⟨g3, h⟩ := h
    refine eg_aaload5 dX6_readGuest_32 (arC_31 hp1 g3) ?_
    show eg_W κ gC mtX6_readGuest d (eQI κ gC post) 33 [(0, vR (6, 0))] [vR (0, 15 * p1 + (M.1 (5, p1) 2).toNatClampNeg)] M
    refine eg_astore_n dX6_readGuest_33 rfl (by decide) (ls1 := [(1, vR (0, 15 * p1 + (M.1 (5, p1) 2).toNatClampNeg)), (0, vR (6, 0))]) rfl ?_
    refine eg_aload_n 0 dX6_readGuest_34 rfl rfl ?_
    refine eg_callVV (av := []) (st := []) dX6_readGuest_35 ml_6_151 rfl rfl (obC_0 (ixP15 hp1 g3)) (by decide) rfl (Nat.le_of_ble_eq_true rfl) (eg_dd (by omega)) (sX0_clear (by omega) M (15 * p1 + (M.1 (5, p1) 2).toNatClampNeg) (ixP15 hp1 g3) ) (fun M4 eM4 => ?_)
    have h := h M4 eM4
    refine eg_aload_n 1 dX6_readGuest_38 rfl rfl ?_
    refine eg_getR dX6_readGuest_39 fl_6_19 rfl rfl (obC_6 z1) ?_
    show eg_W κ gC mtX6_readGuest d (eQI κ gC post) 42 [(1, vR (0, 15 * p1 + (M.1 (5, p1) 2).toNatClampNeg)), (0, vR (6, 0))] [vR (9, 0)] M4
    obtain ⟨q7, hq7, h⟩ := h
    refine eg_callVV (av := []) (st := []) dX6_readGuest_42 ml_6_61 rfl rfl (obC_9 z1) (by decide) rfl (Nat.le_of_ble_eq_true rfl) (eg_dd (by omega)) hq7 (fun M6 hp => ?_)
    have h := h M6 hp
    refine eg_aload_n 1 dX6_readGuest_45 rfl rfl ?_
    refine eg_iconst dX6_readGuest_46 ic_3 ?_
    obtain ⟨q10, hq10, h⟩ := h
    refine eg_callVI (av := [vI (3 : Int32)]) (st := []) dX6_readGuest_47 ml_6_116 rfl rfl (obC_6 z1) (by decide) rfl (Nat.le_of_ble_eq_true rfl) (eg_dd (by omega)) hq10 (fun x8 M9 hp => ?_)
    have h := h x8 M9 hp
    refine eg_if_ne (tgt := 55) dX6_readGuest_50 rfl (fun c11 => ?_) (fun c11 => ?_)
    · have h := h.1 c11
      refine eg_aload_n 0 dX6_readGuest_55 rfl rfl ?_
      refine eg_aload_n 1 dX6_readGuest_56 rfl rfl ?_
      refine eg_getI dX6_readGuest_57 fl_6_95 rfl trivial (obC_6 z1) ?_
      refine en_putI dX6_readGuest_60 fl_6_154 rfl rfl (obC_0 (ixP15 hp1 g3)) (fun M12 eM12 => ?_)
      have h := h M12 eM12
      refine eg_aload_n 1 dX6_readGuest_63 rfl rfl ?_
      refine eg_iconst dX6_readGuest_64 ic_0 ?_
      refine eg_sipush dX6_readGuest_65 sp_3599 ?_
      obtain ⟨q15, hq15, h⟩ := h
      refine eg_callVI (av := [vI (0 : Int32), vI (3599 : Int32)]) (st := []) dX6_readGuest_68 ml_6_122 rfl rfl (obC_6 z1) (by decide) rfl (Nat.le_of_ble_eq_true rfl) (eg_dd (by omega)) hq15 (fun x13 M14 hp => ?_)
      have h := h x13 M14 hp
      refine eg_if_ne (tgt := 76) dX6_readGuest_71 rfl (fun c16 => ?_) (fun c16 => ?_)
      · have h := h.1 c16
        refine eg_aload_n 0 dX6_readGuest_76 rfl rfl ?_
        refine eg_aload_n 1 dX6_readGuest_77 rfl rfl ?_
        refine eg_getI dX6_readGuest_78 fl_6_89 rfl trivial (obC_6 z1) ?_
        refine en_putI dX6_readGuest_81 fl_6_155 rfl rfl (obC_0 (ixP15 hp1 g3)) (fun M17 eM17 => ?_)
        have h := h M17 eM17
        refine eg_aload_n 1 dX6_readGuest_84 rfl rfl ?_
        refine eg_iconst dX6_readGuest_85 ic_1 ?_
        refine eg_bipush dX6_readGuest_86 bp_20 ?_
        obtain ⟨q20, hq20, h⟩ := h
        refine eg_callVI (av := [vI (1 : Int32), vI (20 : Int32)]) (st := []) dX6_readGuest_88 ml_6_122 rfl rfl (obC_6 z1) (by decide) rfl (Nat.le_of_ble_eq_true rfl) (eg_dd (by omega)) hq20 (fun x18 M19 hp => ?_)
        have h := h x18 M19 hp
        refine eg_if_ne (tgt := 96) dX6_readGuest_91 rfl (fun c21 => ?_) (fun c21 => ?_)
        · have h := h.1 c21
          refine eg_aload_n 0 dX6_readGuest_96 rfl rfl ?_
          refine eg_aload_n 1 dX6_readGuest_97 rfl rfl ?_
          refine eg_getI dX6_readGuest_98 fl_6_89 rfl trivial (obC_6 z1) ?_
          refine en_putI dX6_readGuest_101 fl_6_158 rfl rfl (obC_0 (ixP15 hp1 g3)) (fun M22 eM22 => ?_)
          have h := h M22 eM22
          refine eg_iconst dX6_readGuest_104 ic_0 ?_
          refine eg_istore_n dX6_readGuest_105 rfl (by decide) (ls1 := [(2, vI (0 : Int32)), (1, vR (0, 15 * p1 + (M.1 (5, p1) 2).toNatClampNeg)), (0, vR (6, 0))]) rfl ?_
          refine eg_sub [2, 1, 0] rfl ?_
          exact h
        · have h := h.2 c21
          refine eg_iconst dX6_readGuest_94 ic_0 ?_
          exact eg_zreturn dX6_readGuest_95 rfl (Or.inl rfl) h
      · have h := h.2 c16
        refine eg_iconst dX6_readGuest_74 ic_0 ?_
        exact eg_zreturn dX6_readGuest_75 rfl (Or.inl rfl) h
    · have h := h.2 c11
      refine eg_iconst dX6_readGuest_53 ic_0 ?_
      exact eg_zreturn dX6_readGuest_54 rfl (Or.inl rfl) h
  · have h := h.2 c2
    refine eg_aload_n 0 dX6_readGuest_12 rfl rfl ?_
    refine eg_iconst dX6_readGuest_13 ic_2 ?_
    refine eg_callVI (av := [vI (2 : Int32)]) (st := []) dX6_readGuest_14 ml_6_57 rfl rfl (obC_6 z1) (by decide) rfl (Nat.le_of_ble_eq_true rfl) (eg_dd (by omega)) (sX6_refuse (by omega) M (2 : Int32)  ) (fun x24 M23 eM23 => ?_)
    have h := h x24 M23 eM23
    exact eg_zreturn dX6_readGuest_17 rfl (show x24 = 0 ∨ x24 = 1 from by rw [show x24 = _ from congrArg Prod.fst eM23]; exact zX6_refuse M (2 : Int32)) h
set_option maxRecDepth 10000 in
theorem vX6_readGuest_106 {κ : eg_K} {d : Nat} (hd : 1 ≤ d) {post : Int32 → eg_H → Prop} (M : eg_H) {l1 : Nat} (hl1 : l1 < 30) (l2 : Int32) (h : ((5 : Int32) < l2 → (∃ p2 : Nat, p2 < 2 ∧ M.2.2 (6, 0) 1 = (5, p2) ∧ (∀ M3 : eg_H, M3 = (sI M (5, p2) 2 ((M.1 (5, p2) 2) + (1 : Int32))) → post (1 : Int32) M3))) ∧ ((¬ (5 : Int32) < l2) → ((¬ (M.1 (9, 0) 4) = (4 : Int32)) → (∃ p5 : Nat, p5 < 2 ∧ M.2.2 (6, 0) 1 = (5, p5) ∧ (∀ M6 : eg_H, M6 = (sI M (5, p5) 2 ((M.1 (5, p5) 2) + (1 : Int32))) → post (1 : Int32) M6))) ∧ ((M.1 (9, 0) 4) = (4 : Int32) → eCV κ gC mtX9_advance d [vR (9, 0)] M (fun M7 => eCI κ gC mtX6_wantedStation d [vR (6, 0), vR (0, l1)] M7 (fun x9 M10 => ((¬ x9 = (-1 : Int32)) → eCV κ gC mtX9_advance d [vR (9, 0)] M10 (fun M13 => eCI κ gC mtX6_readNumber d [vR (6, 0), vI (1 : Int32), vI (9 : Int32)] M13 (fun x15 M16 => ((¬ x15 = 0) → (vp_in x9 5 ∧ (∀ M20 : eg_H, M20 = (sI M16 (20, l1) x9.toNatClampNeg (M16.1 (6, 0) 6)) → (∀ x21 : Int32, x21 = (l2 + (1 : Int32)) → eg_W κ gC mtX6_readGuest d (eQI κ gC post) 106 [(0, vR (6, 0)), (1, vR (0, l1)), (2, vI x21)] [] M20)))) ∧ (x15 = 0 → post (0 : Int32) M16)))) ∧ (x9 = (-1 : Int32) → post (0 : Int32) M10)))))) : eg_W κ gC mtX6_readGuest d (eQI κ gC post) 106 [(0, vR (6, 0)), (1, vR (0, l1)), (2, vI l2)] [] M := by
  refine eg_iload_n 2 dX6_readGuest_106 rfl rfl ?_
  refine eg_iconst dX6_readGuest_107 ic_5 ?_
  refine eg_icmp_gt (tgt := 177) dX6_readGuest_108 rfl (fun c1 => ?_) (fun c1 => ?_)
  · have h := h.1 c1
    refine eg_aload_n 0 dX6_readGuest_177 rfl rfl ?_
    obtain ⟨p2, hp2, ep2, h⟩ := h
    refine eg_getD dX6_readGuest_178 fl_6_23 rfl rfl (obC_6 z1) ?_ (Or.inr (eg_nne ep2))
    rw [ep2]
    refine eg_dup dX6_readGuest_181 rfl ?_
    refine eg_getI dX6_readGuest_182 fl_6_144 rfl trivial (obC_5 hp2) ?_
    refine eg_iconst dX6_readGuest_185 ic_1 ?_
    refine eg_iadd dX6_readGuest_186 ?_
    refine en_putI dX6_readGuest_187 fl_6_144 rfl rfl (obC_5 hp2) (fun M3 eM3 => ?_)
    have h := h M3 eM3
    refine eg_iconst dX6_readGuest_190 ic_1 ?_
    exact eg_zreturn dX6_readGuest_191 rfl (Or.inr rfl) h
  · have h := h.2 c1
    refine eg_aload_n 0 dX6_readGuest_111 rfl rfl ?_
    refine eg_getR dX6_readGuest_112 fl_6_19 rfl rfl (obC_6 z1) ?_
    show eg_W κ gC mtX6_readGuest d (eQI κ gC post) 115 [(0, vR (6, 0)), (1, vR (0, l1)), (2, vI l2)] [vR (9, 0)] M
    refine eg_getI dX6_readGuest_115 fl_6_51 rfl trivial (obC_9 z1) ?_
    refine eg_iconst dX6_readGuest_118 ic_4 ?_
    refine eg_icmp_ne (tgt := 177) dX6_readGuest_119 rfl (fun c4 => ?_) (fun c4 => ?_)
    · have h := h.1 c4
      refine eg_aload_n 0 dX6_readGuest_177 rfl rfl ?_
      obtain ⟨p5, hp5, ep5, h⟩ := h
      refine eg_getD dX6_readGuest_178 fl_6_23 rfl rfl (obC_6 z1) ?_ (Or.inr (eg_nne ep5))
      rw [ep5]
      refine eg_dup dX6_readGuest_181 rfl ?_
      refine eg_getI dX6_readGuest_182 fl_6_144 rfl trivial (obC_5 hp5) ?_
      refine eg_iconst dX6_readGuest_185 ic_1 ?_
      refine eg_iadd dX6_readGuest_186 ?_
      refine en_putI dX6_readGuest_187 fl_6_144 rfl rfl (obC_5 hp5) (fun M6 eM6 => ?_)
      have h := h M6 eM6
      refine eg_iconst dX6_readGuest_190 ic_1 ?_
      exact eg_zreturn dX6_readGuest_191 rfl (Or.inr rfl) h
    · have h := h.2 c4
      refine eg_aload_n 0 dX6_readGuest_122 rfl rfl ?_
      refine eg_getR dX6_readGuest_123 fl_6_19 rfl rfl (obC_6 z1) ?_
      show eg_W κ gC mtX6_readGuest d (eQI κ gC post) 126 [(0, vR (6, 0)), (1, vR (0, l1)), (2, vI l2)] [vR (9, 0)] M
      obtain ⟨q8, hq8, h⟩ := h
      refine eg_callVV (av := []) (st := []) dX6_readGuest_126 ml_6_61 rfl rfl (obC_9 z1) (by decide) rfl (Nat.le_of_ble_eq_true rfl) (eg_dd (by omega)) hq8 (fun M7 hp => ?_)
      have h := h M7 hp
      refine eg_aload_n 0 dX6_readGuest_129 rfl rfl ?_
      refine eg_aload_n 1 dX6_readGuest_130 rfl rfl ?_
      obtain ⟨q11, hq11, h⟩ := h
      refine eg_callVI (av := [vR (0, l1)]) (st := []) dX6_readGuest_131 ml_6_161 rfl rfl (obC_6 z1) (by decide) rfl (Nat.le_of_ble_eq_true rfl) (eg_dd (by omega)) hq11 (fun x9 M10 hp => ?_)
      have h := h x9 M10 hp
      refine eg_istore_n dX6_readGuest_134 rfl (by decide) (ls1 := [(3, vI x9), (0, vR (6, 0)), (1, vR (0, l1)), (2, vI l2)]) rfl ?_
      refine eg_iload_n 0 dX6_readGuest_135 rfl rfl ?_
      refine eg_iconst dX6_readGuest_136 ic_m1 ?_
      refine eg_icmp_ne (tgt := 142) dX6_readGuest_137 rfl (fun c12 => ?_) (fun c12 => ?_)
      · have h := h.1 c12
        refine eg_aload_n 1 dX6_readGuest_142 rfl rfl ?_
        refine eg_getR dX6_readGuest_143 fl_6_19 rfl rfl (obC_6 z1) ?_
        show eg_W κ gC mtX6_readGuest d (eQI κ gC post) 146 [(3, vI x9), (0, vR (6, 0)), (1, vR (0, l1)), (2, vI l2)] [vR (9, 0)] M10
        obtain ⟨q14, hq14, h⟩ := h
        refine eg_callVV (av := []) (st := []) dX6_readGuest_146 ml_6_61 rfl rfl (obC_9 z1) (by decide) rfl (Nat.le_of_ble_eq_true rfl) (eg_dd (by omega)) hq14 (fun M13 hp => ?_)
        have h := h M13 hp
        refine eg_aload_n 1 dX6_readGuest_149 rfl rfl ?_
        refine eg_iconst dX6_readGuest_150 ic_1 ?_
        refine eg_bipush dX6_readGuest_151 bp_9 ?_
        obtain ⟨q17, hq17, h⟩ := h
        refine eg_callVI (av := [vI (1 : Int32), vI (9 : Int32)]) (st := []) dX6_readGuest_153 ml_6_122 rfl rfl (obC_6 z1) (by decide) rfl (Nat.le_of_ble_eq_true rfl) (eg_dd (by omega)) hq17 (fun x15 M16 hp => ?_)
        have h := h x15 M16 hp
        refine eg_if_ne (tgt := 161) dX6_readGuest_156 rfl (fun c18 => ?_) (fun c18 => ?_)
        · have h := h.1 c18
          refine eg_aload_n 2 dX6_readGuest_161 rfl rfl ?_
          refine eg_getR dX6_readGuest_162 fl_6_165 rfl rfl (obC_0 hl1) ?_
          show eg_W κ gC mtX6_readGuest d (eQI κ gC post) 165 [(3, vI x9), (0, vR (6, 0)), (1, vR (0, l1)), (2, vI l2)] [vR (20, l1)] M16
          refine eg_iload_n 0 dX6_readGuest_165 rfl rfl ?_
          refine eg_aload_n 1 dX6_readGuest_166 rfl rfl ?_
          refine eg_getI dX6_readGuest_167 fl_6_89 rfl trivial (obC_6 z1) ?_
          obtain ⟨g19, h⟩ := h
          refine en_iastore dX6_readGuest_170 (arC_20 hl1 g19) (fun M20 eM20 => ?_)
          have h := h M20 eM20
          refine en_iinc (f := fun x21 => [(2, vI x21), (3, vI x9), (0, vR (6, 0)), (1, vR (0, l1))]) 3 dX6_readGuest_171 rfl rfl (by decide) rfl (fun x21 ex21 => ?_)
          have h := h x21 ex21
          refine eg_goto (tgt := 106) dX6_readGuest_174 rfl ?_
          refine eg_sub [2, 3, 0] rfl ?_
          exact h
        · have h := h.2 c18
          refine eg_iconst dX6_readGuest_159 ic_0 ?_
          exact eg_zreturn dX6_readGuest_160 rfl (Or.inl rfl) h
      · have h := h.2 c12
        refine eg_iconst dX6_readGuest_140 ic_0 ?_
        exact eg_zreturn dX6_readGuest_141 rfl (Or.inl rfl) h
theorem dX6_wantedStation_0 : decode cX6_wantedStation 0 = .ok (.aload_n 0, 1) := by decide +kernel
theorem dX6_wantedStation_1 : decode cX6_wantedStation 1 = .ok (.getfield 19, 3) := by decide +kernel
theorem dX6_wantedStation_4 : decode cX6_wantedStation 4 = .ok (.getfield 51, 3) := by decide +kernel
theorem dX6_wantedStation_7 : decode cX6_wantedStation 7 = .ok (.bipush 38, 2) := by decide +kernel
theorem dX6_wantedStation_9 : decode cX6_wantedStation 9 = .ok (.if_icmp .eq 11, 3) := by decide +kernel
theorem dX6_wantedStation_12 : decode cX6_wantedStation 12 = .ok (.aload_n 0, 1) := by decide +kernel
theorem dX6_wantedStation_13 : decode cX6_wantedStation 13 = .ok (.iconst 1, 1) := by decide +kernel
theorem dX6_wantedStation_14 : decode cX6_wantedStation 14 = .ok (.invokevirtual 57, 3) := by decide +kernel
theorem dX6_wantedStation_17 : decode cX6_wantedStation 17 = .ok (.pop, 1) := by decide +kernel
theorem dX6_wantedStation_18 : decode cX6_wantedStation 18 = .ok (.iconst (-1), 1) := by decide +kernel
theorem dX6_wantedStation_19 : decode cX6_wantedStation 19 = .ok (.ireturn, 1) := by decide +kernel
theorem dX6_wantedStation_20 : decode cX6_wantedStation 20 = .ok (.aload_n 0, 1) := by decide +kernel
theorem dX6_wantedStation_21 : decode cX6_wantedStation 21 = .ok (.getfield 23, 3) := by decide +kernel
theorem dX6_wantedStation_24 : decode cX6_wantedStation 24 = .ok (.aload_n 0, 1) := by decide +kernel
theorem dX6_wantedStation_25 : decode cX6_wantedStation 25 = .ok (.getfield 19, 3) := by decide +kernel
theorem dX6_wantedStation_28 : decode cX6_wantedStation 28 = .ok (.getfield 92, 3) := by decide +kernel
theorem dX6_wantedStation_31 : decode cX6_wantedStation 31 = .ok (.invokevirtual 96, 3) := by decide +kernel
theorem dX6_wantedStation_34 : decode cX6_wantedStation 34 = .ok (.istore_n 2, 1) := by decide +kernel
theorem dX6_wantedStation_35 : decode cX6_wantedStation 35 = .ok (.iload_n 2, 1) := by decide +kernel
theorem dX6_wantedStation_36 : decode cX6_wantedStation 36 = .ok (.iconst (-1), 1) := by decide +kernel
theorem dX6_wantedStation_37 : decode cX6_wantedStation 37 = .ok (.if_icmp .ne 11, 3) := by decide +kernel
theorem dX6_wantedStation_40 : decode cX6_wantedStation 40 = .ok (.aload_n 0, 1) := by decide +kernel
theorem dX6_wantedStation_41 : decode cX6_wantedStation 41 = .ok (.iconst 4, 1) := by decide +kernel
theorem dX6_wantedStation_42 : decode cX6_wantedStation 42 = .ok (.invokevirtual 57, 3) := by decide +kernel
theorem dX6_wantedStation_45 : decode cX6_wantedStation 45 = .ok (.pop, 1) := by decide +kernel
theorem dX6_wantedStation_46 : decode cX6_wantedStation 46 = .ok (.iconst (-1), 1) := by decide +kernel
theorem dX6_wantedStation_47 : decode cX6_wantedStation 47 = .ok (.ireturn, 1) := by decide +kernel
theorem dX6_wantedStation_48 : decode cX6_wantedStation 48 = .ok (.aload_n 1, 1) := by decide +kernel
theorem dX6_wantedStation_49 : decode cX6_wantedStation 49 = .ok (.getfield 165, 3) := by decide +kernel
theorem dX6_wantedStation_52 : decode cX6_wantedStation 52 = .ok (.iload_n 2, 1) := by decide +kernel
theorem dX6_wantedStation_53 : decode cX6_wantedStation 53 = .ok (.iaload, 1) := by decide +kernel
theorem dX6_wantedStation_54 : decode cX6_wantedStation 54 = .ok (.ifCond .le 11, 3) := by decide +kernel
theorem dX6_wantedStation_57 : decode cX6_wantedStation 57 = .ok (.aload_n 0, 1) := by decide +kernel
theorem dX6_wantedStation_58 : decode cX6_wantedStation 58 = .ok (.iconst 3, 1) := by decide +kernel
theorem dX6_wantedStation_59 : decode cX6_wantedStation 59 = .ok (.invokevirtual 57, 3) := by decide +kernel
theorem dX6_wantedStation_62 : decode cX6_wantedStation 62 = .ok (.pop, 1) := by decide +kernel
theorem dX6_wantedStation_63 : decode cX6_wantedStation 63 = .ok (.iconst (-1), 1) := by decide +kernel
theorem dX6_wantedStation_64 : decode cX6_wantedStation 64 = .ok (.ireturn, 1) := by decide +kernel
theorem dX6_wantedStation_65 : decode cX6_wantedStation 65 = .ok (.iload_n 2, 1) := by decide +kernel
theorem dX6_wantedStation_66 : decode cX6_wantedStation 66 = .ok (.ireturn, 1) := by decide +kernel
set_option maxRecDepth 10000 in
theorem vX6_wantedStation_0 {κ : eg_K} {d : Nat} (hd : 1 ≤ d) {post : Int32 → eg_H → Prop} (M : eg_H) {l1 : Nat} (hl1 : l1 < 30) (h : ((M.1 (9, 0) 4) = (38 : Int32) → (∃ p2 : Nat, p2 < 2 ∧ M.2.2 (6, 0) 1 = (5, p2) ∧ (gX5_stationOf M p2 (M.1 (9, 0) 6) ∧ (∀ x5 : Int32, x5 = (fX5_stationOf M p2 (M.1 (9, 0) 6)) → ((¬ x5 = (-1 : Int32)) → (vp_in x5 5 ∧ ((M.1 (20, l1) x5.toNatClampNeg) ≤ 0 → post x5 M) ∧ ((¬ (M.1 (20, l1) x5.toNatClampNeg) ≤ 0) → (∀ (x10 : Int32) (M9 : eg_H), (x10, M9) = fX6_refuse M (3 : Int32) → post (-1 : Int32) M9)))) ∧ (x5 = (-1 : Int32) → (∀ (x12 : Int32) (M11 : eg_H), (x12, M11) = fX6_refuse M (4 : Int32) → post (-1 : Int32) M11)))))) ∧ ((¬ (M.1 (9, 0) 4) = (38 : Int32)) → (∀ (x14 : Int32) (M13 : eg_H), (x14, M13) = fX6_refuse M (1 : Int32) → post (-1 : Int32) M13))) : eg_W κ gC mtX6_wantedStation d (eQI κ gC post) 0 [(0, vR (6, 0)), (1, vR (0, l1))] [] M := by
  refine eg_aload_n 0 dX6_wantedStation_0 rfl rfl ?_
  refine eg_getR dX6_wantedStation_1 fl_6_19 rfl rfl (obC_6 z1) ?_
  show eg_W κ gC mtX6_wantedStation d (eQI κ gC post) 4 [(0, vR (6, 0)), (1, vR (0, l1))] [vR (9, 0)] M
  refine eg_getI dX6_wantedStation_4 fl_6_51 rfl trivial (obC_9 z1) ?_
  refine eg_bipush dX6_wantedStation_7 bp_38 ?_
  refine eg_icmp_eq (tgt := 20) dX6_wantedStation_9 rfl (fun c1 => ?_) (fun c1 => ?_)
  · have h := h.1 c1
    refine eg_aload_n 0 dX6_wantedStation_20 rfl rfl ?_
    obtain ⟨p2, hp2, ep2, h⟩ := h
    refine eg_getD dX6_wantedStation_21 fl_6_23 rfl rfl (obC_6 z1) ?_ (Or.inr (eg_nne ep2))
    rw [ep2]
    refine eg_aload_n 0 dX6_wantedStation_24 rfl rfl ?_
    refine eg_getR dX6_wantedStation_25 fl_6_19 rfl rfl (obC_6 z1) ?_
    show eg_W κ gC mtX6_wantedStation d (eQI κ gC post) 28 [(0, vR (6, 0)), (1, vR (0, l1))] [vR (9, 0), vR (5, p2)] M
    refine eg_getI dX6_wantedStation_28 fl_6_92 rfl trivial (obC_9 z1) ?_
    obtain ⟨g3, h⟩ := h
    refine eg_callVI (av := [vI (M.1 (9, 0) 6)]) (st := []) dX6_wantedStation_31 ml_6_96 rfl rfl (obC_5 hp2) (by decide) rfl (Nat.le_of_ble_eq_true rfl) (eg_dd (by omega)) (sX5_stationOf (by omega) M p2 (M.1 (9, 0) 6) hp2 g3) (fun x5 M4 hp => ?_)
    obtain ⟨ex5, eM4⟩ := hp
    rw [eM4]
    have h := h x5 ex5
    refine eg_istore_n dX6_wantedStation_34 rfl (by decide) (ls1 := [(2, vI x5), (0, vR (6, 0)), (1, vR (0, l1))]) rfl ?_
    refine eg_iload_n 0 dX6_wantedStation_35 rfl rfl ?_
    refine eg_iconst dX6_wantedStation_36 ic_m1 ?_
    refine eg_icmp_ne (tgt := 48) dX6_wantedStation_37 rfl (fun c6 => ?_) (fun c6 => ?_)
    · have h := h.1 c6
      refine eg_aload_n 2 dX6_wantedStation_48 rfl rfl ?_
      refine eg_getR dX6_wantedStation_49 fl_6_165 rfl rfl (obC_0 hl1) ?_
      show eg_W κ gC mtX6_wantedStation d (eQI κ gC post) 52 [(2, vI x5), (0, vR (6, 0)), (1, vR (0, l1))] [vR (20, l1)] M
      refine eg_iload_n 0 dX6_wantedStation_52 rfl rfl ?_
      obtain ⟨g7, h⟩ := h
      refine eg_iaload dX6_wantedStation_53 (arC_20 hl1 g7) ?_
      refine eg_if_le (tgt := 65) dX6_wantedStation_54 rfl (fun c8 => ?_) (fun c8 => ?_)
      · have h := h.1 c8
        refine eg_iload_n 0 dX6_wantedStation_65 rfl rfl ?_
        exact eg_ireturn dX6_wantedStation_66 rfl h
      · have h := h.2 c8
        refine eg_aload_n 1 dX6_wantedStation_57 rfl rfl ?_
        refine eg_iconst dX6_wantedStation_58 ic_3 ?_
        refine eg_callVI (av := [vI (3 : Int32)]) (st := []) dX6_wantedStation_59 ml_6_57 rfl rfl (obC_6 z1) (by decide) rfl (Nat.le_of_ble_eq_true rfl) (eg_dd (by omega)) (sX6_refuse (by omega) M (3 : Int32)  ) (fun x10 M9 eM9 => ?_)
        have h := h x10 M9 eM9
        refine eg_pop dX6_wantedStation_62 rfl ?_
        refine eg_iconst dX6_wantedStation_63 ic_m1 ?_
        exact eg_ireturn dX6_wantedStation_64 rfl h
    · have h := h.2 c6
      refine eg_aload_n 1 dX6_wantedStation_40 rfl rfl ?_
      refine eg_iconst dX6_wantedStation_41 ic_4 ?_
      refine eg_callVI (av := [vI (4 : Int32)]) (st := []) dX6_wantedStation_42 ml_6_57 rfl rfl (obC_6 z1) (by decide) rfl (Nat.le_of_ble_eq_true rfl) (eg_dd (by omega)) (sX6_refuse (by omega) M (4 : Int32)  ) (fun x12 M11 eM11 => ?_)
      have h := h x12 M11 eM11
      refine eg_pop dX6_wantedStation_45 rfl ?_
      refine eg_iconst dX6_wantedStation_46 ic_m1 ?_
      exact eg_ireturn dX6_wantedStation_47 rfl h
  · have h := h.2 c1
    refine eg_aload_n 0 dX6_wantedStation_12 rfl rfl ?_
    refine eg_iconst dX6_wantedStation_13 ic_1 ?_
    refine eg_callVI (av := [vI (1 : Int32)]) (st := []) dX6_wantedStation_14 ml_6_57 rfl rfl (obC_6 z1) (by decide) rfl (Nat.le_of_ble_eq_true rfl) (eg_dd (by omega)) (sX6_refuse (by omega) M (1 : Int32)  ) (fun x14 M13 eM13 => ?_)
    have h := h x14 M13 eM13
    refine eg_pop dX6_wantedStation_17 rfl ?_
    refine eg_iconst dX6_wantedStation_18 ic_m1 ?_
    exact eg_ireturn dX6_wantedStation_19 rfl h
theorem dX6_readPass_0 : decode cX6_readPass 0 = .ok (.aload_n 0, 1) := by decide +kernel
theorem dX6_readPass_1 : decode cX6_readPass 1 = .ok (.getfield 23, 3) := by decide +kernel
theorem dX6_readPass_4 : decode cX6_readPass 4 = .ok (.getfield 168, 3) := by decide +kernel
theorem dX6_readPass_7 : decode cX6_readPass 7 = .ok (.ifCond .eq 9, 3) := by decide +kernel
theorem dX6_readPass_10 : decode cX6_readPass 10 = .ok (.aload_n 0, 1) := by decide +kernel
theorem dX6_readPass_11 : decode cX6_readPass 11 = .ok (.iconst 3, 1) := by decide +kernel
theorem dX6_readPass_12 : decode cX6_readPass 12 = .ok (.invokevirtual 57, 3) := by decide +kernel
theorem dX6_readPass_15 : decode cX6_readPass 15 = .ok (.ireturn, 1) := by decide +kernel
theorem dX6_readPass_16 : decode cX6_readPass 16 = .ok (.aload_n 0, 1) := by decide +kernel
theorem dX6_readPass_17 : decode cX6_readPass 17 = .ok (.getfield 23, 3) := by decide +kernel
theorem dX6_readPass_20 : decode cX6_readPass 20 = .ok (.iconst 1, 1) := by decide +kernel
theorem dX6_readPass_21 : decode cX6_readPass 21 = .ok (.putfield 168, 3) := by decide +kernel
theorem dX6_readPass_24 : decode cX6_readPass 24 = .ok (.aload_n 0, 1) := by decide +kernel
theorem dX6_readPass_25 : decode cX6_readPass 25 = .ok (.getfield 19, 3) := by decide +kernel
theorem dX6_readPass_28 : decode cX6_readPass 28 = .ok (.invokevirtual 61, 3) := by decide +kernel
theorem dX6_readPass_31 : decode cX6_readPass 31 = .ok (.iconst 1, 1) := by decide +kernel
theorem dX6_readPass_32 : decode cX6_readPass 32 = .ok (.ireturn, 1) := by decide +kernel
set_option maxRecDepth 10000 in
theorem vX6_readPass_0 {κ : eg_K} {d : Nat} (hd : 1 ≤ d) {post : Int32 → eg_H → Prop} (M : eg_H)  (h : (∃ p1 : Nat, p1 < 2 ∧ M.2.2 (6, 0) 1 = (5, p1) ∧ ((M.1 (5, p1) 4) = 0 → (∀ M3 : eg_H, M3 = (sI M (5, p1) 4 (1 : Int32)) → eCV κ gC mtX9_advance d [vR (9, 0)] M3 (fun M4 => post (1 : Int32) M4))) ∧ ((¬ (M.1 (5, p1) 4) = 0) → (∀ (x7 : Int32) (M6 : eg_H), (x7, M6) = fX6_refuse M (3 : Int32) → post x7 M6)))) : eg_W κ gC mtX6_readPass d (eQI κ gC post) 0 [(0, vR (6, 0))] [] M := by
  refine eg_aload_n 0 dX6_readPass_0 rfl rfl ?_
  obtain ⟨p1, hp1, ep1, h⟩ := h
  refine eg_getD dX6_readPass_1 fl_6_23 rfl rfl (obC_6 z1) ?_ (Or.inr (eg_nne ep1))
  rw [ep1]
  refine eg_getI dX6_readPass_4 fl_6_168 rfl trivial (obC_5 hp1) ?_
  refine eg_if_eq (tgt := 16) dX6_readPass_7 rfl (fun c2 => ?_) (fun c2 => ?_)
  · have h := h.1 c2
    refine eg_aload_n 0 dX6_readPass_16 rfl rfl ?_
    refine eg_getD dX6_readPass_17 fl_6_23 rfl rfl (obC_6 z1) ?_ (Or.inr (eg_nne ep1))
    rw [ep1]
    refine eg_iconst dX6_readPass_20 ic_1 ?_
    refine en_putZ dX6_readPass_21 fl_6_168 rfl rfl (Or.inr rfl) (obC_5 hp1) (fun M3 eM3 => ?_)
    have h := h M3 eM3
    refine eg_aload_n 0 dX6_readPass_24 rfl rfl ?_
    refine eg_getR dX6_readPass_25 fl_6_19 rfl rfl (obC_6 z1) ?_
    show eg_W κ gC mtX6_readPass d (eQI κ gC post) 28 [(0, vR (6, 0))] [vR (9, 0)] M3
    obtain ⟨q5, hq5, h⟩ := h
    refine eg_callVV (av := []) (st := []) dX6_readPass_28 ml_6_61 rfl rfl (obC_9 z1) (by decide) rfl (Nat.le_of_ble_eq_true rfl) (eg_dd (by omega)) hq5 (fun M4 hp => ?_)
    have h := h M4 hp
    refine eg_iconst dX6_readPass_31 ic_1 ?_
    exact eg_zreturn dX6_readPass_32 rfl (Or.inr rfl) h
  · have h := h.2 c2
    refine eg_aload_n 0 dX6_readPass_10 rfl rfl ?_
    refine eg_iconst dX6_readPass_11 ic_3 ?_
    refine eg_callVI (av := [vI (3 : Int32)]) (st := []) dX6_readPass_12 ml_6_57 rfl rfl (obC_6 z1) (by decide) rfl (Nat.le_of_ble_eq_true rfl) (eg_dd (by omega)) (sX6_refuse (by omega) M (3 : Int32)  ) (fun x7 M6 eM6 => ?_)
    have h := h x7 M6 eM6
    exact eg_zreturn dX6_readPass_15 rfl (show x7 = 0 ∨ x7 = 1 from by rw [show x7 = _ from congrArg Prod.fst eM6]; exact zX6_refuse M (3 : Int32)) h
theorem dX6_readAgain_0 : decode cX6_readAgain 0 = .ok (.aload_n 0, 1) := by decide +kernel
theorem dX6_readAgain_1 : decode cX6_readAgain 1 = .ok (.getfield 23, 3) := by decide +kernel
theorem dX6_readAgain_4 : decode cX6_readAgain 4 = .ok (.getfield 171, 3) := by decide +kernel
theorem dX6_readAgain_7 : decode cX6_readAgain 7 = .ok (.ifCond .le 9, 3) := by decide +kernel
theorem dX6_readAgain_10 : decode cX6_readAgain 10 = .ok (.aload_n 0, 1) := by decide +kernel
theorem dX6_readAgain_11 : decode cX6_readAgain 11 = .ok (.iconst 3, 1) := by decide +kernel
theorem dX6_readAgain_12 : decode cX6_readAgain 12 = .ok (.invokevirtual 57, 3) := by decide +kernel
theorem dX6_readAgain_15 : decode cX6_readAgain 15 = .ok (.ireturn, 1) := by decide +kernel
theorem dX6_readAgain_16 : decode cX6_readAgain 16 = .ok (.aload_n 0, 1) := by decide +kernel
theorem dX6_readAgain_17 : decode cX6_readAgain 17 = .ok (.getfield 19, 3) := by decide +kernel
theorem dX6_readAgain_20 : decode cX6_readAgain 20 = .ok (.invokevirtual 61, 3) := by decide +kernel
theorem dX6_readAgain_23 : decode cX6_readAgain 23 = .ok (.aload_n 0, 1) := by decide +kernel
theorem dX6_readAgain_24 : decode cX6_readAgain 24 = .ok (.iconst 1, 1) := by decide +kernel
theorem dX6_readAgain_25 : decode cX6_readAgain 25 = .ok (.sipush 1800, 3) := by decide +kernel
theorem dX6_readAgain_28 : decode cX6_readAgain 28 = .ok (.invokevirtual 122, 3) := by decide +kernel
theorem dX6_readAgain_31 : decode cX6_readAgain 31 = .ok (.ifCond .ne 5, 3) := by decide +kernel
theorem dX6_readAgain_34 : decode cX6_readAgain 34 = .ok (.iconst 0, 1) := by decide +kernel
theorem dX6_readAgain_35 : decode cX6_readAgain 35 = .ok (.ireturn, 1) := by decide +kernel
theorem dX6_readAgain_36 : decode cX6_readAgain 36 = .ok (.aload_n 0, 1) := by decide +kernel
theorem dX6_readAgain_37 : decode cX6_readAgain 37 = .ok (.getfield 23, 3) := by decide +kernel
theorem dX6_readAgain_40 : decode cX6_readAgain 40 = .ok (.aload_n 0, 1) := by decide +kernel
theorem dX6_readAgain_41 : decode cX6_readAgain 41 = .ok (.getfield 89, 3) := by decide +kernel
theorem dX6_readAgain_44 : decode cX6_readAgain 44 = .ok (.putfield 171, 3) := by decide +kernel
theorem dX6_readAgain_47 : decode cX6_readAgain 47 = .ok (.iconst 1, 1) := by decide +kernel
theorem dX6_readAgain_48 : decode cX6_readAgain 48 = .ok (.ireturn, 1) := by decide +kernel
set_option maxRecDepth 10000 in
theorem vX6_readAgain_0 {κ : eg_K} {d : Nat} (hd : 1 ≤ d) {post : Int32 → eg_H → Prop} (M : eg_H)  (h : (∃ p1 : Nat, p1 < 2 ∧ M.2.2 (6, 0) 1 = (5, p1) ∧ ((M.1 (5, p1) 5) ≤ 0 → eCV κ gC mtX9_advance d [vR (9, 0)] M (fun M3 => eCI κ gC mtX6_readNumber d [vR (6, 0), vI (1 : Int32), vI (1800 : Int32)] M3 (fun x5 M6 => ((¬ x5 = 0) → (∃ p9 : Nat, p9 < 2 ∧ M6.2.2 (6, 0) 1 = (5, p9) ∧ (∀ M10 : eg_H, M10 = (sI M6 (5, p9) 5 (M6.1 (6, 0) 6)) → post (1 : Int32) M10))) ∧ (x5 = 0 → post (0 : Int32) M6)))) ∧ ((¬ (M.1 (5, p1) 5) ≤ 0) → (∀ (x12 : Int32) (M11 : eg_H), (x12, M11) = fX6_refuse M (3 : Int32) → post x12 M11)))) : eg_W κ gC mtX6_readAgain d (eQI κ gC post) 0 [(0, vR (6, 0))] [] M := by
  refine eg_aload_n 0 dX6_readAgain_0 rfl rfl ?_
  obtain ⟨p1, hp1, ep1, h⟩ := h
  refine eg_getD dX6_readAgain_1 fl_6_23 rfl rfl (obC_6 z1) ?_ (Or.inr (eg_nne ep1))
  rw [ep1]
  refine eg_getI dX6_readAgain_4 fl_6_171 rfl trivial (obC_5 hp1) ?_
  refine eg_if_le (tgt := 16) dX6_readAgain_7 rfl (fun c2 => ?_) (fun c2 => ?_)
  · have h := h.1 c2
    refine eg_aload_n 0 dX6_readAgain_16 rfl rfl ?_
    refine eg_getR dX6_readAgain_17 fl_6_19 rfl rfl (obC_6 z1) ?_
    show eg_W κ gC mtX6_readAgain d (eQI κ gC post) 20 [(0, vR (6, 0))] [vR (9, 0)] M
    obtain ⟨q4, hq4, h⟩ := h
    refine eg_callVV (av := []) (st := []) dX6_readAgain_20 ml_6_61 rfl rfl (obC_9 z1) (by decide) rfl (Nat.le_of_ble_eq_true rfl) (eg_dd (by omega)) hq4 (fun M3 hp => ?_)
    have h := h M3 hp
    refine eg_aload_n 0 dX6_readAgain_23 rfl rfl ?_
    refine eg_iconst dX6_readAgain_24 ic_1 ?_
    refine eg_sipush dX6_readAgain_25 sp_1800 ?_
    obtain ⟨q7, hq7, h⟩ := h
    refine eg_callVI (av := [vI (1 : Int32), vI (1800 : Int32)]) (st := []) dX6_readAgain_28 ml_6_122 rfl rfl (obC_6 z1) (by decide) rfl (Nat.le_of_ble_eq_true rfl) (eg_dd (by omega)) hq7 (fun x5 M6 hp => ?_)
    have h := h x5 M6 hp
    refine eg_if_ne (tgt := 36) dX6_readAgain_31 rfl (fun c8 => ?_) (fun c8 => ?_)
    · have h := h.1 c8
      refine eg_aload_n 0 dX6_readAgain_36 rfl rfl ?_
      obtain ⟨p9, hp9, ep9, h⟩ := h
      refine eg_getD dX6_readAgain_37 fl_6_23 rfl rfl (obC_6 z1) ?_ (Or.inr (eg_nne ep9))
      rw [ep9]
      refine eg_aload_n 0 dX6_readAgain_40 rfl rfl ?_
      refine eg_getI dX6_readAgain_41 fl_6_89 rfl trivial (obC_6 z1) ?_
      refine en_putI dX6_readAgain_44 fl_6_171 rfl rfl (obC_5 hp9) (fun M10 eM10 => ?_)
      have h := h M10 eM10
      refine eg_iconst dX6_readAgain_47 ic_1 ?_
      exact eg_zreturn dX6_readAgain_48 rfl (Or.inr rfl) h
    · have h := h.2 c8
      refine eg_iconst dX6_readAgain_34 ic_0 ?_
      exact eg_zreturn dX6_readAgain_35 rfl (Or.inl rfl) h
  · have h := h.2 c2
    refine eg_aload_n 0 dX6_readAgain_10 rfl rfl ?_
    refine eg_iconst dX6_readAgain_11 ic_3 ?_
    refine eg_callVI (av := [vI (3 : Int32)]) (st := []) dX6_readAgain_12 ml_6_57 rfl rfl (obC_6 z1) (by decide) rfl (Nat.le_of_ble_eq_true rfl) (eg_dd (by omega)) (sX6_refuse (by omega) M (3 : Int32)  ) (fun x12 M11 eM11 => ?_)
    have h := h x12 M11 eM11
    exact eg_zreturn dX6_readAgain_15 rfl (show x12 = 0 ∨ x12 = 1 from by rw [show x12 = _ from congrArg Prod.fst eM11]; exact zX6_refuse M (3 : Int32)) h
theorem dX6_readClose_0 : decode cX6_readClose 0 = .ok (.aload_n 0, 1) := by decide +kernel
theorem dX6_readClose_1 : decode cX6_readClose 1 = .ok (.getfield 41, 3) := by decide +kernel
theorem dX6_readClose_4 : decode cX6_readClose 4 = .ok (.ifCond .eq 9, 3) := by decide +kernel
theorem dX6_readClose_7 : decode cX6_readClose 7 = .ok (.aload_n 0, 1) := by decide +kernel
theorem dX6_readClose_8 : decode cX6_readClose 8 = .ok (.iconst 3, 1) := by decide +kernel
theorem dX6_readClose_9 : decode cX6_readClose 9 = .ok (.invokevirtual 57, 3) := by decide +kernel
theorem dX6_readClose_12 : decode cX6_readClose 12 = .ok (.ireturn, 1) := by decide +kernel
theorem dX6_readClose_13 : decode cX6_readClose 13 = .ok (.aload_n 0, 1) := by decide +kernel
theorem dX6_readClose_14 : decode cX6_readClose 14 = .ok (.getfield 19, 3) := by decide +kernel
theorem dX6_readClose_17 : decode cX6_readClose 17 = .ok (.invokevirtual 61, 3) := by decide +kernel
theorem dX6_readClose_20 : decode cX6_readClose 20 = .ok (.aload_n 0, 1) := by decide +kernel
theorem dX6_readClose_21 : decode cX6_readClose 21 = .ok (.iconst 0, 1) := by decide +kernel
theorem dX6_readClose_22 : decode cX6_readClose 22 = .ok (.sipush 3600, 3) := by decide +kernel
theorem dX6_readClose_25 : decode cX6_readClose 25 = .ok (.invokevirtual 122, 3) := by decide +kernel
theorem dX6_readClose_28 : decode cX6_readClose 28 = .ok (.ifCond .ne 5, 3) := by decide +kernel
theorem dX6_readClose_31 : decode cX6_readClose 31 = .ok (.iconst 0, 1) := by decide +kernel
theorem dX6_readClose_32 : decode cX6_readClose 32 = .ok (.ireturn, 1) := by decide +kernel
theorem dX6_readClose_33 : decode cX6_readClose 33 = .ok (.aload_n 0, 1) := by decide +kernel
theorem dX6_readClose_34 : decode cX6_readClose 34 = .ok (.getfield 23, 3) := by decide +kernel
theorem dX6_readClose_37 : decode cX6_readClose 37 = .ok (.aload_n 0, 1) := by decide +kernel
theorem dX6_readClose_38 : decode cX6_readClose 38 = .ok (.getfield 89, 3) := by decide +kernel
theorem dX6_readClose_41 : decode cX6_readClose 41 = .ok (.putfield 174, 3) := by decide +kernel
theorem dX6_readClose_44 : decode cX6_readClose 44 = .ok (.aload_n 0, 1) := by decide +kernel
theorem dX6_readClose_45 : decode cX6_readClose 45 = .ok (.iconst 1, 1) := by decide +kernel
theorem dX6_readClose_46 : decode cX6_readClose 46 = .ok (.putfield 41, 3) := by decide +kernel
theorem dX6_readClose_49 : decode cX6_readClose 49 = .ok (.iconst 1, 1) := by decide +kernel
theorem dX6_readClose_50 : decode cX6_readClose 50 = .ok (.ireturn, 1) := by decide +kernel
set_option maxRecDepth 10000 in
theorem vX6_readClose_0 {κ : eg_K} {d : Nat} (hd : 1 ≤ d) {post : Int32 → eg_H → Prop} (M : eg_H)  (h : ((M.1 (6, 0) 5) = 0 → eCV κ gC mtX9_advance d [vR (9, 0)] M (fun M2 => eCI κ gC mtX6_readNumber d [vR (6, 0), vI (0 : Int32), vI (3600 : Int32)] M2 (fun x4 M5 => ((¬ x4 = 0) → (∃ p8 : Nat, p8 < 2 ∧ M5.2.2 (6, 0) 1 = (5, p8) ∧ (∀ M9 : eg_H, M9 = (sI M5 (5, p8) 6 (M5.1 (6, 0) 6)) → (∀ M10 : eg_H, M10 = (sI M9 (6, 0) 5 (1 : Int32)) → post (1 : Int32) M10)))) ∧ (x4 = 0 → post (0 : Int32) M5)))) ∧ ((¬ (M.1 (6, 0) 5) = 0) → (∀ (x12 : Int32) (M11 : eg_H), (x12, M11) = fX6_refuse M (3 : Int32) → post x12 M11))) : eg_W κ gC mtX6_readClose d (eQI κ gC post) 0 [(0, vR (6, 0))] [] M := by
  refine eg_aload_n 0 dX6_readClose_0 rfl rfl ?_
  refine eg_getI dX6_readClose_1 fl_6_41 rfl trivial (obC_6 z1) ?_
  refine eg_if_eq (tgt := 13) dX6_readClose_4 rfl (fun c1 => ?_) (fun c1 => ?_)
  · have h := h.1 c1
    refine eg_aload_n 0 dX6_readClose_13 rfl rfl ?_
    refine eg_getR dX6_readClose_14 fl_6_19 rfl rfl (obC_6 z1) ?_
    show eg_W κ gC mtX6_readClose d (eQI κ gC post) 17 [(0, vR (6, 0))] [vR (9, 0)] M
    obtain ⟨q3, hq3, h⟩ := h
    refine eg_callVV (av := []) (st := []) dX6_readClose_17 ml_6_61 rfl rfl (obC_9 z1) (by decide) rfl (Nat.le_of_ble_eq_true rfl) (eg_dd (by omega)) hq3 (fun M2 hp => ?_)
    have h := h M2 hp
    refine eg_aload_n 0 dX6_readClose_20 rfl rfl ?_
    refine eg_iconst dX6_readClose_21 ic_0 ?_
    refine eg_sipush dX6_readClose_22 sp_3600 ?_
    obtain ⟨q6, hq6, h⟩ := h
    refine eg_callVI (av := [vI (0 : Int32), vI (3600 : Int32)]) (st := []) dX6_readClose_25 ml_6_122 rfl rfl (obC_6 z1) (by decide) rfl (Nat.le_of_ble_eq_true rfl) (eg_dd (by omega)) hq6 (fun x4 M5 hp => ?_)
    have h := h x4 M5 hp
    refine eg_if_ne (tgt := 33) dX6_readClose_28 rfl (fun c7 => ?_) (fun c7 => ?_)
    · have h := h.1 c7
      refine eg_aload_n 0 dX6_readClose_33 rfl rfl ?_
      obtain ⟨p8, hp8, ep8, h⟩ := h
      refine eg_getD dX6_readClose_34 fl_6_23 rfl rfl (obC_6 z1) ?_ (Or.inr (eg_nne ep8))
      rw [ep8]
      refine eg_aload_n 0 dX6_readClose_37 rfl rfl ?_
      refine eg_getI dX6_readClose_38 fl_6_89 rfl trivial (obC_6 z1) ?_
      refine en_putI dX6_readClose_41 fl_6_174 rfl rfl (obC_5 hp8) (fun M9 eM9 => ?_)
      have h := h M9 eM9
      refine eg_aload_n 0 dX6_readClose_44 rfl rfl ?_
      refine eg_iconst dX6_readClose_45 ic_1 ?_
      refine en_putZ dX6_readClose_46 fl_6_41 rfl rfl (Or.inr rfl) (obC_6 z1) (fun M10 eM10 => ?_)
      have h := h M10 eM10
      refine eg_iconst dX6_readClose_49 ic_1 ?_
      exact eg_zreturn dX6_readClose_50 rfl (Or.inr rfl) h
    · have h := h.2 c7
      refine eg_iconst dX6_readClose_31 ic_0 ?_
      exact eg_zreturn dX6_readClose_32 rfl (Or.inl rfl) h
  · have h := h.2 c1
    refine eg_aload_n 0 dX6_readClose_7 rfl rfl ?_
    refine eg_iconst dX6_readClose_8 ic_3 ?_
    refine eg_callVI (av := [vI (3 : Int32)]) (st := []) dX6_readClose_9 ml_6_57 rfl rfl (obC_6 z1) (by decide) rfl (Nat.le_of_ble_eq_true rfl) (eg_dd (by omega)) (sX6_refuse (by omega) M (3 : Int32)  ) (fun x12 M11 eM11 => ?_)
    have h := h x12 M11 eM11
    exact eg_zreturn dX6_readClose_12 rfl (show x12 = 0 ∨ x12 = 1 from by rw [show x12 = _ from congrArg Prod.fst eM11]; exact zX6_refuse M (3 : Int32)) h
theorem dX6_readLaw_0 : decode cX6_readLaw 0 = .ok (.aload_n 0, 1) := by decide +kernel
theorem dX6_readLaw_1 : decode cX6_readLaw 1 = .ok (.getfield 19, 3) := by decide +kernel
theorem dX6_readLaw_4 : decode cX6_readLaw 4 = .ok (.invokevirtual 61, 3) := by decide +kernel
theorem dX6_readLaw_7 : decode cX6_readLaw 7 = .ok (.aload_n 0, 1) := by decide +kernel
theorem dX6_readLaw_8 : decode cX6_readLaw 8 = .ok (.getfield 19, 3) := by decide +kernel
theorem dX6_readLaw_11 : decode cX6_readLaw 11 = .ok (.getfield 51, 3) := by decide +kernel
theorem dX6_readLaw_14 : decode cX6_readLaw 14 = .ok (.bipush 10, 2) := by decide +kernel
theorem dX6_readLaw_16 : decode cX6_readLaw 16 = .ok (.isub, 1) := by decide +kernel
theorem dX6_readLaw_17 : decode cX6_readLaw 17 = .ok (.istore_n 1, 1) := by decide +kernel
theorem dX6_readLaw_18 : decode cX6_readLaw 18 = .ok (.iload_n 1, 1) := by decide +kernel
theorem dX6_readLaw_19 : decode cX6_readLaw 19 = .ok (.ifCond .lt 8, 3) := by decide +kernel
theorem dX6_readLaw_22 : decode cX6_readLaw 22 = .ok (.iload_n 1, 1) := by decide +kernel
theorem dX6_readLaw_23 : decode cX6_readLaw 23 = .ok (.iconst 3, 1) := by decide +kernel
theorem dX6_readLaw_24 : decode cX6_readLaw 24 = .ok (.if_icmp .lt 9, 3) := by decide +kernel
theorem dX6_readLaw_27 : decode cX6_readLaw 27 = .ok (.aload_n 0, 1) := by decide +kernel
theorem dX6_readLaw_28 : decode cX6_readLaw 28 = .ok (.iconst 1, 1) := by decide +kernel
theorem dX6_readLaw_29 : decode cX6_readLaw 29 = .ok (.invokevirtual 57, 3) := by decide +kernel
theorem dX6_readLaw_32 : decode cX6_readLaw 32 = .ok (.ireturn, 1) := by decide +kernel
theorem dX6_readLaw_33 : decode cX6_readLaw 33 = .ok (.aload_n 0, 1) := by decide +kernel
theorem dX6_readLaw_34 : decode cX6_readLaw 34 = .ok (.getfield 23, 3) := by decide +kernel
theorem dX6_readLaw_37 : decode cX6_readLaw 37 = .ok (.getfield 177, 3) := by decide +kernel
theorem dX6_readLaw_40 : decode cX6_readLaw 40 = .ok (.iload_n 1, 1) := by decide +kernel
theorem dX6_readLaw_41 : decode cX6_readLaw 41 = .ok (.iaload, 1) := by decide +kernel
theorem dX6_readLaw_42 : decode cX6_readLaw 42 = .ok (.iconst (-1), 1) := by decide +kernel
theorem dX6_readLaw_43 : decode cX6_readLaw 43 = .ok (.if_icmp .eq 9, 3) := by decide +kernel
theorem dX6_readLaw_46 : decode cX6_readLaw 46 = .ok (.aload_n 0, 1) := by decide +kernel
theorem dX6_readLaw_47 : decode cX6_readLaw 47 = .ok (.iconst 3, 1) := by decide +kernel
theorem dX6_readLaw_48 : decode cX6_readLaw 48 = .ok (.invokevirtual 57, 3) := by decide +kernel
theorem dX6_readLaw_51 : decode cX6_readLaw 51 = .ok (.ireturn, 1) := by decide +kernel
theorem dX6_readLaw_52 : decode cX6_readLaw 52 = .ok (.aload_n 0, 1) := by decide +kernel
theorem dX6_readLaw_53 : decode cX6_readLaw 53 = .ok (.getfield 19, 3) := by decide +kernel
theorem dX6_readLaw_56 : decode cX6_readLaw 56 = .ok (.invokevirtual 61, 3) := by decide +kernel
theorem dX6_readLaw_59 : decode cX6_readLaw 59 = .ok (.aload_n 0, 1) := by decide +kernel
theorem dX6_readLaw_60 : decode cX6_readLaw 60 = .ok (.getfield 23, 3) := by decide +kernel
theorem dX6_readLaw_63 : decode cX6_readLaw 63 = .ok (.getfield 180, 3) := by decide +kernel
theorem dX6_readLaw_66 : decode cX6_readLaw 66 = .ok (.getfield 184, 3) := by decide +kernel
theorem dX6_readLaw_69 : decode cX6_readLaw 69 = .ok (.istore_n 2, 1) := by decide +kernel
theorem dX6_readLaw_70 : decode cX6_readLaw 70 = .ok (.aload_n 0, 1) := by decide +kernel
theorem dX6_readLaw_71 : decode cX6_readLaw 71 = .ok (.invokevirtual 187, 3) := by decide +kernel
theorem dX6_readLaw_74 : decode cX6_readLaw 74 = .ok (.ifCond .ne 5, 3) := by decide +kernel
theorem dX6_readLaw_77 : decode cX6_readLaw 77 = .ok (.iconst 0, 1) := by decide +kernel
theorem dX6_readLaw_78 : decode cX6_readLaw 78 = .ok (.ireturn, 1) := by decide +kernel
theorem dX6_readLaw_79 : decode cX6_readLaw 79 = .ok (.aload_n 0, 1) := by decide +kernel
theorem dX6_readLaw_80 : decode cX6_readLaw 80 = .ok (.getfield 23, 3) := by decide +kernel
theorem dX6_readLaw_83 : decode cX6_readLaw 83 = .ok (.getfield 177, 3) := by decide +kernel
theorem dX6_readLaw_86 : decode cX6_readLaw 86 = .ok (.iload_n 1, 1) := by decide +kernel
theorem dX6_readLaw_87 : decode cX6_readLaw 87 = .ok (.aload_n 0, 1) := by decide +kernel
theorem dX6_readLaw_88 : decode cX6_readLaw 88 = .ok (.getfield 23, 3) := by decide +kernel
theorem dX6_readLaw_91 : decode cX6_readLaw 91 = .ok (.getfield 180, 3) := by decide +kernel
theorem dX6_readLaw_94 : decode cX6_readLaw 94 = .ok (.iload_n 2, 1) := by decide +kernel
theorem dX6_readLaw_95 : decode cX6_readLaw 95 = .ok (.invokevirtual 190, 3) := by decide +kernel
theorem dX6_readLaw_98 : decode cX6_readLaw 98 = .ok (.iastore, 1) := by decide +kernel
theorem dX6_readLaw_99 : decode cX6_readLaw 99 = .ok (.iconst 1, 1) := by decide +kernel
theorem dX6_readLaw_100 : decode cX6_readLaw 100 = .ok (.ireturn, 1) := by decide +kernel
set_option maxRecDepth 10000 in
theorem vX6_readLaw_0 {κ : eg_K} {d : Nat} (hd : 1 ≤ d) {post : Int32 → eg_H → Prop} (M : eg_H)  (h : eCV κ gC mtX9_advance d [vR (9, 0)] M (fun M1 => (∀ x3 : Int32, x3 = ((M1.1 (9, 0) 4) - (10 : Int32)) → (x3 < 0 → (∀ (x6 : Int32) (M5 : eg_H), (x6, M5) = fX6_refuse M1 (1 : Int32) → post x6 M5)) ∧ ((¬ x3 < 0) → (x3 < (3 : Int32) → (∃ p8 : Nat, p8 < 2 ∧ M1.2.2 (6, 0) 1 = (5, p8) ∧ (vp_in x3 3 ∧ ((M1.1 (35, p8) x3.toNatClampNeg) = (-1 : Int32) → eCV κ gC mtX9_advance d [vR (9, 0)] M1 (fun M11 => (∃ p13 : Nat, p13 < 2 ∧ M11.2.2 (6, 0) 1 = (5, p13) ∧ (∀ x14 : Int32, x14 = (M11.1 (3, p13) 3) → eCI κ gC mtX6_readExpression d [vR (6, 0)] M11 (fun x15 M16 => ((¬ x15 = 0) → (∃ p19 : Nat, p19 < 2 ∧ M16.2.2 (6, 0) 1 = (5, p19) ∧ eCI κ gC mtX3_addLaw d [vR (3, p19), vI x14] M16 (fun x20 M21 => (∀ M23 : eg_H, M23 = (sI M21 (35, p19) x3.toNatClampNeg x20) → post (1 : Int32) M23)))) ∧ (x15 = 0 → post (0 : Int32) M16)))))) ∧ ((¬ (M1.1 (35, p8) x3.toNatClampNeg) = (-1 : Int32)) → (∀ (x25 : Int32) (M24 : eg_H), (x25, M24) = fX6_refuse M1 (3 : Int32) → post x25 M24))))) ∧ ((¬ x3 < (3 : Int32)) → (∀ (x27 : Int32) (M26 : eg_H), (x27, M26) = fX6_refuse M1 (1 : Int32) → post x27 M26)))))) : eg_W κ gC mtX6_readLaw d (eQI κ gC post) 0 [(0, vR (6, 0))] [] M := by
  refine eg_aload_n 0 dX6_readLaw_0 rfl rfl ?_
  refine eg_getR dX6_readLaw_1 fl_6_19 rfl rfl (obC_6 z1) ?_
  show eg_W κ gC mtX6_readLaw d (eQI κ gC post) 4 [(0, vR (6, 0))] [vR (9, 0)] M
  obtain ⟨q2, hq2, h⟩ := h
  refine eg_callVV (av := []) (st := []) dX6_readLaw_4 ml_6_61 rfl rfl (obC_9 z1) (by decide) rfl (Nat.le_of_ble_eq_true rfl) (eg_dd (by omega)) hq2 (fun M1 hp => ?_)
  have h := h M1 hp
  refine eg_aload_n 0 dX6_readLaw_7 rfl rfl ?_
  refine eg_getR dX6_readLaw_8 fl_6_19 rfl rfl (obC_6 z1) ?_
  show eg_W κ gC mtX6_readLaw d (eQI κ gC post) 11 [(0, vR (6, 0))] [vR (9, 0)] M1
  refine eg_getI dX6_readLaw_11 fl_6_51 rfl trivial (obC_9 z1) ?_
  refine eg_bipush dX6_readLaw_14 bp_10 ?_
  refine eg_isub dX6_readLaw_16 ?_
  refine en_istore_n (f := fun x3 => [(1, vI x3), (0, vR (6, 0))]) dX6_readLaw_17 rfl (by decide) rfl (fun x3 ex3 => ?_)
  have h := h x3 ex3
  refine eg_iload_n 0 dX6_readLaw_18 rfl rfl ?_
  refine eg_if_lt (tgt := 27) dX6_readLaw_19 rfl (fun c4 => ?_) (fun c4 => ?_)
  · have h := h.1 c4
    refine eg_aload_n 1 dX6_readLaw_27 rfl rfl ?_
    refine eg_iconst dX6_readLaw_28 ic_1 ?_
    refine eg_callVI (av := [vI (1 : Int32)]) (st := []) dX6_readLaw_29 ml_6_57 rfl rfl (obC_6 z1) (by decide) rfl (Nat.le_of_ble_eq_true rfl) (eg_dd (by omega)) (sX6_refuse (by omega) M1 (1 : Int32)  ) (fun x6 M5 eM5 => ?_)
    have h := h x6 M5 eM5
    exact eg_zreturn dX6_readLaw_32 rfl (show x6 = 0 ∨ x6 = 1 from by rw [show x6 = _ from congrArg Prod.fst eM5]; exact zX6_refuse M1 (1 : Int32)) h
  · have h := h.2 c4
    refine eg_iload_n 0 dX6_readLaw_22 rfl rfl ?_
    refine eg_iconst dX6_readLaw_23 ic_3 ?_
    refine eg_icmp_lt (tgt := 33) dX6_readLaw_24 rfl (fun c7 => ?_) (fun c7 => ?_)
    · have h := h.1 c7
      refine eg_aload_n 1 dX6_readLaw_33 rfl rfl ?_
      obtain ⟨p8, hp8, ep8, h⟩ := h
      refine eg_getD dX6_readLaw_34 fl_6_23 rfl rfl (obC_6 z1) ?_ (Or.inr (eg_nne ep8))
      rw [ep8]
      refine eg_getR dX6_readLaw_37 fl_6_177 rfl rfl (obC_5 hp8) ?_
      show eg_W κ gC mtX6_readLaw d (eQI κ gC post) 40 [(1, vI x3), (0, vR (6, 0))] [vR (35, p8)] M1
      refine eg_iload_n 0 dX6_readLaw_40 rfl rfl ?_
      obtain ⟨g9, h⟩ := h
      refine eg_iaload dX6_readLaw_41 (arC_35 hp8 g9) ?_
      refine eg_iconst dX6_readLaw_42 ic_m1 ?_
      refine eg_icmp_eq (tgt := 52) dX6_readLaw_43 rfl (fun c10 => ?_) (fun c10 => ?_)
      · have h := h.1 c10
        refine eg_aload_n 1 dX6_readLaw_52 rfl rfl ?_
        refine eg_getR dX6_readLaw_53 fl_6_19 rfl rfl (obC_6 z1) ?_
        show eg_W κ gC mtX6_readLaw d (eQI κ gC post) 56 [(1, vI x3), (0, vR (6, 0))] [vR (9, 0)] M1
        obtain ⟨q12, hq12, h⟩ := h
        refine eg_callVV (av := []) (st := []) dX6_readLaw_56 ml_6_61 rfl rfl (obC_9 z1) (by decide) rfl (Nat.le_of_ble_eq_true rfl) (eg_dd (by omega)) hq12 (fun M11 hp => ?_)
        have h := h M11 hp
        refine eg_aload_n 1 dX6_readLaw_59 rfl rfl ?_
        obtain ⟨p13, hp13, ep13, h⟩ := h
        refine eg_getD dX6_readLaw_60 fl_6_23 rfl rfl (obC_6 z1) ?_ (Or.inr (eg_nne ep13))
        rw [ep13]
        refine eg_getR dX6_readLaw_63 fl_6_180 rfl rfl (obC_5 hp13) ?_
        show eg_W κ gC mtX6_readLaw d (eQI κ gC post) 66 [(1, vI x3), (0, vR (6, 0))] [vR (3, p13)] M11
        refine eg_getI dX6_readLaw_66 fl_6_184 rfl trivial (obC_3 hp13) ?_
        refine en_istore_n (f := fun x14 => [(2, vI x14), (1, vI x3), (0, vR (6, 0))]) dX6_readLaw_69 rfl (by decide) rfl (fun x14 ex14 => ?_)
        have h := h x14 ex14
        refine eg_aload_n 2 dX6_readLaw_70 rfl rfl ?_
        obtain ⟨q17, hq17, h⟩ := h
        refine eg_callVI (av := []) (st := []) dX6_readLaw_71 ml_6_187 rfl rfl (obC_6 z1) (by decide) rfl (Nat.le_of_ble_eq_true rfl) (eg_dd (by omega)) hq17 (fun x15 M16 hp => ?_)
        have h := h x15 M16 hp
        refine eg_if_ne (tgt := 79) dX6_readLaw_74 rfl (fun c18 => ?_) (fun c18 => ?_)
        · have h := h.1 c18
          refine eg_aload_n 2 dX6_readLaw_79 rfl rfl ?_
          obtain ⟨p19, hp19, ep19, h⟩ := h
          refine eg_getD dX6_readLaw_80 fl_6_23 rfl rfl (obC_6 z1) ?_ (Or.inr (eg_nne ep19))
          rw [ep19]
          refine eg_getR dX6_readLaw_83 fl_6_177 rfl rfl (obC_5 hp19) ?_
          show eg_W κ gC mtX6_readLaw d (eQI κ gC post) 86 [(2, vI x14), (1, vI x3), (0, vR (6, 0))] [vR (35, p19)] M16
          refine eg_iload_n 1 dX6_readLaw_86 rfl rfl ?_
          refine eg_aload_n 2 dX6_readLaw_87 rfl rfl ?_
          refine eg_getD dX6_readLaw_88 fl_6_23 rfl rfl (obC_6 z1) ?_ (Or.inr (eg_nne ep19))
          rw [ep19]
          refine eg_getR dX6_readLaw_91 fl_6_180 rfl rfl (obC_5 hp19) ?_
          show eg_W κ gC mtX6_readLaw d (eQI κ gC post) 94 [(2, vI x14), (1, vI x3), (0, vR (6, 0))] [vR (3, p19), vI x3, vR (35, p19)] M16
          refine eg_iload_n 0 dX6_readLaw_94 rfl rfl ?_
          obtain ⟨q22, hq22, h⟩ := h
          refine eg_callVI (av := [vI x14]) (st := [vI x3, vR (35, p19)]) dX6_readLaw_95 ml_6_190 rfl rfl (obC_3 hp19) (by decide) rfl (Nat.le_of_ble_eq_true rfl) (eg_dd (by omega)) hq22 (fun x20 M21 hp => ?_)
          have h := h x20 M21 hp
          refine en_iastore dX6_readLaw_98 (arC_35 hp19 g9) (fun M23 eM23 => ?_)
          have h := h M23 eM23
          refine eg_iconst dX6_readLaw_99 ic_1 ?_
          exact eg_zreturn dX6_readLaw_100 rfl (Or.inr rfl) h
        · have h := h.2 c18
          refine eg_iconst dX6_readLaw_77 ic_0 ?_
          exact eg_zreturn dX6_readLaw_78 rfl (Or.inl rfl) h
      · have h := h.2 c10
        refine eg_aload_n 1 dX6_readLaw_46 rfl rfl ?_
        refine eg_iconst dX6_readLaw_47 ic_3 ?_
        refine eg_callVI (av := [vI (3 : Int32)]) (st := []) dX6_readLaw_48 ml_6_57 rfl rfl (obC_6 z1) (by decide) rfl (Nat.le_of_ble_eq_true rfl) (eg_dd (by omega)) (sX6_refuse (by omega) M1 (3 : Int32)  ) (fun x25 M24 eM24 => ?_)
        have h := h x25 M24 eM24
        exact eg_zreturn dX6_readLaw_51 rfl (show x25 = 0 ∨ x25 = 1 from by rw [show x25 = _ from congrArg Prod.fst eM24]; exact zX6_refuse M1 (3 : Int32)) h
    · have h := h.2 c7
      refine eg_aload_n 1 dX6_readLaw_27 rfl rfl ?_
      refine eg_iconst dX6_readLaw_28 ic_1 ?_
      refine eg_callVI (av := [vI (1 : Int32)]) (st := []) dX6_readLaw_29 ml_6_57 rfl rfl (obC_6 z1) (by decide) rfl (Nat.le_of_ble_eq_true rfl) (eg_dd (by omega)) (sX6_refuse (by omega) M1 (1 : Int32)  ) (fun x27 M26 eM26 => ?_)
      have h := h x27 M26 eM26
      exact eg_zreturn dX6_readLaw_32 rfl (show x27 = 0 ∨ x27 = 1 from by rw [show x27 = _ from congrArg Prod.fst eM26]; exact zX6_refuse M1 (1 : Int32)) h
theorem dX6_readMay_0 : decode cX6_readMay 0 = .ok (.aload_n 0, 1) := by decide +kernel
theorem dX6_readMay_1 : decode cX6_readMay 1 = .ok (.getfield 23, 3) := by decide +kernel
theorem dX6_readMay_4 : decode cX6_readMay 4 = .ok (.getfield 193, 3) := by decide +kernel
theorem dX6_readMay_7 : decode cX6_readMay 7 = .ok (.iconst 4, 1) := by decide +kernel
theorem dX6_readMay_8 : decode cX6_readMay 8 = .ok (.if_icmp .lt 9, 3) := by decide +kernel
theorem dX6_readMay_11 : decode cX6_readMay 11 = .ok (.aload_n 0, 1) := by decide +kernel
theorem dX6_readMay_12 : decode cX6_readMay 12 = .ok (.iconst 2, 1) := by decide +kernel
theorem dX6_readMay_13 : decode cX6_readMay 13 = .ok (.invokevirtual 57, 3) := by decide +kernel
theorem dX6_readMay_16 : decode cX6_readMay 16 = .ok (.ireturn, 1) := by decide +kernel
theorem dX6_readMay_17 : decode cX6_readMay 17 = .ok (.aload_n 0, 1) := by decide +kernel
theorem dX6_readMay_18 : decode cX6_readMay 18 = .ok (.getfield 19, 3) := by decide +kernel
theorem dX6_readMay_21 : decode cX6_readMay 21 = .ok (.invokevirtual 61, 3) := by decide +kernel
theorem dX6_readMay_24 : decode cX6_readMay 24 = .ok (.aload_n 0, 1) := by decide +kernel
theorem dX6_readMay_25 : decode cX6_readMay 25 = .ok (.getfield 19, 3) := by decide +kernel
theorem dX6_readMay_28 : decode cX6_readMay 28 = .ok (.getfield 51, 3) := by decide +kernel
theorem dX6_readMay_31 : decode cX6_readMay 31 = .ok (.bipush 10, 2) := by decide +kernel
theorem dX6_readMay_33 : decode cX6_readMay 33 = .ok (.isub, 1) := by decide +kernel
theorem dX6_readMay_34 : decode cX6_readMay 34 = .ok (.istore_n 1, 1) := by decide +kernel
theorem dX6_readMay_35 : decode cX6_readMay 35 = .ok (.iload_n 1, 1) := by decide +kernel
theorem dX6_readMay_36 : decode cX6_readMay 36 = .ok (.ifCond .lt 8, 3) := by decide +kernel
theorem dX6_readMay_39 : decode cX6_readMay 39 = .ok (.iload_n 1, 1) := by decide +kernel
theorem dX6_readMay_40 : decode cX6_readMay 40 = .ok (.iconst 3, 1) := by decide +kernel
theorem dX6_readMay_41 : decode cX6_readMay 41 = .ok (.if_icmp .lt 9, 3) := by decide +kernel
theorem dX6_readMay_44 : decode cX6_readMay 44 = .ok (.aload_n 0, 1) := by decide +kernel
theorem dX6_readMay_45 : decode cX6_readMay 45 = .ok (.iconst 1, 1) := by decide +kernel
theorem dX6_readMay_46 : decode cX6_readMay 46 = .ok (.invokevirtual 57, 3) := by decide +kernel
theorem dX6_readMay_49 : decode cX6_readMay 49 = .ok (.ireturn, 1) := by decide +kernel
theorem dX6_readMay_50 : decode cX6_readMay 50 = .ok (.aload_n 0, 1) := by decide +kernel
theorem dX6_readMay_51 : decode cX6_readMay 51 = .ok (.getfield 19, 3) := by decide +kernel
theorem dX6_readMay_54 : decode cX6_readMay 54 = .ok (.invokevirtual 61, 3) := by decide +kernel
theorem dX6_readMay_57 : decode cX6_readMay 57 = .ok (.aload_n 0, 1) := by decide +kernel
theorem dX6_readMay_58 : decode cX6_readMay 58 = .ok (.bipush 9, 2) := by decide +kernel
theorem dX6_readMay_60 : decode cX6_readMay 60 = .ok (.invokevirtual 116, 3) := by decide +kernel
theorem dX6_readMay_63 : decode cX6_readMay 63 = .ok (.ifCond .ne 5, 3) := by decide +kernel
theorem dX6_readMay_66 : decode cX6_readMay 66 = .ok (.iconst 0, 1) := by decide +kernel
theorem dX6_readMay_67 : decode cX6_readMay 67 = .ok (.ireturn, 1) := by decide +kernel
theorem dX6_readMay_68 : decode cX6_readMay 68 = .ok (.aload_n 0, 1) := by decide +kernel
theorem dX6_readMay_69 : decode cX6_readMay 69 = .ok (.getfield 23, 3) := by decide +kernel
theorem dX6_readMay_72 : decode cX6_readMay 72 = .ok (.getfield 196, 3) := by decide +kernel
theorem dX6_readMay_75 : decode cX6_readMay 75 = .ok (.aload_n 0, 1) := by decide +kernel
theorem dX6_readMay_76 : decode cX6_readMay 76 = .ok (.getfield 23, 3) := by decide +kernel
theorem dX6_readMay_79 : decode cX6_readMay 79 = .ok (.getfield 193, 3) := by decide +kernel
theorem dX6_readMay_82 : decode cX6_readMay 82 = .ok (.aload_n 0, 1) := by decide +kernel
theorem dX6_readMay_83 : decode cX6_readMay 83 = .ok (.getfield 95, 3) := by decide +kernel
theorem dX6_readMay_86 : decode cX6_readMay 86 = .ok (.iastore, 1) := by decide +kernel
theorem dX6_readMay_87 : decode cX6_readMay 87 = .ok (.aload_n 0, 1) := by decide +kernel
theorem dX6_readMay_88 : decode cX6_readMay 88 = .ok (.getfield 23, 3) := by decide +kernel
theorem dX6_readMay_91 : decode cX6_readMay 91 = .ok (.getfield 199, 3) := by decide +kernel
theorem dX6_readMay_94 : decode cX6_readMay 94 = .ok (.aload_n 0, 1) := by decide +kernel
theorem dX6_readMay_95 : decode cX6_readMay 95 = .ok (.getfield 23, 3) := by decide +kernel
theorem dX6_readMay_98 : decode cX6_readMay 98 = .ok (.getfield 193, 3) := by decide +kernel
theorem dX6_readMay_101 : decode cX6_readMay 101 = .ok (.iload_n 1, 1) := by decide +kernel
theorem dX6_readMay_102 : decode cX6_readMay 102 = .ok (.iastore, 1) := by decide +kernel
theorem dX6_readMay_103 : decode cX6_readMay 103 = .ok (.aload_n 0, 1) := by decide +kernel
theorem dX6_readMay_104 : decode cX6_readMay 104 = .ok (.getfield 23, 3) := by decide +kernel
theorem dX6_readMay_107 : decode cX6_readMay 107 = .ok (.getfield 180, 3) := by decide +kernel
theorem dX6_readMay_110 : decode cX6_readMay 110 = .ok (.getfield 184, 3) := by decide +kernel
theorem dX6_readMay_113 : decode cX6_readMay 113 = .ok (.istore_n 2, 1) := by decide +kernel
theorem dX6_readMay_114 : decode cX6_readMay 114 = .ok (.aload_n 0, 1) := by decide +kernel
theorem dX6_readMay_115 : decode cX6_readMay 115 = .ok (.invokevirtual 187, 3) := by decide +kernel
theorem dX6_readMay_118 : decode cX6_readMay 118 = .ok (.ifCond .ne 5, 3) := by decide +kernel
theorem dX6_readMay_121 : decode cX6_readMay 121 = .ok (.iconst 0, 1) := by decide +kernel
theorem dX6_readMay_122 : decode cX6_readMay 122 = .ok (.ireturn, 1) := by decide +kernel
theorem dX6_readMay_123 : decode cX6_readMay 123 = .ok (.aload_n 0, 1) := by decide +kernel
theorem dX6_readMay_124 : decode cX6_readMay 124 = .ok (.getfield 23, 3) := by decide +kernel
theorem dX6_readMay_127 : decode cX6_readMay 127 = .ok (.getfield 202, 3) := by decide +kernel
theorem dX6_readMay_130 : decode cX6_readMay 130 = .ok (.aload_n 0, 1) := by decide +kernel
theorem dX6_readMay_131 : decode cX6_readMay 131 = .ok (.getfield 23, 3) := by decide +kernel
theorem dX6_readMay_134 : decode cX6_readMay 134 = .ok (.getfield 193, 3) := by decide +kernel
theorem dX6_readMay_137 : decode cX6_readMay 137 = .ok (.aload_n 0, 1) := by decide +kernel
theorem dX6_readMay_138 : decode cX6_readMay 138 = .ok (.getfield 23, 3) := by decide +kernel
theorem dX6_readMay_141 : decode cX6_readMay 141 = .ok (.getfield 180, 3) := by decide +kernel
theorem dX6_readMay_144 : decode cX6_readMay 144 = .ok (.iload_n 2, 1) := by decide +kernel
theorem dX6_readMay_145 : decode cX6_readMay 145 = .ok (.invokevirtual 190, 3) := by decide +kernel
theorem dX6_readMay_148 : decode cX6_readMay 148 = .ok (.iastore, 1) := by decide +kernel
theorem dX6_readMay_149 : decode cX6_readMay 149 = .ok (.aload_n 0, 1) := by decide +kernel
theorem dX6_readMay_150 : decode cX6_readMay 150 = .ok (.getfield 23, 3) := by decide +kernel
theorem dX6_readMay_153 : decode cX6_readMay 153 = .ok (.dup, 1) := by decide +kernel
theorem dX6_readMay_154 : decode cX6_readMay 154 = .ok (.getfield 193, 3) := by decide +kernel
theorem dX6_readMay_157 : decode cX6_readMay 157 = .ok (.iconst 1, 1) := by decide +kernel
theorem dX6_readMay_158 : decode cX6_readMay 158 = .ok (.iadd, 1) := by decide +kernel
theorem dX6_readMay_159 : decode cX6_readMay 159 = .ok (.putfield 193, 3) := by decide +kernel
theorem dX6_readMay_162 : decode cX6_readMay 162 = .ok (.iconst 1, 1) := by decide +kernel
theorem dX6_readMay_163 : decode cX6_readMay 163 = .ok (.ireturn, 1) := by decide +kernel
set_option maxRecDepth 10000 in
theorem vX6_readMay_0 {κ : eg_K} {d : Nat} (hd : 1 ≤ d) {post : Int32 → eg_H → Prop} (M : eg_H)  (h : (∃ p1 : Nat, p1 < 2 ∧ M.2.2 (6, 0) 1 = (5, p1) ∧ ((M.1 (5, p1) 7) < (4 : Int32) → eCV κ gC mtX9_advance d [vR (9, 0)] M (fun M3 => (∀ x5 : Int32, x5 = ((M3.1 (9, 0) 4) - (10 : Int32)) → (x5 < 0 → (∀ (x8 : Int32) (M7 : eg_H), (x8, M7) = fX6_refuse M3 (1 : Int32) → post x8 M7)) ∧ ((¬ x5 < 0) → (x5 < (3 : Int32) → eCV κ gC mtX9_advance d [vR (9, 0)] M3 (fun M10 => eCI κ gC mtX6_readNewName d [vR (6, 0), vI (9 : Int32)] M10 (fun x12 M13 => ((¬ x12 = 0) → (∃ p16 : Nat, p16 < 2 ∧ M13.2.2 (6, 0) 1 = (5, p16) ∧ (vp_in (M13.1 (5, p16) 7) 4 ∧ (∀ M18 : eg_H, M18 = (sI M13 (32, p16) (M13.1 (5, p16) 7).toNatClampNeg (M13.1 (6, 0) 7)) → (vp_in (M18.1 (5, p16) 7) 4 ∧ (∀ M20 : eg_H, M20 = (sI M18 (33, p16) (M18.1 (5, p16) 7).toNatClampNeg x5) → (∀ x21 : Int32, x21 = (M20.1 (3, p16) 3) → eCI κ gC mtX6_readExpression d [vR (6, 0)] M20 (fun x22 M23 => ((¬ x22 = 0) → (∃ p26 : Nat, p26 < 2 ∧ M23.2.2 (6, 0) 1 = (5, p26) ∧ eCI κ gC mtX3_addLaw d [vR (3, p26), vI x21] M23 (fun x27 M28 => (vp_in (M23.1 (5, p26) 7) 4 ∧ (∀ M31 : eg_H, M31 = (sI M28 (34, p26) (M23.1 (5, p26) 7).toNatClampNeg x27) → (∃ p32 : Nat, p32 < 2 ∧ M31.2.2 (6, 0) 1 = (5, p32) ∧ (∀ M33 : eg_H, M33 = (sI M31 (5, p32) 7 ((M31.1 (5, p32) 7) + (1 : Int32))) → post (1 : Int32) M33))))))) ∧ (x22 = 0 → post (0 : Int32) M23))))))))) ∧ (x12 = 0 → post (0 : Int32) M13)))) ∧ ((¬ x5 < (3 : Int32)) → (∀ (x35 : Int32) (M34 : eg_H), (x35, M34) = fX6_refuse M3 (1 : Int32) → post x35 M34)))))) ∧ ((¬ (M.1 (5, p1) 7) < (4 : Int32)) → (∀ (x37 : Int32) (M36 : eg_H), (x37, M36) = fX6_refuse M (2 : Int32) → post x37 M36)))) : eg_W κ gC mtX6_readMay d (eQI κ gC post) 0 [(0, vR (6, 0))] [] M := by
  refine eg_aload_n 0 dX6_readMay_0 rfl rfl ?_
  obtain ⟨p1, hp1, ep1, h⟩ := h
  refine eg_getD dX6_readMay_1 fl_6_23 rfl rfl (obC_6 z1) ?_ (Or.inr (eg_nne ep1))
  rw [ep1]
  refine eg_getI dX6_readMay_4 fl_6_193 rfl trivial (obC_5 hp1) ?_
  refine eg_iconst dX6_readMay_7 ic_4 ?_
  refine eg_icmp_lt (tgt := 17) dX6_readMay_8 rfl (fun c2 => ?_) (fun c2 => ?_)
  · have h := h.1 c2
    refine eg_aload_n 0 dX6_readMay_17 rfl rfl ?_
    refine eg_getR dX6_readMay_18 fl_6_19 rfl rfl (obC_6 z1) ?_
    show eg_W κ gC mtX6_readMay d (eQI κ gC post) 21 [(0, vR (6, 0))] [vR (9, 0)] M
    obtain ⟨q4, hq4, h⟩ := h
    refine eg_callVV (av := []) (st := []) dX6_readMay_21 ml_6_61 rfl rfl (obC_9 z1) (by decide) rfl (Nat.le_of_ble_eq_true rfl) (eg_dd (by omega)) hq4 (fun M3 hp => ?_)
    have h := h M3 hp
    refine eg_aload_n 0 dX6_readMay_24 rfl rfl ?_
    refine eg_getR dX6_readMay_25 fl_6_19 rfl rfl (obC_6 z1) ?_
    show eg_W κ gC mtX6_readMay d (eQI κ gC post) 28 [(0, vR (6, 0))] [vR (9, 0)] M3
    refine eg_getI dX6_readMay_28 fl_6_51 rfl trivial (obC_9 z1) ?_
    refine eg_bipush dX6_readMay_31 bp_10 ?_
    refine eg_isub dX6_readMay_33 ?_
    refine en_istore_n (f := fun x5 => [(1, vI x5), (0, vR (6, 0))]) dX6_readMay_34 rfl (by decide) rfl (fun x5 ex5 => ?_)
    have h := h x5 ex5
    refine eg_iload_n 0 dX6_readMay_35 rfl rfl ?_
    refine eg_if_lt (tgt := 44) dX6_readMay_36 rfl (fun c6 => ?_) (fun c6 => ?_)
    · have h := h.1 c6
      refine eg_aload_n 1 dX6_readMay_44 rfl rfl ?_
      refine eg_iconst dX6_readMay_45 ic_1 ?_
      refine eg_callVI (av := [vI (1 : Int32)]) (st := []) dX6_readMay_46 ml_6_57 rfl rfl (obC_6 z1) (by decide) rfl (Nat.le_of_ble_eq_true rfl) (eg_dd (by omega)) (sX6_refuse (by omega) M3 (1 : Int32)  ) (fun x8 M7 eM7 => ?_)
      have h := h x8 M7 eM7
      exact eg_zreturn dX6_readMay_49 rfl (show x8 = 0 ∨ x8 = 1 from by rw [show x8 = _ from congrArg Prod.fst eM7]; exact zX6_refuse M3 (1 : Int32)) h
    · have h := h.2 c6
      refine eg_iload_n 0 dX6_readMay_39 rfl rfl ?_
      refine eg_iconst dX6_readMay_40 ic_3 ?_
      refine eg_icmp_lt (tgt := 50) dX6_readMay_41 rfl (fun c9 => ?_) (fun c9 => ?_)
      · have h := h.1 c9
        refine eg_aload_n 1 dX6_readMay_50 rfl rfl ?_
        refine eg_getR dX6_readMay_51 fl_6_19 rfl rfl (obC_6 z1) ?_
        show eg_W κ gC mtX6_readMay d (eQI κ gC post) 54 [(1, vI x5), (0, vR (6, 0))] [vR (9, 0)] M3
        obtain ⟨q11, hq11, h⟩ := h
        refine eg_callVV (av := []) (st := []) dX6_readMay_54 ml_6_61 rfl rfl (obC_9 z1) (by decide) rfl (Nat.le_of_ble_eq_true rfl) (eg_dd (by omega)) hq11 (fun M10 hp => ?_)
        have h := h M10 hp
        refine eg_aload_n 1 dX6_readMay_57 rfl rfl ?_
        refine eg_bipush dX6_readMay_58 bp_9 ?_
        obtain ⟨q14, hq14, h⟩ := h
        refine eg_callVI (av := [vI (9 : Int32)]) (st := []) dX6_readMay_60 ml_6_116 rfl rfl (obC_6 z1) (by decide) rfl (Nat.le_of_ble_eq_true rfl) (eg_dd (by omega)) hq14 (fun x12 M13 hp => ?_)
        have h := h x12 M13 hp
        refine eg_if_ne (tgt := 68) dX6_readMay_63 rfl (fun c15 => ?_) (fun c15 => ?_)
        · have h := h.1 c15
          refine eg_aload_n 1 dX6_readMay_68 rfl rfl ?_
          obtain ⟨p16, hp16, ep16, h⟩ := h
          refine eg_getD dX6_readMay_69 fl_6_23 rfl rfl (obC_6 z1) ?_ (Or.inr (eg_nne ep16))
          rw [ep16]
          refine eg_getR dX6_readMay_72 fl_6_196 rfl rfl (obC_5 hp16) ?_
          show eg_W κ gC mtX6_readMay d (eQI κ gC post) 75 [(1, vI x5), (0, vR (6, 0))] [vR (32, p16)] M13
          refine eg_aload_n 1 dX6_readMay_75 rfl rfl ?_
          refine eg_getD dX6_readMay_76 fl_6_23 rfl rfl (obC_6 z1) ?_ (Or.inr (eg_nne ep16))
          rw [ep16]
          refine eg_getI dX6_readMay_79 fl_6_193 rfl trivial (obC_5 hp16) ?_
          refine eg_aload_n 1 dX6_readMay_82 rfl rfl ?_
          refine eg_getI dX6_readMay_83 fl_6_95 rfl trivial (obC_6 z1) ?_
          obtain ⟨g17, h⟩ := h
          refine en_iastore dX6_readMay_86 (arC_32 hp16 g17) (fun M18 eM18 => ?_)
          have h := h M18 eM18
          refine eg_aload_n 1 dX6_readMay_87 rfl rfl ?_
          refine eg_getD dX6_readMay_88 fl_6_23 rfl rfl (obC_6 z1) ?_ (Or.inr (eg_nne (show M18.2.2 (6, 0) 1 = (5, p16) from by rw [eM18]; exact ep16)))
          rw [(show M18.2.2 (6, 0) 1 = (5, p16) from by rw [eM18]; exact ep16)]
          refine eg_getR dX6_readMay_91 fl_6_199 rfl rfl (obC_5 hp16) ?_
          show eg_W κ gC mtX6_readMay d (eQI κ gC post) 94 [(1, vI x5), (0, vR (6, 0))] [vR (33, p16)] M18
          refine eg_aload_n 1 dX6_readMay_94 rfl rfl ?_
          refine eg_getD dX6_readMay_95 fl_6_23 rfl rfl (obC_6 z1) ?_ (Or.inr (eg_nne (show M18.2.2 (6, 0) 1 = (5, p16) from by rw [eM18]; exact ep16)))
          rw [(show M18.2.2 (6, 0) 1 = (5, p16) from by rw [eM18]; exact ep16)]
          refine eg_getI dX6_readMay_98 fl_6_193 rfl trivial (obC_5 hp16) ?_
          refine eg_iload_n 0 dX6_readMay_101 rfl rfl ?_
          obtain ⟨g19, h⟩ := h
          refine en_iastore dX6_readMay_102 (arC_33 hp16 g19) (fun M20 eM20 => ?_)
          have h := h M20 eM20
          refine eg_aload_n 1 dX6_readMay_103 rfl rfl ?_
          refine eg_getD dX6_readMay_104 fl_6_23 rfl rfl (obC_6 z1) ?_ (Or.inr (eg_nne (show M20.2.2 (6, 0) 1 = (5, p16) from by rw [eM20]; exact (show M18.2.2 (6, 0) 1 = (5, p16) from by rw [eM18]; exact ep16))))
          rw [(show M20.2.2 (6, 0) 1 = (5, p16) from by rw [eM20]; exact (show M18.2.2 (6, 0) 1 = (5, p16) from by rw [eM18]; exact ep16))]
          refine eg_getR dX6_readMay_107 fl_6_180 rfl rfl (obC_5 hp16) ?_
          show eg_W κ gC mtX6_readMay d (eQI κ gC post) 110 [(1, vI x5), (0, vR (6, 0))] [vR (3, p16)] M20
          refine eg_getI dX6_readMay_110 fl_6_184 rfl trivial (obC_3 hp16) ?_
          refine en_istore_n (f := fun x21 => [(2, vI x21), (1, vI x5), (0, vR (6, 0))]) dX6_readMay_113 rfl (by decide) rfl (fun x21 ex21 => ?_)
          have h := h x21 ex21
          refine eg_aload_n 2 dX6_readMay_114 rfl rfl ?_
          obtain ⟨q24, hq24, h⟩ := h
          refine eg_callVI (av := []) (st := []) dX6_readMay_115 ml_6_187 rfl rfl (obC_6 z1) (by decide) rfl (Nat.le_of_ble_eq_true rfl) (eg_dd (by omega)) hq24 (fun x22 M23 hp => ?_)
          have h := h x22 M23 hp
          refine eg_if_ne (tgt := 123) dX6_readMay_118 rfl (fun c25 => ?_) (fun c25 => ?_)
          · have h := h.1 c25
            refine eg_aload_n 2 dX6_readMay_123 rfl rfl ?_
            obtain ⟨p26, hp26, ep26, h⟩ := h
            refine eg_getD dX6_readMay_124 fl_6_23 rfl rfl (obC_6 z1) ?_ (Or.inr (eg_nne ep26))
            rw [ep26]
            refine eg_getR dX6_readMay_127 fl_6_202 rfl rfl (obC_5 hp26) ?_
            show eg_W κ gC mtX6_readMay d (eQI κ gC post) 130 [(2, vI x21), (1, vI x5), (0, vR (6, 0))] [vR (34, p26)] M23
            refine eg_aload_n 2 dX6_readMay_130 rfl rfl ?_
            refine eg_getD dX6_readMay_131 fl_6_23 rfl rfl (obC_6 z1) ?_ (Or.inr (eg_nne ep26))
            rw [ep26]
            refine eg_getI dX6_readMay_134 fl_6_193 rfl trivial (obC_5 hp26) ?_
            refine eg_aload_n 2 dX6_readMay_137 rfl rfl ?_
            refine eg_getD dX6_readMay_138 fl_6_23 rfl rfl (obC_6 z1) ?_ (Or.inr (eg_nne ep26))
            rw [ep26]
            refine eg_getR dX6_readMay_141 fl_6_180 rfl rfl (obC_5 hp26) ?_
            show eg_W κ gC mtX6_readMay d (eQI κ gC post) 144 [(2, vI x21), (1, vI x5), (0, vR (6, 0))] [vR (3, p26), vI (M23.1 (5, p26) 7), vR (34, p26)] M23
            refine eg_iload_n 0 dX6_readMay_144 rfl rfl ?_
            obtain ⟨q29, hq29, h⟩ := h
            refine eg_callVI (av := [vI x21]) (st := [vI (M23.1 (5, p26) 7), vR (34, p26)]) dX6_readMay_145 ml_6_190 rfl rfl (obC_3 hp26) (by decide) rfl (Nat.le_of_ble_eq_true rfl) (eg_dd (by omega)) hq29 (fun x27 M28 hp => ?_)
            have h := h x27 M28 hp
            obtain ⟨g30, h⟩ := h
            refine en_iastore dX6_readMay_148 (arC_34 hp26 g30) (fun M31 eM31 => ?_)
            have h := h M31 eM31
            refine eg_aload_n 2 dX6_readMay_149 rfl rfl ?_
            obtain ⟨p32, hp32, ep32, h⟩ := h
            refine eg_getD dX6_readMay_150 fl_6_23 rfl rfl (obC_6 z1) ?_ (Or.inr (eg_nne ep32))
            rw [ep32]
            refine eg_dup dX6_readMay_153 rfl ?_
            refine eg_getI dX6_readMay_154 fl_6_193 rfl trivial (obC_5 hp32) ?_
            refine eg_iconst dX6_readMay_157 ic_1 ?_
            refine eg_iadd dX6_readMay_158 ?_
            refine en_putI dX6_readMay_159 fl_6_193 rfl rfl (obC_5 hp32) (fun M33 eM33 => ?_)
            have h := h M33 eM33
            refine eg_iconst dX6_readMay_162 ic_1 ?_
            exact eg_zreturn dX6_readMay_163 rfl (Or.inr rfl) h
          · have h := h.2 c25
            refine eg_iconst dX6_readMay_121 ic_0 ?_
            exact eg_zreturn dX6_readMay_122 rfl (Or.inl rfl) h
        · have h := h.2 c15
          refine eg_iconst dX6_readMay_66 ic_0 ?_
          exact eg_zreturn dX6_readMay_67 rfl (Or.inl rfl) h
      · have h := h.2 c9
        refine eg_aload_n 1 dX6_readMay_44 rfl rfl ?_
        refine eg_iconst dX6_readMay_45 ic_1 ?_
        refine eg_callVI (av := [vI (1 : Int32)]) (st := []) dX6_readMay_46 ml_6_57 rfl rfl (obC_6 z1) (by decide) rfl (Nat.le_of_ble_eq_true rfl) (eg_dd (by omega)) (sX6_refuse (by omega) M3 (1 : Int32)  ) (fun x35 M34 eM34 => ?_)
        have h := h x35 M34 eM34
        exact eg_zreturn dX6_readMay_49 rfl (show x35 = 0 ∨ x35 = 1 from by rw [show x35 = _ from congrArg Prod.fst eM34]; exact zX6_refuse M3 (1 : Int32)) h
  · have h := h.2 c2
    refine eg_aload_n 0 dX6_readMay_11 rfl rfl ?_
    refine eg_iconst dX6_readMay_12 ic_2 ?_
    refine eg_callVI (av := [vI (2 : Int32)]) (st := []) dX6_readMay_13 ml_6_57 rfl rfl (obC_6 z1) (by decide) rfl (Nat.le_of_ble_eq_true rfl) (eg_dd (by omega)) (sX6_refuse (by omega) M (2 : Int32)  ) (fun x37 M36 eM36 => ?_)
    have h := h x37 M36 eM36
    exact eg_zreturn dX6_readMay_16 rfl (show x37 = 0 ∨ x37 = 1 from by rw [show x37 = _ from congrArg Prod.fst eM36]; exact zX6_refuse M (2 : Int32)) h
theorem dX6_readExpression_0 : decode cX6_readExpression 0 = .ok (.aload_n 0, 1) := by decide +kernel
theorem dX6_readExpression_1 : decode cX6_readExpression 1 = .ok (.iconst 0, 1) := by decide +kernel
theorem dX6_readExpression_2 : decode cX6_readExpression 2 = .ok (.putfield 205, 3) := by decide +kernel
theorem dX6_readExpression_5 : decode cX6_readExpression 5 = .ok (.aload_n 0, 1) := by decide +kernel
theorem dX6_readExpression_6 : decode cX6_readExpression 6 = .ok (.iconst 0, 1) := by decide +kernel
theorem dX6_readExpression_7 : decode cX6_readExpression 7 = .ok (.putfield 208, 3) := by decide +kernel
theorem dX6_readExpression_10 : decode cX6_readExpression 10 = .ok (.aload_n 0, 1) := by decide +kernel
theorem dX6_readExpression_11 : decode cX6_readExpression 11 = .ok (.iconst 0, 1) := by decide +kernel
theorem dX6_readExpression_12 : decode cX6_readExpression 12 = .ok (.putfield 211, 3) := by decide +kernel
theorem dX6_readExpression_15 : decode cX6_readExpression 15 = .ok (.aload_n 0, 1) := by decide +kernel
theorem dX6_readExpression_16 : decode cX6_readExpression 16 = .ok (.iconst 1, 1) := by decide +kernel
theorem dX6_readExpression_17 : decode cX6_readExpression 17 = .ok (.putfield 214, 3) := by decide +kernel
theorem dX6_readExpression_20 : decode cX6_readExpression 20 = .ok (.aload_n 0, 1) := by decide +kernel
theorem dX6_readExpression_21 : decode cX6_readExpression 21 = .ok (.iconst 1, 1) := by decide +kernel
theorem dX6_readExpression_22 : decode cX6_readExpression 22 = .ok (.putfield 217, 3) := by decide +kernel
theorem dX6_readExpression_25 : decode cX6_readExpression 25 = .ok (.iconst 0, 1) := by decide +kernel
theorem dX6_readExpression_26 : decode cX6_readExpression 26 = .ok (.istore_n 1, 1) := by decide +kernel
theorem dX6_readExpression_27 : decode cX6_readExpression 27 = .ok (.iload_n 1, 1) := by decide +kernel
theorem dX6_readExpression_28 : decode cX6_readExpression 28 = .ok (.aload_n 0, 1) := by decide +kernel
theorem dX6_readExpression_29 : decode cX6_readExpression 29 = .ok (.getfield 19, 3) := by decide +kernel
theorem dX6_readExpression_32 : decode cX6_readExpression 32 = .ok (.getfield 220, 3) := by decide +kernel
theorem dX6_readExpression_35 : decode cX6_readExpression 35 = .ok (.if_icmp .gt 75, 3) := by decide +kernel
theorem dX6_readExpression_38 : decode cX6_readExpression 38 = .ok (.aload_n 0, 1) := by decide +kernel
theorem dX6_readExpression_39 : decode cX6_readExpression 39 = .ok (.getfield 214, 3) := by decide +kernel
theorem dX6_readExpression_42 : decode cX6_readExpression 42 = .ok (.ifCond .ne 29, 3) := by decide +kernel
theorem dX6_readExpression_45 : decode cX6_readExpression 45 = .ok (.aload_n 0, 1) := by decide +kernel
theorem dX6_readExpression_46 : decode cX6_readExpression 46 = .ok (.getfield 208, 3) := by decide +kernel
theorem dX6_readExpression_49 : decode cX6_readExpression 49 = .ok (.ifCond .ne 22, 3) := by decide +kernel
theorem dX6_readExpression_52 : decode cX6_readExpression 52 = .ok (.aload_n 0, 1) := by decide +kernel
theorem dX6_readExpression_53 : decode cX6_readExpression 53 = .ok (.getfield 19, 3) := by decide +kernel
theorem dX6_readExpression_56 : decode cX6_readExpression 56 = .ok (.getfield 51, 3) := by decide +kernel
theorem dX6_readExpression_59 : decode cX6_readExpression 59 = .ok (.bipush 36, 2) := by decide +kernel
theorem dX6_readExpression_61 : decode cX6_readExpression 61 = .ok (.if_icmp .ne 10, 3) := by decide +kernel
theorem dX6_readExpression_64 : decode cX6_readExpression 64 = .ok (.aload_n 0, 1) := by decide +kernel
theorem dX6_readExpression_65 : decode cX6_readExpression 65 = .ok (.iconst 1, 1) := by decide +kernel
theorem dX6_readExpression_66 : decode cX6_readExpression 66 = .ok (.invokevirtual 223, 3) := by decide +kernel
theorem dX6_readExpression_69 : decode cX6_readExpression 69 = .ok (.iconst 1, 1) := by decide +kernel
theorem dX6_readExpression_70 : decode cX6_readExpression 70 = .ok (.ireturn, 1) := by decide +kernel
theorem dX6_readExpression_71 : decode cX6_readExpression 71 = .ok (.aload_n 0, 1) := by decide +kernel
theorem dX6_readExpression_72 : decode cX6_readExpression 72 = .ok (.getfield 214, 3) := by decide +kernel
theorem dX6_readExpression_75 : decode cX6_readExpression 75 = .ok (.ifCond .eq 13, 3) := by decide +kernel
theorem dX6_readExpression_78 : decode cX6_readExpression 78 = .ok (.aload_n 0, 1) := by decide +kernel
theorem dX6_readExpression_79 : decode cX6_readExpression 79 = .ok (.invokevirtual 226, 3) := by decide +kernel
theorem dX6_readExpression_82 : decode cX6_readExpression 82 = .ok (.ifCond .eq 13, 3) := by decide +kernel
theorem dX6_readExpression_85 : decode cX6_readExpression 85 = .ok (.goto 12, 3) := by decide +kernel
theorem dX6_readExpression_88 : decode cX6_readExpression 88 = .ok (.aload_n 0, 1) := by decide +kernel
theorem dX6_readExpression_89 : decode cX6_readExpression 89 = .ok (.invokevirtual 229, 3) := by decide +kernel
theorem dX6_readExpression_92 : decode cX6_readExpression 92 = .ok (.ifCond .ne 5, 3) := by decide +kernel
theorem dX6_readExpression_95 : decode cX6_readExpression 95 = .ok (.iconst 0, 1) := by decide +kernel
theorem dX6_readExpression_96 : decode cX6_readExpression 96 = .ok (.ireturn, 1) := by decide +kernel
theorem dX6_readExpression_97 : decode cX6_readExpression 97 = .ok (.aload_n 0, 1) := by decide +kernel
theorem dX6_readExpression_98 : decode cX6_readExpression 98 = .ok (.getfield 19, 3) := by decide +kernel
theorem dX6_readExpression_101 : decode cX6_readExpression 101 = .ok (.invokevirtual 61, 3) := by decide +kernel
theorem dX6_readExpression_104 : decode cX6_readExpression 104 = .ok (.iinc 1 1, 3) := by decide +kernel
theorem dX6_readExpression_107 : decode cX6_readExpression 107 = .ok (.goto (-80), 3) := by decide +kernel
theorem dX6_readExpression_110 : decode cX6_readExpression 110 = .ok (.aload_n 0, 1) := by decide +kernel
theorem dX6_readExpression_111 : decode cX6_readExpression 111 = .ok (.iconst 1, 1) := by decide +kernel
theorem dX6_readExpression_112 : decode cX6_readExpression 112 = .ok (.invokevirtual 57, 3) := by decide +kernel
theorem dX6_readExpression_115 : decode cX6_readExpression 115 = .ok (.ireturn, 1) := by decide +kernel
set_option maxRecDepth 10000 in
theorem vX6_readExpression_0 {κ : eg_K} {d : Nat} {post : Int32 → eg_H → Prop} (M : eg_H)  (h : (∀ M1 : eg_H, M1 = (sI M (6, 0) 10 (0 : Int32)) → (∀ M2 : eg_H, M2 = (sI M1 (6, 0) 11 (0 : Int32)) → (∀ M3 : eg_H, M3 = (sI M2 (6, 0) 12 (0 : Int32)) → (∀ M4 : eg_H, M4 = (sI M3 (6, 0) 13 (1 : Int32)) → (∀ M5 : eg_H, M5 = (sI M4 (6, 0) 14 (1 : Int32)) → eg_W κ gC mtX6_readExpression d (eQI κ gC post) 27 [(0, vR (6, 0)), (1, vI (0 : Int32))] [] M5)))))) : eg_W κ gC mtX6_readExpression d (eQI κ gC post) 0 [(0, vR (6, 0))] [] M := by
  refine eg_aload_n 0 dX6_readExpression_0 rfl rfl ?_
  refine eg_iconst dX6_readExpression_1 ic_0 ?_
  refine en_putI dX6_readExpression_2 fl_6_205 rfl rfl (obC_6 z1) (fun M1 eM1 => ?_)
  have h := h M1 eM1
  refine eg_aload_n 0 dX6_readExpression_5 rfl rfl ?_
  refine eg_iconst dX6_readExpression_6 ic_0 ?_
  refine en_putI dX6_readExpression_7 fl_6_208 rfl rfl (obC_6 z1) (fun M2 eM2 => ?_)
  have h := h M2 eM2
  refine eg_aload_n 0 dX6_readExpression_10 rfl rfl ?_
  refine eg_iconst dX6_readExpression_11 ic_0 ?_
  refine en_putI dX6_readExpression_12 fl_6_211 rfl rfl (obC_6 z1) (fun M3 eM3 => ?_)
  have h := h M3 eM3
  refine eg_aload_n 0 dX6_readExpression_15 rfl rfl ?_
  refine eg_iconst dX6_readExpression_16 ic_1 ?_
  refine en_putZ dX6_readExpression_17 fl_6_214 rfl rfl (Or.inr rfl) (obC_6 z1) (fun M4 eM4 => ?_)
  have h := h M4 eM4
  refine eg_aload_n 0 dX6_readExpression_20 rfl rfl ?_
  refine eg_iconst dX6_readExpression_21 ic_1 ?_
  refine en_putZ dX6_readExpression_22 fl_6_217 rfl rfl (Or.inr rfl) (obC_6 z1) (fun M5 eM5 => ?_)
  have h := h M5 eM5
  refine eg_iconst dX6_readExpression_25 ic_0 ?_
  refine eg_istore_n dX6_readExpression_26 rfl (by decide) (ls1 := [(1, vI (0 : Int32)), (0, vR (6, 0))]) rfl ?_
  refine eg_sub [1, 0] rfl ?_
  exact h
set_option maxRecDepth 10000 in
theorem vX6_readExpression_27 {κ : eg_K} {d : Nat} (hd : 1 ≤ d) {post : Int32 → eg_H → Prop} (M : eg_H) (l1 : Int32) (h : ((M.1 (9, 0) 1) < l1 → (∀ (x3 : Int32) (M2 : eg_H), (x3, M2) = fX6_refuse M (1 : Int32) → post x3 M2)) ∧ ((¬ (M.1 (9, 0) 1) < l1) → ((¬ (M.1 (6, 0) 13) = 0) → eg_W κ gC mtX6_readExpression d (eQI κ gC post) 71 [(0, vR (6, 0)), (1, vI l1)] [] M) ∧ ((M.1 (6, 0) 13) = 0 → ((¬ (M.1 (6, 0) 11) = 0) → eg_W κ gC mtX6_readExpression d (eQI κ gC post) 71 [(0, vR (6, 0)), (1, vI l1)] [] M) ∧ ((M.1 (6, 0) 11) = 0 → ((¬ (M.1 (9, 0) 4) = (36 : Int32)) → eg_W κ gC mtX6_readExpression d (eQI κ gC post) 71 [(0, vR (6, 0)), (1, vI l1)] [] M) ∧ ((M.1 (9, 0) 4) = (36 : Int32) → eCV κ gC mtX6_releaseSigns d [vR (6, 0), vI (1 : Int32)] M (fun M7 => post (1 : Int32) M7)))))) : eg_W κ gC mtX6_readExpression d (eQI κ gC post) 27 [(0, vR (6, 0)), (1, vI l1)] [] M := by
  refine eg_iload_n 1 dX6_readExpression_27 rfl rfl ?_
  refine eg_aload_n 0 dX6_readExpression_28 rfl rfl ?_
  refine eg_getR dX6_readExpression_29 fl_6_19 rfl rfl (obC_6 z1) ?_
  show eg_W κ gC mtX6_readExpression d (eQI κ gC post) 32 [(0, vR (6, 0)), (1, vI l1)] [vR (9, 0), vI l1] M
  refine eg_getI dX6_readExpression_32 fl_6_220 rfl trivial (obC_9 z1) ?_
  refine eg_icmp_gt (tgt := 110) dX6_readExpression_35 rfl (fun c1 => ?_) (fun c1 => ?_)
  · have h := h.1 c1
    refine eg_aload_n 0 dX6_readExpression_110 rfl rfl ?_
    refine eg_iconst dX6_readExpression_111 ic_1 ?_
    refine eg_callVI (av := [vI (1 : Int32)]) (st := []) dX6_readExpression_112 ml_6_57 rfl rfl (obC_6 z1) (by decide) rfl (Nat.le_of_ble_eq_true rfl) (eg_dd (by omega)) (sX6_refuse (by omega) M (1 : Int32)  ) (fun x3 M2 eM2 => ?_)
    have h := h x3 M2 eM2
    exact eg_zreturn dX6_readExpression_115 rfl (show x3 = 0 ∨ x3 = 1 from by rw [show x3 = _ from congrArg Prod.fst eM2]; exact zX6_refuse M (1 : Int32)) h
  · have h := h.2 c1
    refine eg_aload_n 0 dX6_readExpression_38 rfl rfl ?_
    refine eg_getI dX6_readExpression_39 fl_6_214 rfl trivial (obC_6 z1) ?_
    refine eg_if_ne (tgt := 71) dX6_readExpression_42 rfl (fun c4 => ?_) (fun c4 => ?_)
    · have h := h.1 c4
      exact h
    · have h := h.2 c4
      refine eg_aload_n 0 dX6_readExpression_45 rfl rfl ?_
      refine eg_getI dX6_readExpression_46 fl_6_208 rfl trivial (obC_6 z1) ?_
      refine eg_if_ne (tgt := 71) dX6_readExpression_49 rfl (fun c5 => ?_) (fun c5 => ?_)
      · have h := h.1 c5
        exact h
      · have h := h.2 c5
        refine eg_aload_n 0 dX6_readExpression_52 rfl rfl ?_
        refine eg_getR dX6_readExpression_53 fl_6_19 rfl rfl (obC_6 z1) ?_
        show eg_W κ gC mtX6_readExpression d (eQI κ gC post) 56 [(0, vR (6, 0)), (1, vI l1)] [vR (9, 0)] M
        refine eg_getI dX6_readExpression_56 fl_6_51 rfl trivial (obC_9 z1) ?_
        refine eg_bipush dX6_readExpression_59 bp_36 ?_
        refine eg_icmp_ne (tgt := 71) dX6_readExpression_61 rfl (fun c6 => ?_) (fun c6 => ?_)
        · have h := h.1 c6
          exact h
        · have h := h.2 c6
          refine eg_aload_n 0 dX6_readExpression_64 rfl rfl ?_
          refine eg_iconst dX6_readExpression_65 ic_1 ?_
          obtain ⟨q8, hq8, h⟩ := h
          refine eg_callVV (av := [vI (1 : Int32)]) (st := []) dX6_readExpression_66 ml_6_223 rfl rfl (obC_6 z1) (by decide) rfl (Nat.le_of_ble_eq_true rfl) (eg_dd (by omega)) hq8 (fun M7 hp => ?_)
          have h := h M7 hp
          refine eg_iconst dX6_readExpression_69 ic_1 ?_
          exact eg_zreturn dX6_readExpression_70 rfl (Or.inr rfl) h
set_option maxRecDepth 10000 in
theorem vX6_readExpression_71 {κ : eg_K} {d : Nat} (hd : 1 ≤ d) {post : Int32 → eg_H → Prop} (M : eg_H) (l1 : Int32) (h : ((M.1 (6, 0) 13) = 0 → eCI κ gC mtX6_readBehindValue d [vR (6, 0)] M (fun x2 M3 => ((¬ x2 = 0) → eCV κ gC mtX9_advance d [vR (9, 0)] M3 (fun M6 => (∀ x8 : Int32, x8 = (l1 + (1 : Int32)) → eg_W κ gC mtX6_readExpression d (eQI κ gC post) 27 [(0, vR (6, 0)), (1, vI x8)] [] M6))) ∧ (x2 = 0 → post (0 : Int32) M3))) ∧ ((¬ (M.1 (6, 0) 13) = 0) → eCI κ gC mtX6_readValue d [vR (6, 0)] M (fun x9 M10 => (x9 = 0 → post (0 : Int32) M10) ∧ ((¬ x9 = 0) → eCV κ gC mtX9_advance d [vR (9, 0)] M10 (fun M13 => (∀ x15 : Int32, x15 = (l1 + (1 : Int32)) → eg_W κ gC mtX6_readExpression d (eQI κ gC post) 27 [(0, vR (6, 0)), (1, vI x15)] [] M13)))))) : eg_W κ gC mtX6_readExpression d (eQI κ gC post) 71 [(0, vR (6, 0)), (1, vI l1)] [] M := by
  refine eg_aload_n 0 dX6_readExpression_71 rfl rfl ?_
  refine eg_getI dX6_readExpression_72 fl_6_214 rfl trivial (obC_6 z1) ?_
  refine eg_if_eq (tgt := 88) dX6_readExpression_75 rfl (fun c1 => ?_) (fun c1 => ?_)
  · have h := h.1 c1
    refine eg_aload_n 0 dX6_readExpression_88 rfl rfl ?_
    obtain ⟨q4, hq4, h⟩ := h
    refine eg_callVI (av := []) (st := []) dX6_readExpression_89 ml_6_229 rfl rfl (obC_6 z1) (by decide) rfl (Nat.le_of_ble_eq_true rfl) (eg_dd (by omega)) hq4 (fun x2 M3 hp => ?_)
    have h := h x2 M3 hp
    refine eg_if_ne (tgt := 97) dX6_readExpression_92 rfl (fun c5 => ?_) (fun c5 => ?_)
    · have h := h.1 c5
      refine eg_aload_n 0 dX6_readExpression_97 rfl rfl ?_
      refine eg_getR dX6_readExpression_98 fl_6_19 rfl rfl (obC_6 z1) ?_
      show eg_W κ gC mtX6_readExpression d (eQI κ gC post) 101 [(0, vR (6, 0)), (1, vI l1)] [vR (9, 0)] M3
      obtain ⟨q7, hq7, h⟩ := h
      refine eg_callVV (av := []) (st := []) dX6_readExpression_101 ml_6_61 rfl rfl (obC_9 z1) (by decide) rfl (Nat.le_of_ble_eq_true rfl) (eg_dd (by omega)) hq7 (fun M6 hp => ?_)
      have h := h M6 hp
      refine en_iinc (f := fun x8 => [(1, vI x8), (0, vR (6, 0))]) 1 dX6_readExpression_104 rfl rfl (by decide) rfl (fun x8 ex8 => ?_)
      have h := h x8 ex8
      refine eg_goto (tgt := 27) dX6_readExpression_107 rfl ?_
      refine eg_sub [1, 0] rfl ?_
      exact h
    · have h := h.2 c5
      refine eg_iconst dX6_readExpression_95 ic_0 ?_
      exact eg_zreturn dX6_readExpression_96 rfl (Or.inl rfl) h
  · have h := h.2 c1
    refine eg_aload_n 0 dX6_readExpression_78 rfl rfl ?_
    obtain ⟨q11, hq11, h⟩ := h
    refine eg_callVI (av := []) (st := []) dX6_readExpression_79 ml_6_226 rfl rfl (obC_6 z1) (by decide) rfl (Nat.le_of_ble_eq_true rfl) (eg_dd (by omega)) hq11 (fun x9 M10 hp => ?_)
    have h := h x9 M10 hp
    refine eg_if_eq (tgt := 95) dX6_readExpression_82 rfl (fun c12 => ?_) (fun c12 => ?_)
    · have h := h.1 c12
      refine eg_iconst dX6_readExpression_95 ic_0 ?_
      exact eg_zreturn dX6_readExpression_96 rfl (Or.inl rfl) h
    · have h := h.2 c12
      refine eg_goto (tgt := 97) dX6_readExpression_85 rfl ?_
      refine eg_aload_n 0 dX6_readExpression_97 rfl rfl ?_
      refine eg_getR dX6_readExpression_98 fl_6_19 rfl rfl (obC_6 z1) ?_
      show eg_W κ gC mtX6_readExpression d (eQI κ gC post) 101 [(0, vR (6, 0)), (1, vI l1)] [vR (9, 0)] M10
      obtain ⟨q14, hq14, h⟩ := h
      refine eg_callVV (av := []) (st := []) dX6_readExpression_101 ml_6_61 rfl rfl (obC_9 z1) (by decide) rfl (Nat.le_of_ble_eq_true rfl) (eg_dd (by omega)) hq14 (fun M13 hp => ?_)
      have h := h M13 hp
      refine en_iinc (f := fun x15 => [(1, vI x15), (0, vR (6, 0))]) 1 dX6_readExpression_104 rfl rfl (by decide) rfl (fun x15 ex15 => ?_)
      have h := h x15 ex15
      refine eg_goto (tgt := 27) dX6_readExpression_107 rfl ?_
      refine eg_sub [1, 0] rfl ?_
      exact h
theorem dX6_readValue_0 : decode cX6_readValue 0 = .ok (.aload_n 0, 1) := by decide +kernel
theorem dX6_readValue_1 : decode cX6_readValue 1 = .ok (.getfield 19, 3) := by decide +kernel
theorem dX6_readValue_4 : decode cX6_readValue 4 = .ok (.getfield 51, 3) := by decide +kernel
theorem dX6_readValue_7 : decode cX6_readValue 7 = .ok (.istore_n 1, 1) := by decide +kernel
theorem dX6_readValue_8 : decode cX6_readValue 8 = .ok (.iload_n 1, 1) := by decide +kernel
theorem dX6_readValue_9 : decode cX6_readValue 9 = .ok (.bipush 34, 2) := by decide +kernel
theorem dX6_readValue_11 : decode cX6_readValue 11 = .ok (.if_icmp .ne 58, 3) := by decide +kernel
theorem dX6_readValue_14 : decode cX6_readValue 14 = .ok (.aload_n 0, 1) := by decide +kernel
theorem dX6_readValue_15 : decode cX6_readValue 15 = .ok (.getfield 208, 3) := by decide +kernel
theorem dX6_readValue_18 : decode cX6_readValue 18 = .ok (.bipush 8, 2) := by decide +kernel
theorem dX6_readValue_20 : decode cX6_readValue 20 = .ok (.if_icmp .lt 9, 3) := by decide +kernel
theorem dX6_readValue_23 : decode cX6_readValue 23 = .ok (.aload_n 0, 1) := by decide +kernel
theorem dX6_readValue_24 : decode cX6_readValue 24 = .ok (.iconst 2, 1) := by decide +kernel
theorem dX6_readValue_25 : decode cX6_readValue 25 = .ok (.invokevirtual 57, 3) := by decide +kernel
theorem dX6_readValue_28 : decode cX6_readValue 28 = .ok (.ireturn, 1) := by decide +kernel
theorem dX6_readValue_29 : decode cX6_readValue 29 = .ok (.aload_n 0, 1) := by decide +kernel
theorem dX6_readValue_30 : decode cX6_readValue 30 = .ok (.dup, 1) := by decide +kernel
theorem dX6_readValue_31 : decode cX6_readValue 31 = .ok (.getfield 208, 3) := by decide +kernel
theorem dX6_readValue_34 : decode cX6_readValue 34 = .ok (.iconst 1, 1) := by decide +kernel
theorem dX6_readValue_35 : decode cX6_readValue 35 = .ok (.iadd, 1) := by decide +kernel
theorem dX6_readValue_36 : decode cX6_readValue 36 = .ok (.putfield 208, 3) := by decide +kernel
theorem dX6_readValue_39 : decode cX6_readValue 39 = .ok (.aload_n 0, 1) := by decide +kernel
theorem dX6_readValue_40 : decode cX6_readValue 40 = .ok (.dup, 1) := by decide +kernel
theorem dX6_readValue_41 : decode cX6_readValue 41 = .ok (.getfield 211, 3) := by decide +kernel
theorem dX6_readValue_44 : decode cX6_readValue 44 = .ok (.iconst 1, 1) := by decide +kernel
theorem dX6_readValue_45 : decode cX6_readValue 45 = .ok (.aload_n 0, 1) := by decide +kernel
theorem dX6_readValue_46 : decode cX6_readValue 46 = .ok (.getfield 208, 3) := by decide +kernel
theorem dX6_readValue_49 : decode cX6_readValue 49 = .ok (.ishl, 1) := by decide +kernel
theorem dX6_readValue_50 : decode cX6_readValue 50 = .ok (.iconst (-1), 1) := by decide +kernel
theorem dX6_readValue_51 : decode cX6_readValue 51 = .ok (.ixor, 1) := by decide +kernel
theorem dX6_readValue_52 : decode cX6_readValue 52 = .ok (.iand, 1) := by decide +kernel
theorem dX6_readValue_53 : decode cX6_readValue 53 = .ok (.putfield 211, 3) := by decide +kernel
theorem dX6_readValue_56 : decode cX6_readValue 56 = .ok (.aload_n 0, 1) := by decide +kernel
theorem dX6_readValue_57 : decode cX6_readValue 57 = .ok (.bipush 34, 2) := by decide +kernel
theorem dX6_readValue_59 : decode cX6_readValue 59 = .ok (.invokevirtual 232, 3) := by decide +kernel
theorem dX6_readValue_62 : decode cX6_readValue 62 = .ok (.aload_n 0, 1) := by decide +kernel
theorem dX6_readValue_63 : decode cX6_readValue 63 = .ok (.iconst 1, 1) := by decide +kernel
theorem dX6_readValue_64 : decode cX6_readValue 64 = .ok (.putfield 217, 3) := by decide +kernel
theorem dX6_readValue_67 : decode cX6_readValue 67 = .ok (.iconst 1, 1) := by decide +kernel
theorem dX6_readValue_68 : decode cX6_readValue 68 = .ok (.ireturn, 1) := by decide +kernel
theorem dX6_readValue_69 : decode cX6_readValue 69 = .ok (.iload_n 1, 1) := by decide +kernel
theorem dX6_readValue_70 : decode cX6_readValue 70 = .ok (.bipush 15, 2) := by decide +kernel
theorem dX6_readValue_72 : decode cX6_readValue 72 = .ok (.if_icmp .ne 27, 3) := by decide +kernel
theorem dX6_readValue_75 : decode cX6_readValue 75 = .ok (.aload_n 0, 1) := by decide +kernel
theorem dX6_readValue_76 : decode cX6_readValue 76 = .ok (.getfield 217, 3) := by decide +kernel
theorem dX6_readValue_79 : decode cX6_readValue 79 = .ok (.ifCond .eq 20, 3) := by decide +kernel
theorem dX6_readValue_82 : decode cX6_readValue 82 = .ok (.aload_n 0, 1) := by decide +kernel
theorem dX6_readValue_83 : decode cX6_readValue 83 = .ok (.invokevirtual 235, 3) := by decide +kernel
theorem dX6_readValue_86 : decode cX6_readValue 86 = .ok (.ifCond .ne 5, 3) := by decide +kernel
theorem dX6_readValue_89 : decode cX6_readValue 89 = .ok (.iconst 0, 1) := by decide +kernel
theorem dX6_readValue_90 : decode cX6_readValue 90 = .ok (.ireturn, 1) := by decide +kernel
theorem dX6_readValue_91 : decode cX6_readValue 91 = .ok (.aload_n 0, 1) := by decide +kernel
theorem dX6_readValue_92 : decode cX6_readValue 92 = .ok (.bipush 15, 2) := by decide +kernel
theorem dX6_readValue_94 : decode cX6_readValue 94 = .ok (.invokevirtual 232, 3) := by decide +kernel
theorem dX6_readValue_97 : decode cX6_readValue 97 = .ok (.iconst 1, 1) := by decide +kernel
theorem dX6_readValue_98 : decode cX6_readValue 98 = .ok (.ireturn, 1) := by decide +kernel
theorem dX6_readValue_99 : decode cX6_readValue 99 = .ok (.iload_n 1, 1) := by decide +kernel
theorem dX6_readValue_100 : decode cX6_readValue 100 = .ok (.bipush 37, 2) := by decide +kernel
theorem dX6_readValue_102 : decode cX6_readValue 102 = .ok (.if_icmp .eq 21, 3) := by decide +kernel
theorem dX6_readValue_105 : decode cX6_readValue 105 = .ok (.iload_n 1, 1) := by decide +kernel
theorem dX6_readValue_106 : decode cX6_readValue 106 = .ok (.bipush 16, 2) := by decide +kernel
theorem dX6_readValue_108 : decode cX6_readValue 108 = .ok (.if_icmp .lt 9, 3) := by decide +kernel
theorem dX6_readValue_111 : decode cX6_readValue 111 = .ok (.iload_n 1, 1) := by decide +kernel
theorem dX6_readValue_112 : decode cX6_readValue 112 = .ok (.bipush 23, 2) := by decide +kernel
theorem dX6_readValue_114 : decode cX6_readValue 114 = .ok (.if_icmp .le 9, 3) := by decide +kernel
theorem dX6_readValue_117 : decode cX6_readValue 117 = .ok (.aload_n 0, 1) := by decide +kernel
theorem dX6_readValue_118 : decode cX6_readValue 118 = .ok (.iconst 1, 1) := by decide +kernel
theorem dX6_readValue_119 : decode cX6_readValue 119 = .ok (.invokevirtual 57, 3) := by decide +kernel
theorem dX6_readValue_122 : decode cX6_readValue 122 = .ok (.ireturn, 1) := by decide +kernel
theorem dX6_readValue_123 : decode cX6_readValue 123 = .ok (.iload_n 1, 1) := by decide +kernel
theorem dX6_readValue_124 : decode cX6_readValue 124 = .ok (.bipush 37, 2) := by decide +kernel
theorem dX6_readValue_126 : decode cX6_readValue 126 = .ok (.if_icmp .ne 22, 3) := by decide +kernel
theorem dX6_readValue_129 : decode cX6_readValue 129 = .ok (.aload_n 0, 1) := by decide +kernel
theorem dX6_readValue_130 : decode cX6_readValue 130 = .ok (.getfield 19, 3) := by decide +kernel
theorem dX6_readValue_133 : decode cX6_readValue 133 = .ok (.getfield 86, 3) := by decide +kernel
theorem dX6_readValue_136 : decode cX6_readValue 136 = .ok (.sipush 9999, 3) := by decide +kernel
theorem dX6_readValue_139 : decode cX6_readValue 139 = .ok (.if_icmp .le 9, 3) := by decide +kernel
theorem dX6_readValue_142 : decode cX6_readValue 142 = .ok (.aload_n 0, 1) := by decide +kernel
theorem dX6_readValue_143 : decode cX6_readValue 143 = .ok (.iconst 2, 1) := by decide +kernel
theorem dX6_readValue_144 : decode cX6_readValue 144 = .ok (.invokevirtual 57, 3) := by decide +kernel
theorem dX6_readValue_147 : decode cX6_readValue 147 = .ok (.ireturn, 1) := by decide +kernel
theorem dX6_readValue_148 : decode cX6_readValue 148 = .ok (.aload_n 0, 1) := by decide +kernel
theorem dX6_readValue_149 : decode cX6_readValue 149 = .ok (.invokevirtual 235, 3) := by decide +kernel
theorem dX6_readValue_152 : decode cX6_readValue 152 = .ok (.ifCond .ne 5, 3) := by decide +kernel
theorem dX6_readValue_155 : decode cX6_readValue 155 = .ok (.iconst 0, 1) := by decide +kernel
theorem dX6_readValue_156 : decode cX6_readValue 156 = .ok (.ireturn, 1) := by decide +kernel
theorem dX6_readValue_157 : decode cX6_readValue 157 = .ok (.aload_n 0, 1) := by decide +kernel
theorem dX6_readValue_158 : decode cX6_readValue 158 = .ok (.getfield 23, 3) := by decide +kernel
theorem dX6_readValue_161 : decode cX6_readValue 161 = .ok (.getfield 180, 3) := by decide +kernel
theorem dX6_readValue_164 : decode cX6_readValue 164 = .ok (.iload_n 1, 1) := by decide +kernel
theorem dX6_readValue_165 : decode cX6_readValue 165 = .ok (.bipush 37, 2) := by decide +kernel
theorem dX6_readValue_167 : decode cX6_readValue 167 = .ok (.if_icmp .ne 13, 3) := by decide +kernel
theorem dX6_readValue_170 : decode cX6_readValue 170 = .ok (.aload_n 0, 1) := by decide +kernel
theorem dX6_readValue_171 : decode cX6_readValue 171 = .ok (.getfield 19, 3) := by decide +kernel
theorem dX6_readValue_174 : decode cX6_readValue 174 = .ok (.getfield 86, 3) := by decide +kernel
theorem dX6_readValue_177 : decode cX6_readValue 177 = .ok (.goto 8, 3) := by decide +kernel
theorem dX6_readValue_180 : decode cX6_readValue 180 = .ok (.sipush 10000, 3) := by decide +kernel
theorem dX6_readValue_183 : decode cX6_readValue 183 = .ok (.iload_n 1, 1) := by decide +kernel
theorem dX6_readValue_184 : decode cX6_readValue 184 = .ok (.iadd, 1) := by decide +kernel
theorem dX6_readValue_185 : decode cX6_readValue 185 = .ok (.invokevirtual 238, 3) := by decide +kernel
theorem dX6_readValue_188 : decode cX6_readValue 188 = .ok (.aload_n 0, 1) := by decide +kernel
theorem dX6_readValue_189 : decode cX6_readValue 189 = .ok (.iconst 0, 1) := by decide +kernel
theorem dX6_readValue_190 : decode cX6_readValue 190 = .ok (.putfield 214, 3) := by decide +kernel
theorem dX6_readValue_193 : decode cX6_readValue 193 = .ok (.iconst 1, 1) := by decide +kernel
theorem dX6_readValue_194 : decode cX6_readValue 194 = .ok (.ireturn, 1) := by decide +kernel
set_option maxRecDepth 10000 in
theorem vX6_readValue_0 {κ : eg_K} {d : Nat} (hd : 2 ≤ d) {post : Int32 → eg_H → Prop} (M : eg_H)  (h : (∀ x1 : Int32, x1 = (M.1 (9, 0) 4) → ((¬ x1 = (34 : Int32)) → ((¬ x1 = (15 : Int32)) → eg_W κ gC mtX6_readValue d (eQI κ gC post) 99 [(0, vR (6, 0)), (1, vI x1)] [] M) ∧ (x1 = (15 : Int32) → ((M.1 (6, 0) 14) = 0 → eg_W κ gC mtX6_readValue d (eQI κ gC post) 99 [(0, vR (6, 0)), (1, vI x1)] [] M) ∧ ((¬ (M.1 (6, 0) 14) = 0) → (∀ (x6 : Int32) (M5 : eg_H), (x6, M5) = fX6_countKnot M → ((¬ x6 = 0) → (gX6_holdSign M5 (15 : Int32) ∧ (∀ M9 : eg_H, M9 = (fX6_holdSign M5 (15 : Int32)) → post (1 : Int32) M9))) ∧ (x6 = 0 → post (0 : Int32) M5))))) ∧ (x1 = (34 : Int32) → ((M.1 (6, 0) 11) < (8 : Int32) → (∀ M12 : eg_H, M12 = (sI M (6, 0) 11 ((M.1 (6, 0) 11) + (1 : Int32))) → (∀ M13 : eg_H, M13 = (sI M12 (6, 0) 12 ((M12.1 (6, 0) 12) &&& (((1 : Int32) <<< ((M12.1 (6, 0) 11) &&& 31)) ^^^ (-1 : Int32)))) → (gX6_holdSign M13 (34 : Int32) ∧ (∀ M15 : eg_H, M15 = (fX6_holdSign M13 (34 : Int32)) → (∀ M17 : eg_H, M17 = (sI M15 (6, 0) 14 (1 : Int32)) → post (1 : Int32) M17)))))) ∧ ((¬ (M.1 (6, 0) 11) < (8 : Int32)) → (∀ (x19 : Int32) (M18 : eg_H), (x19, M18) = fX6_refuse M (2 : Int32) → post x19 M18))))) : eg_W κ gC mtX6_readValue d (eQI κ gC post) 0 [(0, vR (6, 0))] [] M := by
  refine eg_aload_n 0 dX6_readValue_0 rfl rfl ?_
  refine eg_getR dX6_readValue_1 fl_6_19 rfl rfl (obC_6 z1) ?_
  show eg_W κ gC mtX6_readValue d (eQI κ gC post) 4 [(0, vR (6, 0))] [vR (9, 0)] M
  refine eg_getI dX6_readValue_4 fl_6_51 rfl trivial (obC_9 z1) ?_
  refine en_istore_n (f := fun x1 => [(1, vI x1), (0, vR (6, 0))]) dX6_readValue_7 rfl (by decide) rfl (fun x1 ex1 => ?_)
  have h := h x1 ex1
  refine eg_iload_n 0 dX6_readValue_8 rfl rfl ?_
  refine eg_bipush dX6_readValue_9 bp_34 ?_
  refine eg_icmp_ne (tgt := 69) dX6_readValue_11 rfl (fun c2 => ?_) (fun c2 => ?_)
  · have h := h.1 c2
    refine eg_iload_n 0 dX6_readValue_69 rfl rfl ?_
    refine eg_bipush dX6_readValue_70 bp_15 ?_
    refine eg_icmp_ne (tgt := 99) dX6_readValue_72 rfl (fun c3 => ?_) (fun c3 => ?_)
    · have h := h.1 c3
      refine eg_sub [1, 0] rfl ?_
      exact h
    · have h := h.2 c3
      refine eg_aload_n 1 dX6_readValue_75 rfl rfl ?_
      refine eg_getI dX6_readValue_76 fl_6_217 rfl trivial (obC_6 z1) ?_
      refine eg_if_eq (tgt := 99) dX6_readValue_79 rfl (fun c4 => ?_) (fun c4 => ?_)
      · have h := h.1 c4
        refine eg_sub [1, 0] rfl ?_
        exact h
      · have h := h.2 c4
        refine eg_aload_n 1 dX6_readValue_82 rfl rfl ?_
        refine eg_callVI (av := []) (st := []) dX6_readValue_83 ml_6_235 rfl rfl (obC_6 z1) (by decide) rfl (Nat.le_of_ble_eq_true rfl) (eg_dd (by omega)) (sX6_countKnot (by omega) M   ) (fun x6 M5 eM5 => ?_)
        have h := h x6 M5 eM5
        refine eg_if_ne (tgt := 91) dX6_readValue_86 rfl (fun c7 => ?_) (fun c7 => ?_)
        · have h := h.1 c7
          refine eg_aload_n 1 dX6_readValue_91 rfl rfl ?_
          refine eg_bipush dX6_readValue_92 bp_15 ?_
          obtain ⟨g8, h⟩ := h
          refine eg_callVV (av := [vI (15 : Int32)]) (st := []) dX6_readValue_94 ml_6_232 rfl rfl (obC_6 z1) (by decide) rfl (Nat.le_of_ble_eq_true rfl) (eg_dd (by omega)) (sX6_holdSign (by omega) M5 (15 : Int32)  g8) (fun M9 eM9 => ?_)
          have h := h M9 eM9
          refine eg_iconst dX6_readValue_97 ic_1 ?_
          exact eg_zreturn dX6_readValue_98 rfl (Or.inr rfl) h
        · have h := h.2 c7
          refine eg_iconst dX6_readValue_89 ic_0 ?_
          exact eg_zreturn dX6_readValue_90 rfl (Or.inl rfl) h
  · have h := h.2 c2
    refine eg_aload_n 1 dX6_readValue_14 rfl rfl ?_
    refine eg_getI dX6_readValue_15 fl_6_208 rfl trivial (obC_6 z1) ?_
    refine eg_bipush dX6_readValue_18 bp_8 ?_
    refine eg_icmp_lt (tgt := 29) dX6_readValue_20 rfl (fun c11 => ?_) (fun c11 => ?_)
    · have h := h.1 c11
      refine eg_aload_n 1 dX6_readValue_29 rfl rfl ?_
      refine eg_dup dX6_readValue_30 rfl ?_
      refine eg_getI dX6_readValue_31 fl_6_208 rfl trivial (obC_6 z1) ?_
      refine eg_iconst dX6_readValue_34 ic_1 ?_
      refine eg_iadd dX6_readValue_35 ?_
      refine en_putI dX6_readValue_36 fl_6_208 rfl rfl (obC_6 z1) (fun M12 eM12 => ?_)
      have h := h M12 eM12
      refine eg_aload_n 1 dX6_readValue_39 rfl rfl ?_
      refine eg_dup dX6_readValue_40 rfl ?_
      refine eg_getI dX6_readValue_41 fl_6_211 rfl trivial (obC_6 z1) ?_
      refine eg_iconst dX6_readValue_44 ic_1 ?_
      refine eg_aload_n 1 dX6_readValue_45 rfl rfl ?_
      refine eg_getI dX6_readValue_46 fl_6_208 rfl trivial (obC_6 z1) ?_
      refine eg_ishl dX6_readValue_49 ?_
      refine eg_iconst dX6_readValue_50 ic_m1 ?_
      refine eg_ixor dX6_readValue_51 ?_
      refine eg_iand dX6_readValue_52 ?_
      refine en_putI dX6_readValue_53 fl_6_211 rfl rfl (obC_6 z1) (fun M13 eM13 => ?_)
      have h := h M13 eM13
      refine eg_aload_n 1 dX6_readValue_56 rfl rfl ?_
      refine eg_bipush dX6_readValue_57 bp_34 ?_
      obtain ⟨g14, h⟩ := h
      refine eg_callVV (av := [vI (34 : Int32)]) (st := []) dX6_readValue_59 ml_6_232 rfl rfl (obC_6 z1) (by decide) rfl (Nat.le_of_ble_eq_true rfl) (eg_dd (by omega)) (sX6_holdSign (by omega) M13 (34 : Int32)  g14) (fun M15 eM15 => ?_)
      have h := h M15 eM15
      refine eg_aload_n 1 dX6_readValue_62 rfl rfl ?_
      refine eg_iconst dX6_readValue_63 ic_1 ?_
      refine en_putZ dX6_readValue_64 fl_6_217 rfl rfl (Or.inr rfl) (obC_6 z1) (fun M17 eM17 => ?_)
      have h := h M17 eM17
      refine eg_iconst dX6_readValue_67 ic_1 ?_
      exact eg_zreturn dX6_readValue_68 rfl (Or.inr rfl) h
    · have h := h.2 c11
      refine eg_aload_n 1 dX6_readValue_23 rfl rfl ?_
      refine eg_iconst dX6_readValue_24 ic_2 ?_
      refine eg_callVI (av := [vI (2 : Int32)]) (st := []) dX6_readValue_25 ml_6_57 rfl rfl (obC_6 z1) (by decide) rfl (Nat.le_of_ble_eq_true rfl) (eg_dd (by omega)) (sX6_refuse (by omega) M (2 : Int32)  ) (fun x19 M18 eM18 => ?_)
      have h := h x19 M18 eM18
      exact eg_zreturn dX6_readValue_28 rfl (show x19 = 0 ∨ x19 = 1 from by rw [show x19 = _ from congrArg Prod.fst eM18]; exact zX6_refuse M (2 : Int32)) h
set_option maxRecDepth 10000 in
theorem vX6_readValue_99 {κ : eg_K} {d : Nat} (hd : 1 ≤ d) {post : Int32 → eg_H → Prop} (M : eg_H) (l1 : Int32) (h : (l1 = (37 : Int32) → eg_W κ gC mtX6_readValue d (eQI κ gC post) 123 [(0, vR (6, 0)), (1, vI l1)] [] M) ∧ ((¬ l1 = (37 : Int32)) → (l1 < (16 : Int32) → (∀ (x4 : Int32) (M3 : eg_H), (x4, M3) = fX6_refuse M (1 : Int32) → post x4 M3)) ∧ ((¬ l1 < (16 : Int32)) → (l1 ≤ (23 : Int32) → eg_W κ gC mtX6_readValue d (eQI κ gC post) 123 [(0, vR (6, 0)), (1, vI l1)] [] M) ∧ ((¬ l1 ≤ (23 : Int32)) → (∀ (x7 : Int32) (M6 : eg_H), (x7, M6) = fX6_refuse M (1 : Int32) → post x7 M6))))) : eg_W κ gC mtX6_readValue d (eQI κ gC post) 99 [(0, vR (6, 0)), (1, vI l1)] [] M := by
  refine eg_iload_n 1 dX6_readValue_99 rfl rfl ?_
  refine eg_bipush dX6_readValue_100 bp_37 ?_
  refine eg_icmp_eq (tgt := 123) dX6_readValue_102 rfl (fun c1 => ?_) (fun c1 => ?_)
  · have h := h.1 c1
    exact h
  · have h := h.2 c1
    refine eg_iload_n 1 dX6_readValue_105 rfl rfl ?_
    refine eg_bipush dX6_readValue_106 bp_16 ?_
    refine eg_icmp_lt (tgt := 117) dX6_readValue_108 rfl (fun c2 => ?_) (fun c2 => ?_)
    · have h := h.1 c2
      refine eg_aload_n 0 dX6_readValue_117 rfl rfl ?_
      refine eg_iconst dX6_readValue_118 ic_1 ?_
      refine eg_callVI (av := [vI (1 : Int32)]) (st := []) dX6_readValue_119 ml_6_57 rfl rfl (obC_6 z1) (by decide) rfl (Nat.le_of_ble_eq_true rfl) (eg_dd (by omega)) (sX6_refuse (by omega) M (1 : Int32)  ) (fun x4 M3 eM3 => ?_)
      have h := h x4 M3 eM3
      exact eg_zreturn dX6_readValue_122 rfl (show x4 = 0 ∨ x4 = 1 from by rw [show x4 = _ from congrArg Prod.fst eM3]; exact zX6_refuse M (1 : Int32)) h
    · have h := h.2 c2
      refine eg_iload_n 1 dX6_readValue_111 rfl rfl ?_
      refine eg_bipush dX6_readValue_112 bp_23 ?_
      refine eg_icmp_le (tgt := 123) dX6_readValue_114 rfl (fun c5 => ?_) (fun c5 => ?_)
      · have h := h.1 c5
        exact h
      · have h := h.2 c5
        refine eg_aload_n 0 dX6_readValue_117 rfl rfl ?_
        refine eg_iconst dX6_readValue_118 ic_1 ?_
        refine eg_callVI (av := [vI (1 : Int32)]) (st := []) dX6_readValue_119 ml_6_57 rfl rfl (obC_6 z1) (by decide) rfl (Nat.le_of_ble_eq_true rfl) (eg_dd (by omega)) (sX6_refuse (by omega) M (1 : Int32)  ) (fun x7 M6 eM6 => ?_)
        have h := h x7 M6 eM6
        exact eg_zreturn dX6_readValue_122 rfl (show x7 = 0 ∨ x7 = 1 from by rw [show x7 = _ from congrArg Prod.fst eM6]; exact zX6_refuse M (1 : Int32)) h
set_option maxRecDepth 10000 in
theorem vX6_readValue_123 {κ : eg_K} {d : Nat} (hd : 1 ≤ d) {post : Int32 → eg_H → Prop} (M : eg_H) (l1 : Int32) (h : ((¬ l1 = (37 : Int32)) → eg_W κ gC mtX6_readValue d (eQI κ gC post) 148 [(0, vR (6, 0)), (1, vI l1)] [] M) ∧ (l1 = (37 : Int32) → ((M.1 (9, 0) 5) ≤ (9999 : Int32) → eg_W κ gC mtX6_readValue d (eQI κ gC post) 148 [(0, vR (6, 0)), (1, vI l1)] [] M) ∧ ((¬ (M.1 (9, 0) 5) ≤ (9999 : Int32)) → (∀ (x4 : Int32) (M3 : eg_H), (x4, M3) = fX6_refuse M (2 : Int32) → post x4 M3)))) : eg_W κ gC mtX6_readValue d (eQI κ gC post) 123 [(0, vR (6, 0)), (1, vI l1)] [] M := by
  refine eg_iload_n 1 dX6_readValue_123 rfl rfl ?_
  refine eg_bipush dX6_readValue_124 bp_37 ?_
  refine eg_icmp_ne (tgt := 148) dX6_readValue_126 rfl (fun c1 => ?_) (fun c1 => ?_)
  · have h := h.1 c1
    exact h
  · have h := h.2 c1
    refine eg_aload_n 0 dX6_readValue_129 rfl rfl ?_
    refine eg_getR dX6_readValue_130 fl_6_19 rfl rfl (obC_6 z1) ?_
    show eg_W κ gC mtX6_readValue d (eQI κ gC post) 133 [(0, vR (6, 0)), (1, vI l1)] [vR (9, 0)] M
    refine eg_getI dX6_readValue_133 fl_6_86 rfl trivial (obC_9 z1) ?_
    refine eg_sipush dX6_readValue_136 sp_9999 ?_
    refine eg_icmp_le (tgt := 148) dX6_readValue_139 rfl (fun c2 => ?_) (fun c2 => ?_)
    · have h := h.1 c2
      exact h
    · have h := h.2 c2
      refine eg_aload_n 0 dX6_readValue_142 rfl rfl ?_
      refine eg_iconst dX6_readValue_143 ic_2 ?_
      refine eg_callVI (av := [vI (2 : Int32)]) (st := []) dX6_readValue_144 ml_6_57 rfl rfl (obC_6 z1) (by decide) rfl (Nat.le_of_ble_eq_true rfl) (eg_dd (by omega)) (sX6_refuse (by omega) M (2 : Int32)  ) (fun x4 M3 eM3 => ?_)
      have h := h x4 M3 eM3
      exact eg_zreturn dX6_readValue_147 rfl (show x4 = 0 ∨ x4 = 1 from by rw [show x4 = _ from congrArg Prod.fst eM3]; exact zX6_refuse M (2 : Int32)) h
set_option maxRecDepth 10000 in
theorem vX6_readValue_148 {κ : eg_K} {d : Nat} (hd : 2 ≤ d) {post : Int32 → eg_H → Prop} (M : eg_H) (l1 : Int32) (h : (∀ (x2 : Int32) (M1 : eg_H), (x2, M1) = fX6_countKnot M → ((¬ x2 = 0) → (∃ p4 : Nat, p4 < 2 ∧ M1.2.2 (6, 0) 1 = (5, p4) ∧ (∀ x5 : Int32, x5 = ((if (¬ l1 = (37 : Int32)) then ((10000 : Int32) + l1) else (M1.1 (9, 0) 5))) → (gX3_addKnot M1 p4 x5 ∧ (∀ M7 : eg_H, M7 = (fX3_addKnot M1 p4 x5) → (∀ M9 : eg_H, M9 = (sI M7 (6, 0) 13 (0 : Int32)) → post (1 : Int32) M9)))))) ∧ (x2 = 0 → post (0 : Int32) M1))) : eg_W κ gC mtX6_readValue d (eQI κ gC post) 148 [(0, vR (6, 0)), (1, vI l1)] [] M := by
  refine eg_aload_n 0 dX6_readValue_148 rfl rfl ?_
  refine eg_callVI (av := []) (st := []) dX6_readValue_149 ml_6_235 rfl rfl (obC_6 z1) (by decide) rfl (Nat.le_of_ble_eq_true rfl) (eg_dd (by omega)) (sX6_countKnot (by omega) M   ) (fun x2 M1 eM1 => ?_)
  have h := h x2 M1 eM1
  refine eg_if_ne (tgt := 157) dX6_readValue_152 rfl (fun c3 => ?_) (fun c3 => ?_)
  · have h := h.1 c3
    refine eg_aload_n 0 dX6_readValue_157 rfl rfl ?_
    obtain ⟨p4, hp4, ep4, h⟩ := h
    refine eg_getD dX6_readValue_158 fl_6_23 rfl rfl (obC_6 z1) ?_ (Or.inr (eg_nne ep4))
    rw [ep4]
    refine eg_getR dX6_readValue_161 fl_6_180 rfl rfl (obC_5 hp4) ?_
    show eg_W κ gC mtX6_readValue d (eQI κ gC post) 164 [(0, vR (6, 0)), (1, vI l1)] [vR (3, p4)] M1
    refine eg_iload_n 1 dX6_readValue_164 rfl rfl ?_
    refine eg_bipush dX6_readValue_165 bp_37 ?_
    have J : ∀ x5 : Int32, x5 = (if (¬ l1 = (37 : Int32)) then ((10000 : Int32) + l1) else (M1.1 (9, 0) 5)) → eg_W κ gC mtX6_readValue d (eQI κ gC post) 185 [(0, vR (6, 0)), (1, vI l1)] [vI x5, vR (3, p4)] M1 := by
      intro x5 ex5
      have h := h x5 ex5
      obtain ⟨g6, h⟩ := h
      refine eg_callVV (av := [vI x5]) (st := []) dX6_readValue_185 ml_6_238 rfl rfl (obC_3 hp4) (by decide) rfl (Nat.le_of_ble_eq_true rfl) (eg_dd (by omega)) (sX3_addKnot (by omega) M1 p4 x5 hp4 g6) (fun M7 eM7 => ?_)
      have h := h M7 eM7
      refine eg_aload_n 0 dX6_readValue_188 rfl rfl ?_
      refine eg_iconst dX6_readValue_189 ic_0 ?_
      refine en_putZ dX6_readValue_190 fl_6_214 rfl rfl (Or.inl rfl) (obC_6 z1) (fun M9 eM9 => ?_)
      have h := h M9 eM9
      refine eg_iconst dX6_readValue_193 ic_1 ?_
      exact eg_zreturn dX6_readValue_194 rfl (Or.inr rfl) h
    clear h
    refine eg_icmp_ne (tgt := 180) dX6_readValue_167 rfl (fun c10 => ?_) (fun c10 => ?_)
    · refine eg_sipush dX6_readValue_180 sp_10000 ?_
      refine eg_iload_n 1 dX6_readValue_183 rfl rfl ?_
      refine eg_iadd dX6_readValue_184 ?_
      exact J _ (by rw [if_pos c10])
    · have c11 : ¬ (¬ l1 = (37 : Int32)) := fun z => z c10
      refine eg_aload_n 0 dX6_readValue_170 rfl rfl ?_
      refine eg_getR dX6_readValue_171 fl_6_19 rfl rfl (obC_6 z1) ?_
      show eg_W κ gC mtX6_readValue d (eQI κ gC post) 174 [(0, vR (6, 0)), (1, vI l1)] [vR (9, 0), vR (3, p4)] M1
      refine eg_getI dX6_readValue_174 fl_6_86 rfl trivial (obC_9 z1) ?_
      refine eg_goto (tgt := 185) dX6_readValue_177 rfl ?_
      exact J _ (by rw [if_neg c11])
  · have h := h.2 c3
    refine eg_iconst dX6_readValue_155 ic_0 ?_
    exact eg_zreturn dX6_readValue_156 rfl (Or.inl rfl) h
theorem dX6_readBehindValue_0 : decode cX6_readBehindValue 0 = .ok (.aload_n 0, 1) := by decide +kernel
theorem dX6_readBehindValue_1 : decode cX6_readBehindValue 1 = .ok (.getfield 19, 3) := by decide +kernel
theorem dX6_readBehindValue_4 : decode cX6_readBehindValue 4 = .ok (.getfield 51, 3) := by decide +kernel
theorem dX6_readBehindValue_7 : decode cX6_readBehindValue 7 = .ok (.istore_n 1, 1) := by decide +kernel
theorem dX6_readBehindValue_8 : decode cX6_readBehindValue 8 = .ok (.iload_n 1, 1) := by decide +kernel
theorem dX6_readBehindValue_9 : decode cX6_readBehindValue 9 = .ok (.bipush 35, 2) := by decide +kernel
theorem dX6_readBehindValue_11 : decode cX6_readBehindValue 11 = .ok (.if_icmp .ne 48, 3) := by decide +kernel
theorem dX6_readBehindValue_14 : decode cX6_readBehindValue 14 = .ok (.aload_n 0, 1) := by decide +kernel
theorem dX6_readBehindValue_15 : decode cX6_readBehindValue 15 = .ok (.getfield 208, 3) := by decide +kernel
theorem dX6_readBehindValue_18 : decode cX6_readBehindValue 18 = .ok (.ifCond .le 41, 3) := by decide +kernel
theorem dX6_readBehindValue_21 : decode cX6_readBehindValue 21 = .ok (.aload_n 0, 1) := by decide +kernel
theorem dX6_readBehindValue_22 : decode cX6_readBehindValue 22 = .ok (.iconst 1, 1) := by decide +kernel
theorem dX6_readBehindValue_23 : decode cX6_readBehindValue 23 = .ok (.invokevirtual 223, 3) := by decide +kernel
theorem dX6_readBehindValue_26 : decode cX6_readBehindValue 26 = .ok (.aload_n 0, 1) := by decide +kernel
theorem dX6_readBehindValue_27 : decode cX6_readBehindValue 27 = .ok (.aload_n 0, 1) := by decide +kernel
theorem dX6_readBehindValue_28 : decode cX6_readBehindValue 28 = .ok (.getfield 205, 3) := by decide +kernel
theorem dX6_readBehindValue_31 : decode cX6_readBehindValue 31 = .ok (.ifCond .le 12, 3) := by decide +kernel
theorem dX6_readBehindValue_34 : decode cX6_readBehindValue 34 = .ok (.aload_n 0, 1) := by decide +kernel
theorem dX6_readBehindValue_35 : decode cX6_readBehindValue 35 = .ok (.getfield 205, 3) := by decide +kernel
theorem dX6_readBehindValue_38 : decode cX6_readBehindValue 38 = .ok (.iconst 1, 1) := by decide +kernel
theorem dX6_readBehindValue_39 : decode cX6_readBehindValue 39 = .ok (.isub, 1) := by decide +kernel
theorem dX6_readBehindValue_40 : decode cX6_readBehindValue 40 = .ok (.goto 4, 3) := by decide +kernel
theorem dX6_readBehindValue_43 : decode cX6_readBehindValue 43 = .ok (.iconst 0, 1) := by decide +kernel
theorem dX6_readBehindValue_44 : decode cX6_readBehindValue 44 = .ok (.putfield 205, 3) := by decide +kernel
theorem dX6_readBehindValue_47 : decode cX6_readBehindValue 47 = .ok (.aload_n 0, 1) := by decide +kernel
theorem dX6_readBehindValue_48 : decode cX6_readBehindValue 48 = .ok (.dup, 1) := by decide +kernel
theorem dX6_readBehindValue_49 : decode cX6_readBehindValue 49 = .ok (.getfield 208, 3) := by decide +kernel
theorem dX6_readBehindValue_52 : decode cX6_readBehindValue 52 = .ok (.iconst 1, 1) := by decide +kernel
theorem dX6_readBehindValue_53 : decode cX6_readBehindValue 53 = .ok (.isub, 1) := by decide +kernel
theorem dX6_readBehindValue_54 : decode cX6_readBehindValue 54 = .ok (.putfield 208, 3) := by decide +kernel
theorem dX6_readBehindValue_57 : decode cX6_readBehindValue 57 = .ok (.iconst 1, 1) := by decide +kernel
theorem dX6_readBehindValue_58 : decode cX6_readBehindValue 58 = .ok (.ireturn, 1) := by decide +kernel
theorem dX6_readBehindValue_59 : decode cX6_readBehindValue 59 = .ok (.iload_n 1, 1) := by decide +kernel
theorem dX6_readBehindValue_60 : decode cX6_readBehindValue 60 = .ok (.invokestatic 241, 3) := by decide +kernel
theorem dX6_readBehindValue_63 : decode cX6_readBehindValue 63 = .ok (.istore_n 2, 1) := by decide +kernel
theorem dX6_readBehindValue_64 : decode cX6_readBehindValue 64 = .ok (.iload_n 2, 1) := by decide +kernel
theorem dX6_readBehindValue_65 : decode cX6_readBehindValue 65 = .ok (.iconst 4, 1) := by decide +kernel
theorem dX6_readBehindValue_66 : decode cX6_readBehindValue 66 = .ok (.if_icmp .ne 22, 3) := by decide +kernel
theorem dX6_readBehindValue_69 : decode cX6_readBehindValue 69 = .ok (.aload_n 0, 1) := by decide +kernel
theorem dX6_readBehindValue_70 : decode cX6_readBehindValue 70 = .ok (.getfield 211, 3) := by decide +kernel
theorem dX6_readBehindValue_73 : decode cX6_readBehindValue 73 = .ok (.aload_n 0, 1) := by decide +kernel
theorem dX6_readBehindValue_74 : decode cX6_readBehindValue 74 = .ok (.getfield 208, 3) := by decide +kernel
theorem dX6_readBehindValue_77 : decode cX6_readBehindValue 77 = .ok (.ishr, 1) := by decide +kernel
theorem dX6_readBehindValue_78 : decode cX6_readBehindValue 78 = .ok (.iconst 1, 1) := by decide +kernel
theorem dX6_readBehindValue_79 : decode cX6_readBehindValue 79 = .ok (.iand, 1) := by decide +kernel
theorem dX6_readBehindValue_80 : decode cX6_readBehindValue 80 = .ok (.iconst 1, 1) := by decide +kernel
theorem dX6_readBehindValue_81 : decode cX6_readBehindValue 81 = .ok (.if_icmp .ne 7, 3) := by decide +kernel
theorem dX6_readBehindValue_84 : decode cX6_readBehindValue 84 = .ok (.iconst 1, 1) := by decide +kernel
theorem dX6_readBehindValue_85 : decode cX6_readBehindValue 85 = .ok (.goto 4, 3) := by decide +kernel
theorem dX6_readBehindValue_88 : decode cX6_readBehindValue 88 = .ok (.iconst 0, 1) := by decide +kernel
theorem dX6_readBehindValue_89 : decode cX6_readBehindValue 89 = .ok (.istore_n 3, 1) := by decide +kernel
theorem dX6_readBehindValue_90 : decode cX6_readBehindValue 90 = .ok (.iload_n 2, 1) := by decide +kernel
theorem dX6_readBehindValue_91 : decode cX6_readBehindValue 91 = .ok (.ifCond .eq 12, 3) := by decide +kernel
theorem dX6_readBehindValue_94 : decode cX6_readBehindValue 94 = .ok (.iload_n 2, 1) := by decide +kernel
theorem dX6_readBehindValue_95 : decode cX6_readBehindValue 95 = .ok (.iconst 3, 1) := by decide +kernel
theorem dX6_readBehindValue_96 : decode cX6_readBehindValue 96 = .ok (.if_icmp .eq 7, 3) := by decide +kernel
theorem dX6_readBehindValue_99 : decode cX6_readBehindValue 99 = .ok (.iload_n 3, 1) := by decide +kernel
theorem dX6_readBehindValue_100 : decode cX6_readBehindValue 100 = .ok (.ifCond .eq 9, 3) := by decide +kernel
theorem dX6_readBehindValue_103 : decode cX6_readBehindValue 103 = .ok (.aload_n 0, 1) := by decide +kernel
theorem dX6_readBehindValue_104 : decode cX6_readBehindValue 104 = .ok (.iconst 1, 1) := by decide +kernel
theorem dX6_readBehindValue_105 : decode cX6_readBehindValue 105 = .ok (.invokevirtual 57, 3) := by decide +kernel
theorem dX6_readBehindValue_108 : decode cX6_readBehindValue 108 = .ok (.ireturn, 1) := by decide +kernel
theorem dX6_readBehindValue_109 : decode cX6_readBehindValue 109 = .ok (.aload_n 0, 1) := by decide +kernel
theorem dX6_readBehindValue_110 : decode cX6_readBehindValue 110 = .ok (.invokevirtual 235, 3) := by decide +kernel
theorem dX6_readBehindValue_113 : decode cX6_readBehindValue 113 = .ok (.ifCond .ne 5, 3) := by decide +kernel
theorem dX6_readBehindValue_116 : decode cX6_readBehindValue 116 = .ok (.iconst 0, 1) := by decide +kernel
theorem dX6_readBehindValue_117 : decode cX6_readBehindValue 117 = .ok (.ireturn, 1) := by decide +kernel
theorem dX6_readBehindValue_118 : decode cX6_readBehindValue 118 = .ok (.aload_n 0, 1) := by decide +kernel
theorem dX6_readBehindValue_119 : decode cX6_readBehindValue 119 = .ok (.iload_n 2, 1) := by decide +kernel
theorem dX6_readBehindValue_120 : decode cX6_readBehindValue 120 = .ok (.invokevirtual 223, 3) := by decide +kernel
theorem dX6_readBehindValue_123 : decode cX6_readBehindValue 123 = .ok (.aload_n 0, 1) := by decide +kernel
theorem dX6_readBehindValue_124 : decode cX6_readBehindValue 124 = .ok (.iload_n 1, 1) := by decide +kernel
theorem dX6_readBehindValue_125 : decode cX6_readBehindValue 125 = .ok (.invokevirtual 232, 3) := by decide +kernel
theorem dX6_readBehindValue_128 : decode cX6_readBehindValue 128 = .ok (.aload_n 0, 1) := by decide +kernel
theorem dX6_readBehindValue_129 : decode cX6_readBehindValue 129 = .ok (.iconst 1, 1) := by decide +kernel
theorem dX6_readBehindValue_130 : decode cX6_readBehindValue 130 = .ok (.putfield 214, 3) := by decide +kernel
theorem dX6_readBehindValue_133 : decode cX6_readBehindValue 133 = .ok (.aload_n 0, 1) := by decide +kernel
theorem dX6_readBehindValue_134 : decode cX6_readBehindValue 134 = .ok (.iload_n 2, 1) := by decide +kernel
theorem dX6_readBehindValue_135 : decode cX6_readBehindValue 135 = .ok (.iconst 2, 1) := by decide +kernel
theorem dX6_readBehindValue_136 : decode cX6_readBehindValue 136 = .ok (.if_icmp .gt 7, 3) := by decide +kernel
theorem dX6_readBehindValue_139 : decode cX6_readBehindValue 139 = .ok (.iconst 1, 1) := by decide +kernel
theorem dX6_readBehindValue_140 : decode cX6_readBehindValue 140 = .ok (.goto 4, 3) := by decide +kernel
theorem dX6_readBehindValue_143 : decode cX6_readBehindValue 143 = .ok (.iconst 0, 1) := by decide +kernel
theorem dX6_readBehindValue_144 : decode cX6_readBehindValue 144 = .ok (.putfield 217, 3) := by decide +kernel
theorem dX6_readBehindValue_147 : decode cX6_readBehindValue 147 = .ok (.iload_n 2, 1) := by decide +kernel
theorem dX6_readBehindValue_148 : decode cX6_readBehindValue 148 = .ok (.iconst 4, 1) := by decide +kernel
theorem dX6_readBehindValue_149 : decode cX6_readBehindValue 149 = .ok (.if_icmp .ne 21, 3) := by decide +kernel
theorem dX6_readBehindValue_152 : decode cX6_readBehindValue 152 = .ok (.aload_n 0, 1) := by decide +kernel
theorem dX6_readBehindValue_153 : decode cX6_readBehindValue 153 = .ok (.dup, 1) := by decide +kernel
theorem dX6_readBehindValue_154 : decode cX6_readBehindValue 154 = .ok (.getfield 211, 3) := by decide +kernel
theorem dX6_readBehindValue_157 : decode cX6_readBehindValue 157 = .ok (.iconst 1, 1) := by decide +kernel
theorem dX6_readBehindValue_158 : decode cX6_readBehindValue 158 = .ok (.aload_n 0, 1) := by decide +kernel
theorem dX6_readBehindValue_159 : decode cX6_readBehindValue 159 = .ok (.getfield 208, 3) := by decide +kernel
theorem dX6_readBehindValue_162 : decode cX6_readBehindValue 162 = .ok (.ishl, 1) := by decide +kernel
theorem dX6_readBehindValue_163 : decode cX6_readBehindValue 163 = .ok (.ior, 1) := by decide +kernel
theorem dX6_readBehindValue_164 : decode cX6_readBehindValue 164 = .ok (.putfield 211, 3) := by decide +kernel
theorem dX6_readBehindValue_167 : decode cX6_readBehindValue 167 = .ok (.goto 25, 3) := by decide +kernel
theorem dX6_readBehindValue_170 : decode cX6_readBehindValue 170 = .ok (.iload_n 2, 1) := by decide +kernel
theorem dX6_readBehindValue_171 : decode cX6_readBehindValue 171 = .ok (.iconst 2, 1) := by decide +kernel
theorem dX6_readBehindValue_172 : decode cX6_readBehindValue 172 = .ok (.if_icmp .gt 20, 3) := by decide +kernel
theorem dX6_readBehindValue_175 : decode cX6_readBehindValue 175 = .ok (.aload_n 0, 1) := by decide +kernel
theorem dX6_readBehindValue_176 : decode cX6_readBehindValue 176 = .ok (.dup, 1) := by decide +kernel
theorem dX6_readBehindValue_177 : decode cX6_readBehindValue 177 = .ok (.getfield 211, 3) := by decide +kernel
theorem dX6_readBehindValue_180 : decode cX6_readBehindValue 180 = .ok (.iconst 1, 1) := by decide +kernel
theorem dX6_readBehindValue_181 : decode cX6_readBehindValue 181 = .ok (.aload_n 0, 1) := by decide +kernel
theorem dX6_readBehindValue_182 : decode cX6_readBehindValue 182 = .ok (.getfield 208, 3) := by decide +kernel
theorem dX6_readBehindValue_185 : decode cX6_readBehindValue 185 = .ok (.ishl, 1) := by decide +kernel
theorem dX6_readBehindValue_186 : decode cX6_readBehindValue 186 = .ok (.iconst (-1), 1) := by decide +kernel
theorem dX6_readBehindValue_187 : decode cX6_readBehindValue 187 = .ok (.ixor, 1) := by decide +kernel
theorem dX6_readBehindValue_188 : decode cX6_readBehindValue 188 = .ok (.iand, 1) := by decide +kernel
theorem dX6_readBehindValue_189 : decode cX6_readBehindValue 189 = .ok (.putfield 211, 3) := by decide +kernel
theorem dX6_readBehindValue_192 : decode cX6_readBehindValue 192 = .ok (.iconst 1, 1) := by decide +kernel
theorem dX6_readBehindValue_193 : decode cX6_readBehindValue 193 = .ok (.ireturn, 1) := by decide +kernel
set_option maxRecDepth 10000 in
theorem vX6_readBehindValue_0 {κ : eg_K} {d : Nat} (hd : 1 ≤ d) {post : Int32 → eg_H → Prop} (M : eg_H)  (h : (∀ x1 : Int32, x1 = (M.1 (9, 0) 4) → ((¬ x1 = (35 : Int32)) → eg_W κ gC mtX6_readBehindValue d (eQI κ gC post) 59 [(0, vR (6, 0)), (1, vI x1)] [] M) ∧ (x1 = (35 : Int32) → ((M.1 (6, 0) 11) ≤ 0 → eg_W κ gC mtX6_readBehindValue d (eQI κ gC post) 59 [(0, vR (6, 0)), (1, vI x1)] [] M) ∧ ((¬ (M.1 (6, 0) 11) ≤ 0) → eCV κ gC mtX6_releaseSigns d [vR (6, 0), vI (1 : Int32)] M (fun M4 => (∀ x6 : Int32, x6 = ((if (M4.1 (6, 0) 10) ≤ 0 then (0 : Int32) else ((M4.1 (6, 0) 10) - (1 : Int32)))) → (∀ M7 : eg_H, M7 = (sI M4 (6, 0) 10 x6) → (∀ M8 : eg_H, M8 = (sI M7 (6, 0) 11 ((M7.1 (6, 0) 11) - (1 : Int32))) → post (1 : Int32) M8)))))))) : eg_W κ gC mtX6_readBehindValue d (eQI κ gC post) 0 [(0, vR (6, 0))] [] M := by
  refine eg_aload_n 0 dX6_readBehindValue_0 rfl rfl ?_
  refine eg_getR dX6_readBehindValue_1 fl_6_19 rfl rfl (obC_6 z1) ?_
  show eg_W κ gC mtX6_readBehindValue d (eQI κ gC post) 4 [(0, vR (6, 0))] [vR (9, 0)] M
  refine eg_getI dX6_readBehindValue_4 fl_6_51 rfl trivial (obC_9 z1) ?_
  refine en_istore_n (f := fun x1 => [(1, vI x1), (0, vR (6, 0))]) dX6_readBehindValue_7 rfl (by decide) rfl (fun x1 ex1 => ?_)
  have h := h x1 ex1
  refine eg_iload_n 0 dX6_readBehindValue_8 rfl rfl ?_
  refine eg_bipush dX6_readBehindValue_9 bp_35 ?_
  refine eg_icmp_ne (tgt := 59) dX6_readBehindValue_11 rfl (fun c2 => ?_) (fun c2 => ?_)
  · have h := h.1 c2
    refine eg_sub [1, 0] rfl ?_
    exact h
  · have h := h.2 c2
    refine eg_aload_n 1 dX6_readBehindValue_14 rfl rfl ?_
    refine eg_getI dX6_readBehindValue_15 fl_6_208 rfl trivial (obC_6 z1) ?_
    refine eg_if_le (tgt := 59) dX6_readBehindValue_18 rfl (fun c3 => ?_) (fun c3 => ?_)
    · have h := h.1 c3
      refine eg_sub [1, 0] rfl ?_
      exact h
    · have h := h.2 c3
      refine eg_aload_n 1 dX6_readBehindValue_21 rfl rfl ?_
      refine eg_iconst dX6_readBehindValue_22 ic_1 ?_
      obtain ⟨q5, hq5, h⟩ := h
      refine eg_callVV (av := [vI (1 : Int32)]) (st := []) dX6_readBehindValue_23 ml_6_223 rfl rfl (obC_6 z1) (by decide) rfl (Nat.le_of_ble_eq_true rfl) (eg_dd (by omega)) hq5 (fun M4 hp => ?_)
      have h := h M4 hp
      refine eg_aload_n 1 dX6_readBehindValue_26 rfl rfl ?_
      refine eg_aload_n 1 dX6_readBehindValue_27 rfl rfl ?_
      refine eg_getI dX6_readBehindValue_28 fl_6_205 rfl trivial (obC_6 z1) ?_
      have J : ∀ x6 : Int32, x6 = (if (M4.1 (6, 0) 10) ≤ 0 then (0 : Int32) else ((M4.1 (6, 0) 10) - (1 : Int32))) → eg_W κ gC mtX6_readBehindValue d (eQI κ gC post) 44 [(1, vI x1), (0, vR (6, 0))] [vI x6, vR (6, 0)] M4 := by
        intro x6 ex6
        have h := h x6 ex6
        refine en_putI dX6_readBehindValue_44 fl_6_205 rfl rfl (obC_6 z1) (fun M7 eM7 => ?_)
        have h := h M7 eM7
        refine eg_aload_n 1 dX6_readBehindValue_47 rfl rfl ?_
        refine eg_dup dX6_readBehindValue_48 rfl ?_
        refine eg_getI dX6_readBehindValue_49 fl_6_208 rfl trivial (obC_6 z1) ?_
        refine eg_iconst dX6_readBehindValue_52 ic_1 ?_
        refine eg_isub dX6_readBehindValue_53 ?_
        refine en_putI dX6_readBehindValue_54 fl_6_208 rfl rfl (obC_6 z1) (fun M8 eM8 => ?_)
        have h := h M8 eM8
        refine eg_iconst dX6_readBehindValue_57 ic_1 ?_
        exact eg_zreturn dX6_readBehindValue_58 rfl (Or.inr rfl) h
      clear h
      refine eg_if_le (tgt := 43) dX6_readBehindValue_31 rfl (fun c9 => ?_) (fun c9 => ?_)
      · refine eg_iconst dX6_readBehindValue_43 ic_0 ?_
        exact J _ (by rw [if_pos c9])
      · refine eg_aload_n 1 dX6_readBehindValue_34 rfl rfl ?_
        refine eg_getI dX6_readBehindValue_35 fl_6_205 rfl trivial (obC_6 z1) ?_
        refine eg_iconst dX6_readBehindValue_38 ic_1 ?_
        refine eg_isub dX6_readBehindValue_39 ?_
        refine eg_goto (tgt := 44) dX6_readBehindValue_40 rfl ?_
        exact J _ (by rw [if_neg c9])
set_option maxRecDepth 10000 in
theorem vX6_readBehindValue_59 {κ : eg_K} {d : Nat} (hd : 2 ≤ d) {post : Int32 → eg_H → Prop} (M : eg_H) (l1 : Int32) (h : eCI κ gC mtX6_rankOf d [vI l1] M (fun x1 M2 => (∀ x4 : Int32, x4 = ((if (¬ x1 = (4 : Int32)) then (0 : Int32) else (if (¬ (((M2.1 (6, 0) 12) >>> ((M2.1 (6, 0) 11) &&& 31)) &&& (1 : Int32)) = (1 : Int32)) then (0 : Int32) else (1 : Int32)))) → (x1 = 0 → (∀ (x7 : Int32) (M6 : eg_H), (x7, M6) = fX6_refuse M2 (1 : Int32) → post x7 M6)) ∧ ((¬ x1 = 0) → (x1 = (3 : Int32) → (∀ (x10 : Int32) (M9 : eg_H), (x10, M9) = fX6_refuse M2 (1 : Int32) → post x10 M9)) ∧ ((¬ x1 = (3 : Int32)) → (x4 = 0 → (∀ (x13 : Int32) (M12 : eg_H), (x13, M12) = fX6_countKnot M2 → ((¬ x13 = 0) → eCV κ gC mtX6_releaseSigns d [vR (6, 0), vI x1] M12 (fun M15 => (gX6_holdSign M15 l1 ∧ (∀ M18 : eg_H, M18 = (fX6_holdSign M15 l1) → (∀ M20 : eg_H, M20 = (sI M18 (6, 0) 13 (1 : Int32)) → (∀ x21 : Int32, x21 = ((if (2 : Int32) < x1 then (0 : Int32) else (1 : Int32))) → (∀ M22 : eg_H, M22 = (sI M20 (6, 0) 14 x21) → ((¬ x1 = (4 : Int32)) → ((2 : Int32) < x1 → post (1 : Int32) M22) ∧ ((¬ (2 : Int32) < x1) → (∀ M25 : eg_H, M25 = (sI M22 (6, 0) 12 ((M22.1 (6, 0) 12) &&& (((1 : Int32) <<< ((M22.1 (6, 0) 11) &&& 31)) ^^^ (-1 : Int32)))) → post (1 : Int32) M25))) ∧ (x1 = (4 : Int32) → (∀ M26 : eg_H, M26 = (sI M22 (6, 0) 12 ((M22.1 (6, 0) 12) ||| ((1 : Int32) <<< ((M22.1 (6, 0) 11) &&& 31)))) → post (1 : Int32) M26))))))))) ∧ (x13 = 0 → post (0 : Int32) M12))) ∧ ((¬ x4 = 0) → (∀ (x29 : Int32) (M28 : eg_H), (x29, M28) = fX6_refuse M2 (1 : Int32) → post x29 M28))))))) : eg_W κ gC mtX6_readBehindValue d (eQI κ gC post) 59 [(0, vR (6, 0)), (1, vI l1)] [] M := by
  refine eg_iload_n 1 dX6_readBehindValue_59 rfl rfl ?_
  obtain ⟨q3, hq3, h⟩ := h
  refine eg_callSI (av := [vI l1]) (st := []) dX6_readBehindValue_60 ml_6_241 rfl rfl (Nat.le_of_ble_eq_true rfl) (eg_dd (by omega)) hq3 (fun x1 M2 hp => ?_)
  have h := h x1 M2 hp
  refine eg_istore_n dX6_readBehindValue_63 rfl (by decide) (ls1 := [(2, vI x1), (0, vR (6, 0)), (1, vI l1)]) rfl ?_
  refine eg_iload_n 0 dX6_readBehindValue_64 rfl rfl ?_
  refine eg_iconst dX6_readBehindValue_65 ic_4 ?_
  have J : ∀ x4 : Int32, x4 = (if (¬ x1 = (4 : Int32)) then (0 : Int32) else (if (¬ (((M2.1 (6, 0) 12) >>> ((M2.1 (6, 0) 11) &&& 31)) &&& (1 : Int32)) = (1 : Int32)) then (0 : Int32) else (1 : Int32))) → eg_W κ gC mtX6_readBehindValue d (eQI κ gC post) 89 [(2, vI x1), (0, vR (6, 0)), (1, vI l1)] [vI x4] M2 := by
    intro x4 ex4
    have h := h x4 ex4
    refine eg_istore_n dX6_readBehindValue_89 rfl (by decide) (ls1 := [(3, vI x4), (2, vI x1), (0, vR (6, 0)), (1, vI l1)]) rfl ?_
    refine eg_iload_n 1 dX6_readBehindValue_90 rfl rfl ?_
    refine eg_if_eq (tgt := 103) dX6_readBehindValue_91 rfl (fun c5 => ?_) (fun c5 => ?_)
    · have h := h.1 c5
      refine eg_aload_n 2 dX6_readBehindValue_103 rfl rfl ?_
      refine eg_iconst dX6_readBehindValue_104 ic_1 ?_
      refine eg_callVI (av := [vI (1 : Int32)]) (st := []) dX6_readBehindValue_105 ml_6_57 rfl rfl (obC_6 z1) (by decide) rfl (Nat.le_of_ble_eq_true rfl) (eg_dd (by omega)) (sX6_refuse (by omega) M2 (1 : Int32)  ) (fun x7 M6 eM6 => ?_)
      have h := h x7 M6 eM6
      exact eg_zreturn dX6_readBehindValue_108 rfl (show x7 = 0 ∨ x7 = 1 from by rw [show x7 = _ from congrArg Prod.fst eM6]; exact zX6_refuse M2 (1 : Int32)) h
    · have h := h.2 c5
      refine eg_iload_n 1 dX6_readBehindValue_94 rfl rfl ?_
      refine eg_iconst dX6_readBehindValue_95 ic_3 ?_
      refine eg_icmp_eq (tgt := 103) dX6_readBehindValue_96 rfl (fun c8 => ?_) (fun c8 => ?_)
      · have h := h.1 c8
        refine eg_aload_n 2 dX6_readBehindValue_103 rfl rfl ?_
        refine eg_iconst dX6_readBehindValue_104 ic_1 ?_
        refine eg_callVI (av := [vI (1 : Int32)]) (st := []) dX6_readBehindValue_105 ml_6_57 rfl rfl (obC_6 z1) (by decide) rfl (Nat.le_of_ble_eq_true rfl) (eg_dd (by omega)) (sX6_refuse (by omega) M2 (1 : Int32)  ) (fun x10 M9 eM9 => ?_)
        have h := h x10 M9 eM9
        exact eg_zreturn dX6_readBehindValue_108 rfl (show x10 = 0 ∨ x10 = 1 from by rw [show x10 = _ from congrArg Prod.fst eM9]; exact zX6_refuse M2 (1 : Int32)) h
      · have h := h.2 c8
        refine eg_iload_n 0 dX6_readBehindValue_99 rfl rfl ?_
        refine eg_if_eq (tgt := 109) dX6_readBehindValue_100 rfl (fun c11 => ?_) (fun c11 => ?_)
        · have h := h.1 c11
          refine eg_aload_n 2 dX6_readBehindValue_109 rfl rfl ?_
          refine eg_callVI (av := []) (st := []) dX6_readBehindValue_110 ml_6_235 rfl rfl (obC_6 z1) (by decide) rfl (Nat.le_of_ble_eq_true rfl) (eg_dd (by omega)) (sX6_countKnot (by omega) M2   ) (fun x13 M12 eM12 => ?_)
          have h := h x13 M12 eM12
          refine eg_if_ne (tgt := 118) dX6_readBehindValue_113 rfl (fun c14 => ?_) (fun c14 => ?_)
          · have h := h.1 c14
            refine eg_aload_n 2 dX6_readBehindValue_118 rfl rfl ?_
            refine eg_iload_n 1 dX6_readBehindValue_119 rfl rfl ?_
            obtain ⟨q16, hq16, h⟩ := h
            refine eg_callVV (av := [vI x1]) (st := []) dX6_readBehindValue_120 ml_6_223 rfl rfl (obC_6 z1) (by decide) rfl (Nat.le_of_ble_eq_true rfl) (eg_dd (by omega)) hq16 (fun M15 hp => ?_)
            have h := h M15 hp
            refine eg_aload_n 2 dX6_readBehindValue_123 rfl rfl ?_
            refine eg_iload_n 3 dX6_readBehindValue_124 rfl rfl ?_
            obtain ⟨g17, h⟩ := h
            refine eg_callVV (av := [vI l1]) (st := []) dX6_readBehindValue_125 ml_6_232 rfl rfl (obC_6 z1) (by decide) rfl (Nat.le_of_ble_eq_true rfl) (eg_dd (by omega)) (sX6_holdSign (by omega) M15 l1  g17) (fun M18 eM18 => ?_)
            have h := h M18 eM18
            refine eg_aload_n 2 dX6_readBehindValue_128 rfl rfl ?_
            refine eg_iconst dX6_readBehindValue_129 ic_1 ?_
            refine en_putZ dX6_readBehindValue_130 fl_6_214 rfl rfl (Or.inr rfl) (obC_6 z1) (fun M20 eM20 => ?_)
            have h := h M20 eM20
            refine eg_aload_n 2 dX6_readBehindValue_133 rfl rfl ?_
            refine eg_iload_n 1 dX6_readBehindValue_134 rfl rfl ?_
            refine eg_iconst dX6_readBehindValue_135 ic_2 ?_
            have J : ∀ x21 : Int32, x21 = (if (2 : Int32) < x1 then (0 : Int32) else (1 : Int32)) → eg_W κ gC mtX6_readBehindValue d (eQI κ gC post) 144 [(3, vI x4), (2, vI x1), (0, vR (6, 0)), (1, vI l1)] [vI x21, vR (6, 0)] M20 := by
              intro x21 ex21
              have h := h x21 ex21
              refine en_putZ dX6_readBehindValue_144 fl_6_217 rfl rfl (show x21 = 0 ∨ x21 = 1 from by rw [ex21]; exact (eg_zi (Or.inl rfl) (Or.inr rfl))) (obC_6 z1) (fun M22 eM22 => ?_)
              have h := h M22 eM22
              refine eg_iload_n 1 dX6_readBehindValue_147 rfl rfl ?_
              refine eg_iconst dX6_readBehindValue_148 ic_4 ?_
              refine eg_icmp_ne (tgt := 170) dX6_readBehindValue_149 rfl (fun c23 => ?_) (fun c23 => ?_)
              · have h := h.1 c23
                refine eg_iload_n 1 dX6_readBehindValue_170 rfl rfl ?_
                refine eg_iconst dX6_readBehindValue_171 ic_2 ?_
                refine eg_icmp_gt (tgt := 192) dX6_readBehindValue_172 rfl (fun c24 => ?_) (fun c24 => ?_)
                · have h := h.1 c24
                  refine eg_iconst dX6_readBehindValue_192 ic_1 ?_
                  exact eg_zreturn dX6_readBehindValue_193 rfl (Or.inr rfl) h
                · have h := h.2 c24
                  refine eg_aload_n 2 dX6_readBehindValue_175 rfl rfl ?_
                  refine eg_dup dX6_readBehindValue_176 rfl ?_
                  refine eg_getI dX6_readBehindValue_177 fl_6_211 rfl trivial (obC_6 z1) ?_
                  refine eg_iconst dX6_readBehindValue_180 ic_1 ?_
                  refine eg_aload_n 2 dX6_readBehindValue_181 rfl rfl ?_
                  refine eg_getI dX6_readBehindValue_182 fl_6_208 rfl trivial (obC_6 z1) ?_
                  refine eg_ishl dX6_readBehindValue_185 ?_
                  refine eg_iconst dX6_readBehindValue_186 ic_m1 ?_
                  refine eg_ixor dX6_readBehindValue_187 ?_
                  refine eg_iand dX6_readBehindValue_188 ?_
                  refine en_putI dX6_readBehindValue_189 fl_6_211 rfl rfl (obC_6 z1) (fun M25 eM25 => ?_)
                  have h := h M25 eM25
                  refine eg_iconst dX6_readBehindValue_192 ic_1 ?_
                  exact eg_zreturn dX6_readBehindValue_193 rfl (Or.inr rfl) h
              · have h := h.2 c23
                refine eg_aload_n 2 dX6_readBehindValue_152 rfl rfl ?_
                refine eg_dup dX6_readBehindValue_153 rfl ?_
                refine eg_getI dX6_readBehindValue_154 fl_6_211 rfl trivial (obC_6 z1) ?_
                refine eg_iconst dX6_readBehindValue_157 ic_1 ?_
                refine eg_aload_n 2 dX6_readBehindValue_158 rfl rfl ?_
                refine eg_getI dX6_readBehindValue_159 fl_6_208 rfl trivial (obC_6 z1) ?_
                refine eg_ishl dX6_readBehindValue_162 ?_
                refine eg_ior dX6_readBehindValue_163 ?_
                refine en_putI dX6_readBehindValue_164 fl_6_211 rfl rfl (obC_6 z1) (fun M26 eM26 => ?_)
                have h := h M26 eM26
                refine eg_goto (tgt := 192) dX6_readBehindValue_167 rfl ?_
                refine eg_iconst dX6_readBehindValue_192 ic_1 ?_
                exact eg_zreturn dX6_readBehindValue_193 rfl (Or.inr rfl) h
            clear h
            refine eg_icmp_gt (tgt := 143) dX6_readBehindValue_136 rfl (fun c27 => ?_) (fun c27 => ?_)
            · refine eg_iconst dX6_readBehindValue_143 ic_0 ?_
              exact J _ (by rw [if_pos c27])
            · refine eg_iconst dX6_readBehindValue_139 ic_1 ?_
              refine eg_goto (tgt := 144) dX6_readBehindValue_140 rfl ?_
              exact J _ (by rw [if_neg c27])
          · have h := h.2 c14
            refine eg_iconst dX6_readBehindValue_116 ic_0 ?_
            exact eg_zreturn dX6_readBehindValue_117 rfl (Or.inl rfl) h
        · have h := h.2 c11
          refine eg_aload_n 2 dX6_readBehindValue_103 rfl rfl ?_
          refine eg_iconst dX6_readBehindValue_104 ic_1 ?_
          refine eg_callVI (av := [vI (1 : Int32)]) (st := []) dX6_readBehindValue_105 ml_6_57 rfl rfl (obC_6 z1) (by decide) rfl (Nat.le_of_ble_eq_true rfl) (eg_dd (by omega)) (sX6_refuse (by omega) M2 (1 : Int32)  ) (fun x29 M28 eM28 => ?_)
          have h := h x29 M28 eM28
          exact eg_zreturn dX6_readBehindValue_108 rfl (show x29 = 0 ∨ x29 = 1 from by rw [show x29 = _ from congrArg Prod.fst eM28]; exact zX6_refuse M2 (1 : Int32)) h
  clear h
  refine eg_icmp_ne (tgt := 88) dX6_readBehindValue_66 rfl (fun c30 => ?_) (fun c30 => ?_)
  · refine eg_iconst dX6_readBehindValue_88 ic_0 ?_
    exact J _ (by rw [if_pos c30])
  · have c31 : ¬ (¬ x1 = (4 : Int32)) := fun z => z c30
    refine eg_aload_n 1 dX6_readBehindValue_69 rfl rfl ?_
    refine eg_getI dX6_readBehindValue_70 fl_6_211 rfl trivial (obC_6 z1) ?_
    refine eg_aload_n 1 dX6_readBehindValue_73 rfl rfl ?_
    refine eg_getI dX6_readBehindValue_74 fl_6_208 rfl trivial (obC_6 z1) ?_
    refine eg_ishr dX6_readBehindValue_77 ?_
    refine eg_iconst dX6_readBehindValue_78 ic_1 ?_
    refine eg_iand dX6_readBehindValue_79 ?_
    refine eg_iconst dX6_readBehindValue_80 ic_1 ?_
    refine eg_icmp_ne (tgt := 88) dX6_readBehindValue_81 rfl (fun c32 => ?_) (fun c32 => ?_)
    · refine eg_iconst dX6_readBehindValue_88 ic_0 ?_
      exact J _ (by rw [if_neg c31, if_pos c32])
    · have c33 : ¬ (¬ (((M2.1 (6, 0) 12) >>> ((M2.1 (6, 0) 11) &&& 31)) &&& (1 : Int32)) = (1 : Int32)) := fun z => z c32
      refine eg_iconst dX6_readBehindValue_84 ic_1 ?_
      refine eg_goto (tgt := 89) dX6_readBehindValue_85 rfl ?_
      exact J _ (by rw [if_neg c31, if_neg c33])
theorem dX6_releaseSigns_0 : decode cX6_releaseSigns 0 = .ok (.aload_n 0, 1) := by decide +kernel
theorem dX6_releaseSigns_1 : decode cX6_releaseSigns 1 = .ok (.getfield 205, 3) := by decide +kernel
theorem dX6_releaseSigns_4 : decode cX6_releaseSigns 4 = .ok (.ifCond .le 57, 3) := by decide +kernel
theorem dX6_releaseSigns_7 : decode cX6_releaseSigns 7 = .ok (.aload_n 0, 1) := by decide +kernel
theorem dX6_releaseSigns_8 : decode cX6_releaseSigns 8 = .ok (.getfield 15, 3) := by decide +kernel
theorem dX6_releaseSigns_11 : decode cX6_releaseSigns 11 = .ok (.aload_n 0, 1) := by decide +kernel
theorem dX6_releaseSigns_12 : decode cX6_releaseSigns 12 = .ok (.getfield 205, 3) := by decide +kernel
theorem dX6_releaseSigns_15 : decode cX6_releaseSigns 15 = .ok (.iconst 1, 1) := by decide +kernel
theorem dX6_releaseSigns_16 : decode cX6_releaseSigns 16 = .ok (.isub, 1) := by decide +kernel
theorem dX6_releaseSigns_17 : decode cX6_releaseSigns 17 = .ok (.iaload, 1) := by decide +kernel
theorem dX6_releaseSigns_18 : decode cX6_releaseSigns 18 = .ok (.invokestatic 241, 3) := by decide +kernel
theorem dX6_releaseSigns_21 : decode cX6_releaseSigns 21 = .ok (.iload_n 1, 1) := by decide +kernel
theorem dX6_releaseSigns_22 : decode cX6_releaseSigns 22 = .ok (.if_icmp .lt 39, 3) := by decide +kernel
theorem dX6_releaseSigns_25 : decode cX6_releaseSigns 25 = .ok (.aload_n 0, 1) := by decide +kernel
theorem dX6_releaseSigns_26 : decode cX6_releaseSigns 26 = .ok (.dup, 1) := by decide +kernel
theorem dX6_releaseSigns_27 : decode cX6_releaseSigns 27 = .ok (.getfield 205, 3) := by decide +kernel
theorem dX6_releaseSigns_30 : decode cX6_releaseSigns 30 = .ok (.iconst 1, 1) := by decide +kernel
theorem dX6_releaseSigns_31 : decode cX6_releaseSigns 31 = .ok (.isub, 1) := by decide +kernel
theorem dX6_releaseSigns_32 : decode cX6_releaseSigns 32 = .ok (.putfield 205, 3) := by decide +kernel
theorem dX6_releaseSigns_35 : decode cX6_releaseSigns 35 = .ok (.aload_n 0, 1) := by decide +kernel
theorem dX6_releaseSigns_36 : decode cX6_releaseSigns 36 = .ok (.getfield 23, 3) := by decide +kernel
theorem dX6_releaseSigns_39 : decode cX6_releaseSigns 39 = .ok (.getfield 180, 3) := by decide +kernel
theorem dX6_releaseSigns_42 : decode cX6_releaseSigns 42 = .ok (.sipush 10000, 3) := by decide +kernel
theorem dX6_releaseSigns_45 : decode cX6_releaseSigns 45 = .ok (.aload_n 0, 1) := by decide +kernel
theorem dX6_releaseSigns_46 : decode cX6_releaseSigns 46 = .ok (.getfield 15, 3) := by decide +kernel
theorem dX6_releaseSigns_49 : decode cX6_releaseSigns 49 = .ok (.aload_n 0, 1) := by decide +kernel
theorem dX6_releaseSigns_50 : decode cX6_releaseSigns 50 = .ok (.getfield 205, 3) := by decide +kernel
theorem dX6_releaseSigns_53 : decode cX6_releaseSigns 53 = .ok (.iaload, 1) := by decide +kernel
theorem dX6_releaseSigns_54 : decode cX6_releaseSigns 54 = .ok (.iadd, 1) := by decide +kernel
theorem dX6_releaseSigns_55 : decode cX6_releaseSigns 55 = .ok (.invokevirtual 238, 3) := by decide +kernel
theorem dX6_releaseSigns_58 : decode cX6_releaseSigns 58 = .ok (.goto (-58), 3) := by decide +kernel
theorem dX6_releaseSigns_61 : decode cX6_releaseSigns 61 = .ok (.return_, 1) := by decide +kernel
set_option maxRecDepth 10000 in
theorem vX6_releaseSigns_0 {κ : eg_K} {d : Nat} (hd : 1 ≤ d) {post : eg_H → Prop} (M : eg_H) (l1 : Int32) (h : ((M.1 (6, 0) 10) ≤ 0 → post M) ∧ ((¬ (M.1 (6, 0) 10) ≤ 0) → (vp_in ((M.1 (6, 0) 10) - (1 : Int32)) 72 ∧ eCI κ gC mtX6_rankOf d [vI (M.1 (36, 0) ((M.1 (6, 0) 10) - (1 : Int32)).toNatClampNeg)] M (fun x3 M4 => (x3 < l1 → post M4) ∧ ((¬ x3 < l1) → (∀ M7 : eg_H, M7 = (sI M4 (6, 0) 10 ((M4.1 (6, 0) 10) - (1 : Int32))) → (∃ p8 : Nat, p8 < 2 ∧ M7.2.2 (6, 0) 1 = (5, p8) ∧ (vp_in (M7.1 (6, 0) 10) 72 ∧ (gX3_addKnot M7 p8 ((10000 : Int32) + (M7.1 (36, 0) (M7.1 (6, 0) 10).toNatClampNeg)) ∧ (∀ M11 : eg_H, M11 = (fX3_addKnot M7 p8 ((10000 : Int32) + (M7.1 (36, 0) (M7.1 (6, 0) 10).toNatClampNeg))) → eg_W κ gC mtX6_releaseSigns d (eQV κ gC post) 0 [(0, vR (6, 0)), (1, vI l1)] [] M11)))))))))) : eg_W κ gC mtX6_releaseSigns d (eQV κ gC post) 0 [(0, vR (6, 0)), (1, vI l1)] [] M := by
  refine eg_aload_n 0 dX6_releaseSigns_0 rfl rfl ?_
  refine eg_getI dX6_releaseSigns_1 fl_6_205 rfl trivial (obC_6 z1) ?_
  refine eg_if_le (tgt := 61) dX6_releaseSigns_4 rfl (fun c1 => ?_) (fun c1 => ?_)
  · have h := h.1 c1
    exact eg_vreturn dX6_releaseSigns_61 rfl h
  · have h := h.2 c1
    refine eg_aload_n 0 dX6_releaseSigns_7 rfl rfl ?_
    refine eg_getR dX6_releaseSigns_8 fl_6_15 rfl rfl (obC_6 z1) ?_
    show eg_W κ gC mtX6_releaseSigns d (eQV κ gC post) 11 [(0, vR (6, 0)), (1, vI l1)] [vR (36, 0)] M
    refine eg_aload_n 0 dX6_releaseSigns_11 rfl rfl ?_
    refine eg_getI dX6_releaseSigns_12 fl_6_205 rfl trivial (obC_6 z1) ?_
    refine eg_iconst dX6_releaseSigns_15 ic_1 ?_
    refine eg_isub dX6_releaseSigns_16 ?_
    obtain ⟨g2, h⟩ := h
    refine eg_iaload dX6_releaseSigns_17 (arC_36 z1 g2) ?_
    obtain ⟨q5, hq5, h⟩ := h
    refine eg_callSI (av := [vI (M.1 (36, 0) ((M.1 (6, 0) 10) - (1 : Int32)).toNatClampNeg)]) (st := []) dX6_releaseSigns_18 ml_6_241 rfl rfl (Nat.le_of_ble_eq_true rfl) (eg_dd (by omega)) hq5 (fun x3 M4 hp => ?_)
    have h := h x3 M4 hp
    refine eg_iload_n 1 dX6_releaseSigns_21 rfl rfl ?_
    refine eg_icmp_lt (tgt := 61) dX6_releaseSigns_22 rfl (fun c6 => ?_) (fun c6 => ?_)
    · have h := h.1 c6
      exact eg_vreturn dX6_releaseSigns_61 rfl h
    · have h := h.2 c6
      refine eg_aload_n 0 dX6_releaseSigns_25 rfl rfl ?_
      refine eg_dup dX6_releaseSigns_26 rfl ?_
      refine eg_getI dX6_releaseSigns_27 fl_6_205 rfl trivial (obC_6 z1) ?_
      refine eg_iconst dX6_releaseSigns_30 ic_1 ?_
      refine eg_isub dX6_releaseSigns_31 ?_
      refine en_putI dX6_releaseSigns_32 fl_6_205 rfl rfl (obC_6 z1) (fun M7 eM7 => ?_)
      have h := h M7 eM7
      refine eg_aload_n 0 dX6_releaseSigns_35 rfl rfl ?_
      obtain ⟨p8, hp8, ep8, h⟩ := h
      refine eg_getD dX6_releaseSigns_36 fl_6_23 rfl rfl (obC_6 z1) ?_ (Or.inr (eg_nne ep8))
      rw [ep8]
      refine eg_getR dX6_releaseSigns_39 fl_6_180 rfl rfl (obC_5 hp8) ?_
      show eg_W κ gC mtX6_releaseSigns d (eQV κ gC post) 42 [(0, vR (6, 0)), (1, vI l1)] [vR (3, p8)] M7
      refine eg_sipush dX6_releaseSigns_42 sp_10000 ?_
      refine eg_aload_n 0 dX6_releaseSigns_45 rfl rfl ?_
      refine eg_getR dX6_releaseSigns_46 fl_6_15 rfl rfl (obC_6 z1) ?_
      show eg_W κ gC mtX6_releaseSigns d (eQV κ gC post) 49 [(0, vR (6, 0)), (1, vI l1)] [vR (36, 0), vI (10000 : Int32), vR (3, p8)] M7
      refine eg_aload_n 0 dX6_releaseSigns_49 rfl rfl ?_
      refine eg_getI dX6_releaseSigns_50 fl_6_205 rfl trivial (obC_6 z1) ?_
      obtain ⟨g9, h⟩ := h
      refine eg_iaload dX6_releaseSigns_53 (arC_36 z1 g9) ?_
      refine eg_iadd dX6_releaseSigns_54 ?_
      obtain ⟨g10, h⟩ := h
      refine eg_callVV (av := [vI ((10000 : Int32) + (M7.1 (36, 0) (M7.1 (6, 0) 10).toNatClampNeg))]) (st := []) dX6_releaseSigns_55 ml_6_238 rfl rfl (obC_3 hp8) (by decide) rfl (Nat.le_of_ble_eq_true rfl) (eg_dd (by omega)) (sX3_addKnot (by omega) M7 p8 ((10000 : Int32) + (M7.1 (36, 0) (M7.1 (6, 0) 10).toNatClampNeg)) hp8 g10) (fun M11 eM11 => ?_)
      have h := h M11 eM11
      refine eg_goto (tgt := 0) dX6_releaseSigns_58 rfl ?_
      exact h
theorem dX6_rankOf_0 : decode cX6_rankOf 0 = .ok (.iload_n 0, 1) := by decide +kernel
theorem dX6_rankOf_1 : decode cX6_rankOf 1 = .ok (.tableswitch 112 13 33 #[99, 101, 103, 112, 112, 112, 112, 112, 112, 112, 112, 107, 107, 109, 109, 105, 105, 105, 105, 105, 105], 99) := by decide +kernel
theorem dX6_rankOf_100 : decode cX6_rankOf 100 = .ok (.iconst 1, 1) := by decide +kernel
theorem dX6_rankOf_101 : decode cX6_rankOf 101 = .ok (.ireturn, 1) := by decide +kernel
theorem dX6_rankOf_102 : decode cX6_rankOf 102 = .ok (.iconst 2, 1) := by decide +kernel
theorem dX6_rankOf_103 : decode cX6_rankOf 103 = .ok (.ireturn, 1) := by decide +kernel
theorem dX6_rankOf_104 : decode cX6_rankOf 104 = .ok (.iconst 3, 1) := by decide +kernel
theorem dX6_rankOf_105 : decode cX6_rankOf 105 = .ok (.ireturn, 1) := by decide +kernel
theorem dX6_rankOf_106 : decode cX6_rankOf 106 = .ok (.iconst 4, 1) := by decide +kernel
theorem dX6_rankOf_107 : decode cX6_rankOf 107 = .ok (.ireturn, 1) := by decide +kernel
theorem dX6_rankOf_108 : decode cX6_rankOf 108 = .ok (.iconst 5, 1) := by decide +kernel
theorem dX6_rankOf_109 : decode cX6_rankOf 109 = .ok (.ireturn, 1) := by decide +kernel
theorem dX6_rankOf_110 : decode cX6_rankOf 110 = .ok (.bipush 6, 2) := by decide +kernel
theorem dX6_rankOf_112 : decode cX6_rankOf 112 = .ok (.ireturn, 1) := by decide +kernel
theorem dX6_rankOf_113 : decode cX6_rankOf 113 = .ok (.iconst 0, 1) := by decide +kernel
theorem dX6_rankOf_114 : decode cX6_rankOf 114 = .ok (.ireturn, 1) := by decide +kernel
set_option maxRecDepth 10000 in
theorem vX6_rankOf_0 {κ : eg_K} {d : Nat} {post : Int32 → eg_H → Prop} (M : eg_H) (l0 : Int32) (h : ((¬ l0 = (13 : Int32)) → (¬ l0 = (14 : Int32)) → (¬ l0 = (15 : Int32)) → (¬ l0 = (24 : Int32)) → (¬ l0 = (25 : Int32)) → (¬ l0 = (26 : Int32)) → (¬ l0 = (27 : Int32)) → (¬ l0 = (28 : Int32)) → (¬ l0 = (29 : Int32)) → (¬ l0 = (30 : Int32)) → (¬ l0 = (31 : Int32)) → (¬ l0 = (32 : Int32)) → (¬ l0 = (33 : Int32)) → eg_W κ gC mtX6_rankOf d (eQI κ gC post) 113 [] [] M) ∧ (l0 = (13 : Int32) → post (1 : Int32) M) ∧ (l0 = (14 : Int32) → post (2 : Int32) M) ∧ (l0 = (15 : Int32) → post (3 : Int32) M) ∧ (l0 = (24 : Int32) → post (5 : Int32) M) ∧ (l0 = (25 : Int32) → post (5 : Int32) M) ∧ (l0 = (26 : Int32) → post (6 : Int32) M) ∧ (l0 = (27 : Int32) → post (6 : Int32) M) ∧ (l0 = (28 : Int32) → eg_W κ gC mtX6_rankOf d (eQI κ gC post) 106 [] [] M) ∧ (l0 = (29 : Int32) → eg_W κ gC mtX6_rankOf d (eQI κ gC post) 106 [] [] M) ∧ (l0 = (30 : Int32) → eg_W κ gC mtX6_rankOf d (eQI κ gC post) 106 [] [] M) ∧ (l0 = (31 : Int32) → eg_W κ gC mtX6_rankOf d (eQI κ gC post) 106 [] [] M) ∧ (l0 = (32 : Int32) → eg_W κ gC mtX6_rankOf d (eQI κ gC post) 106 [] [] M) ∧ (l0 = (33 : Int32) → eg_W κ gC mtX6_rankOf d (eQI κ gC post) 106 [] [] M)) : eg_W κ gC mtX6_rankOf d (eQI κ gC post) 0 [(0, vI l0)] [] M := by
  refine eg_iload_n 0 dX6_rankOf_0 rfl rfl ?_
  have J : (¬ l0 = (13 : Int32)) → (¬ l0 = (14 : Int32)) → (¬ l0 = (15 : Int32)) → (¬ l0 = (24 : Int32)) → (¬ l0 = (25 : Int32)) → (¬ l0 = (26 : Int32)) → (¬ l0 = (27 : Int32)) → (¬ l0 = (28 : Int32)) → (¬ l0 = (29 : Int32)) → (¬ l0 = (30 : Int32)) → (¬ l0 = (31 : Int32)) → (¬ l0 = (32 : Int32)) → (¬ l0 = (33 : Int32)) → eg_W κ gC mtX6_rankOf d (eQI κ gC post) 113 [(0, vI l0)] [] M := by
    intro c0_ c1_ c2_ c11_ c12_ c13_ c14_ c15_ c16_ c17_ c18_ c19_ c20_
    have h := h.1 c0_ c1_ c2_ c11_ c12_ c13_ c14_ c15_ c16_ c17_ c18_ c19_ c20_
    refine eg_sub [] rfl ?_
    exact h
  by_cases c0_ : l0 = (13 : Int32)
  · refine eg_tabI (tgt := 100) dX6_rankOf_1 (by rw [c0_]; decide) (by rw [c0_]; decide) (off := 99) (by rw [c0_]; rfl) rfl ?_
    have h := h.2.1 c0_
    refine eg_iconst dX6_rankOf_100 ic_1 ?_
    exact eg_ireturn dX6_rankOf_101 rfl h
  by_cases c1_ : l0 = (14 : Int32)
  · refine eg_tabI (tgt := 102) dX6_rankOf_1 (by rw [c1_]; decide) (by rw [c1_]; decide) (off := 101) (by rw [c1_]; rfl) rfl ?_
    have h := h.2.2.1 c1_
    refine eg_iconst dX6_rankOf_102 ic_2 ?_
    exact eg_ireturn dX6_rankOf_103 rfl h
  by_cases c2_ : l0 = (15 : Int32)
  · refine eg_tabI (tgt := 104) dX6_rankOf_1 (by rw [c2_]; decide) (by rw [c2_]; decide) (off := 103) (by rw [c2_]; rfl) rfl ?_
    have h := h.2.2.2.1 c2_
    refine eg_iconst dX6_rankOf_104 ic_3 ?_
    exact eg_ireturn dX6_rankOf_105 rfl h
  by_cases c3_ : l0 = (16 : Int32)
  · refine eg_tabI (tgt := 113) dX6_rankOf_1 (by rw [c3_]; decide) (by rw [c3_]; decide) (off := 112) (by rw [c3_]; rfl) rfl ?_
    exact J (by rw [c3_]; decide) (by rw [c3_]; decide) (by rw [c3_]; decide) (by rw [c3_]; decide) (by rw [c3_]; decide) (by rw [c3_]; decide) (by rw [c3_]; decide) (by rw [c3_]; decide) (by rw [c3_]; decide) (by rw [c3_]; decide) (by rw [c3_]; decide) (by rw [c3_]; decide) (by rw [c3_]; decide)
  by_cases c4_ : l0 = (17 : Int32)
  · refine eg_tabI (tgt := 113) dX6_rankOf_1 (by rw [c4_]; decide) (by rw [c4_]; decide) (off := 112) (by rw [c4_]; rfl) rfl ?_
    exact J (by rw [c4_]; decide) (by rw [c4_]; decide) (by rw [c4_]; decide) (by rw [c4_]; decide) (by rw [c4_]; decide) (by rw [c4_]; decide) (by rw [c4_]; decide) (by rw [c4_]; decide) (by rw [c4_]; decide) (by rw [c4_]; decide) (by rw [c4_]; decide) (by rw [c4_]; decide) (by rw [c4_]; decide)
  by_cases c5_ : l0 = (18 : Int32)
  · refine eg_tabI (tgt := 113) dX6_rankOf_1 (by rw [c5_]; decide) (by rw [c5_]; decide) (off := 112) (by rw [c5_]; rfl) rfl ?_
    exact J (by rw [c5_]; decide) (by rw [c5_]; decide) (by rw [c5_]; decide) (by rw [c5_]; decide) (by rw [c5_]; decide) (by rw [c5_]; decide) (by rw [c5_]; decide) (by rw [c5_]; decide) (by rw [c5_]; decide) (by rw [c5_]; decide) (by rw [c5_]; decide) (by rw [c5_]; decide) (by rw [c5_]; decide)
  by_cases c6_ : l0 = (19 : Int32)
  · refine eg_tabI (tgt := 113) dX6_rankOf_1 (by rw [c6_]; decide) (by rw [c6_]; decide) (off := 112) (by rw [c6_]; rfl) rfl ?_
    exact J (by rw [c6_]; decide) (by rw [c6_]; decide) (by rw [c6_]; decide) (by rw [c6_]; decide) (by rw [c6_]; decide) (by rw [c6_]; decide) (by rw [c6_]; decide) (by rw [c6_]; decide) (by rw [c6_]; decide) (by rw [c6_]; decide) (by rw [c6_]; decide) (by rw [c6_]; decide) (by rw [c6_]; decide)
  by_cases c7_ : l0 = (20 : Int32)
  · refine eg_tabI (tgt := 113) dX6_rankOf_1 (by rw [c7_]; decide) (by rw [c7_]; decide) (off := 112) (by rw [c7_]; rfl) rfl ?_
    exact J (by rw [c7_]; decide) (by rw [c7_]; decide) (by rw [c7_]; decide) (by rw [c7_]; decide) (by rw [c7_]; decide) (by rw [c7_]; decide) (by rw [c7_]; decide) (by rw [c7_]; decide) (by rw [c7_]; decide) (by rw [c7_]; decide) (by rw [c7_]; decide) (by rw [c7_]; decide) (by rw [c7_]; decide)
  by_cases c8_ : l0 = (21 : Int32)
  · refine eg_tabI (tgt := 113) dX6_rankOf_1 (by rw [c8_]; decide) (by rw [c8_]; decide) (off := 112) (by rw [c8_]; rfl) rfl ?_
    exact J (by rw [c8_]; decide) (by rw [c8_]; decide) (by rw [c8_]; decide) (by rw [c8_]; decide) (by rw [c8_]; decide) (by rw [c8_]; decide) (by rw [c8_]; decide) (by rw [c8_]; decide) (by rw [c8_]; decide) (by rw [c8_]; decide) (by rw [c8_]; decide) (by rw [c8_]; decide) (by rw [c8_]; decide)
  by_cases c9_ : l0 = (22 : Int32)
  · refine eg_tabI (tgt := 113) dX6_rankOf_1 (by rw [c9_]; decide) (by rw [c9_]; decide) (off := 112) (by rw [c9_]; rfl) rfl ?_
    exact J (by rw [c9_]; decide) (by rw [c9_]; decide) (by rw [c9_]; decide) (by rw [c9_]; decide) (by rw [c9_]; decide) (by rw [c9_]; decide) (by rw [c9_]; decide) (by rw [c9_]; decide) (by rw [c9_]; decide) (by rw [c9_]; decide) (by rw [c9_]; decide) (by rw [c9_]; decide) (by rw [c9_]; decide)
  by_cases c10_ : l0 = (23 : Int32)
  · refine eg_tabI (tgt := 113) dX6_rankOf_1 (by rw [c10_]; decide) (by rw [c10_]; decide) (off := 112) (by rw [c10_]; rfl) rfl ?_
    exact J (by rw [c10_]; decide) (by rw [c10_]; decide) (by rw [c10_]; decide) (by rw [c10_]; decide) (by rw [c10_]; decide) (by rw [c10_]; decide) (by rw [c10_]; decide) (by rw [c10_]; decide) (by rw [c10_]; decide) (by rw [c10_]; decide) (by rw [c10_]; decide) (by rw [c10_]; decide) (by rw [c10_]; decide)
  by_cases c11_ : l0 = (24 : Int32)
  · refine eg_tabI (tgt := 108) dX6_rankOf_1 (by rw [c11_]; decide) (by rw [c11_]; decide) (off := 107) (by rw [c11_]; rfl) rfl ?_
    have h := h.2.2.2.2.1 c11_
    refine eg_iconst dX6_rankOf_108 ic_5 ?_
    exact eg_ireturn dX6_rankOf_109 rfl h
  by_cases c12_ : l0 = (25 : Int32)
  · refine eg_tabI (tgt := 108) dX6_rankOf_1 (by rw [c12_]; decide) (by rw [c12_]; decide) (off := 107) (by rw [c12_]; rfl) rfl ?_
    have h := h.2.2.2.2.2.1 c12_
    refine eg_iconst dX6_rankOf_108 ic_5 ?_
    exact eg_ireturn dX6_rankOf_109 rfl h
  by_cases c13_ : l0 = (26 : Int32)
  · refine eg_tabI (tgt := 110) dX6_rankOf_1 (by rw [c13_]; decide) (by rw [c13_]; decide) (off := 109) (by rw [c13_]; rfl) rfl ?_
    have h := h.2.2.2.2.2.2.1 c13_
    refine eg_bipush dX6_rankOf_110 bp_6 ?_
    exact eg_ireturn dX6_rankOf_112 rfl h
  by_cases c14_ : l0 = (27 : Int32)
  · refine eg_tabI (tgt := 110) dX6_rankOf_1 (by rw [c14_]; decide) (by rw [c14_]; decide) (off := 109) (by rw [c14_]; rfl) rfl ?_
    have h := h.2.2.2.2.2.2.2.1 c14_
    refine eg_bipush dX6_rankOf_110 bp_6 ?_
    exact eg_ireturn dX6_rankOf_112 rfl h
  by_cases c15_ : l0 = (28 : Int32)
  · refine eg_tabI (tgt := 106) dX6_rankOf_1 (by rw [c15_]; decide) (by rw [c15_]; decide) (off := 105) (by rw [c15_]; rfl) rfl ?_
    have h := h.2.2.2.2.2.2.2.2.1 c15_
    refine eg_sub [] rfl ?_
    exact h
  by_cases c16_ : l0 = (29 : Int32)
  · refine eg_tabI (tgt := 106) dX6_rankOf_1 (by rw [c16_]; decide) (by rw [c16_]; decide) (off := 105) (by rw [c16_]; rfl) rfl ?_
    have h := h.2.2.2.2.2.2.2.2.2.1 c16_
    refine eg_sub [] rfl ?_
    exact h
  by_cases c17_ : l0 = (30 : Int32)
  · refine eg_tabI (tgt := 106) dX6_rankOf_1 (by rw [c17_]; decide) (by rw [c17_]; decide) (off := 105) (by rw [c17_]; rfl) rfl ?_
    have h := h.2.2.2.2.2.2.2.2.2.2.1 c17_
    refine eg_sub [] rfl ?_
    exact h
  by_cases c18_ : l0 = (31 : Int32)
  · refine eg_tabI (tgt := 106) dX6_rankOf_1 (by rw [c18_]; decide) (by rw [c18_]; decide) (off := 105) (by rw [c18_]; rfl) rfl ?_
    have h := h.2.2.2.2.2.2.2.2.2.2.2.1 c18_
    refine eg_sub [] rfl ?_
    exact h
  by_cases c19_ : l0 = (32 : Int32)
  · refine eg_tabI (tgt := 106) dX6_rankOf_1 (by rw [c19_]; decide) (by rw [c19_]; decide) (off := 105) (by rw [c19_]; rfl) rfl ?_
    have h := h.2.2.2.2.2.2.2.2.2.2.2.2.1 c19_
    refine eg_sub [] rfl ?_
    exact h
  by_cases c20_ : l0 = (33 : Int32)
  · refine eg_tabI (tgt := 106) dX6_rankOf_1 (by rw [c20_]; decide) (by rw [c20_]; decide) (off := 105) (by rw [c20_]; rfl) rfl ?_
    have h := h.2.2.2.2.2.2.2.2.2.2.2.2.2 c20_
    refine eg_sub [] rfl ?_
    exact h
  refine eg_tabO (tgt := 113) dX6_rankOf_1 ?_ rfl (J c0_ c1_ c2_ c11_ c12_ c13_ c14_ c15_ c16_ c17_ c18_ c19_ c20_)
  have t0_ := eg_ti 13 (by decide) c0_
  have t1_ := eg_ti 14 (by decide) c1_
  have t2_ := eg_ti 15 (by decide) c2_
  have t3_ := eg_ti 16 (by decide) c3_
  have t4_ := eg_ti 17 (by decide) c4_
  have t5_ := eg_ti 18 (by decide) c5_
  have t6_ := eg_ti 19 (by decide) c6_
  have t7_ := eg_ti 20 (by decide) c7_
  have t8_ := eg_ti 21 (by decide) c8_
  have t9_ := eg_ti 22 (by decide) c9_
  have t10_ := eg_ti 23 (by decide) c10_
  have t11_ := eg_ti 24 (by decide) c11_
  have t12_ := eg_ti 25 (by decide) c12_
  have t13_ := eg_ti 26 (by decide) c13_
  have t14_ := eg_ti 27 (by decide) c14_
  have t15_ := eg_ti 28 (by decide) c15_
  have t16_ := eg_ti 29 (by decide) c16_
  have t17_ := eg_ti 30 (by decide) c17_
  have t18_ := eg_ti 31 (by decide) c18_
  have t19_ := eg_ti 32 (by decide) c19_
  have t20_ := eg_ti 33 (by decide) c20_
  omega
set_option maxRecDepth 10000 in
theorem vX6_rankOf_106 {κ : eg_K} {d : Nat} {post : Int32 → eg_H → Prop} (M : eg_H)  (h : post (4 : Int32) M) : eg_W κ gC mtX6_rankOf d (eQI κ gC post) 106 [] [] M := by
  refine eg_iconst dX6_rankOf_106 ic_4 ?_
  exact eg_ireturn dX6_rankOf_107 rfl h
set_option maxRecDepth 10000 in
theorem vX6_rankOf_113 {κ : eg_K} {d : Nat} {post : Int32 → eg_H → Prop} (M : eg_H)  (h : post (0 : Int32) M) : eg_W κ gC mtX6_rankOf d (eQI κ gC post) 113 [] [] M := by
  refine eg_iconst dX6_rankOf_113 ic_0 ?_
  exact eg_ireturn dX6_rankOf_114 rfl h
theorem dX10_text_0 : decode cX10_text 0 = .ok (.iload_n 1, 1) := by decide +kernel
theorem dX10_text_1 : decode cX10_text 1 = .ok (.ifCond .lt 11, 3) := by decide +kernel
theorem dX10_text_4 : decode cX10_text 4 = .ok (.iload_n 1, 1) := by decide +kernel
theorem dX10_text_5 : decode cX10_text 5 = .ok (.aload_n 0, 1) := by decide +kernel
theorem dX10_text_6 : decode cX10_text 6 = .ok (.getfield 78, 3) := by decide +kernel
theorem dX10_text_9 : decode cX10_text 9 = .ok (.if_icmp .le 6, 3) := by decide +kernel
theorem dX10_text_12 : decode cX10_text 12 = .ok (.bipush (-2), 2) := by decide +kernel
theorem dX10_text_14 : decode cX10_text 14 = .ok (.ireturn, 1) := by decide +kernel
theorem dX10_text_15 : decode cX10_text 15 = .ok (.aload_n 0, 1) := by decide +kernel
theorem dX10_text_16 : decode cX10_text 16 = .ok (.iconst 0, 1) := by decide +kernel
theorem dX10_text_17 : decode cX10_text 17 = .ok (.putfield 78, 3) := by decide +kernel
theorem dX10_text_20 : decode cX10_text 20 = .ok (.aload_n 0, 1) := by decide +kernel
theorem dX10_text_21 : decode cX10_text 21 = .ok (.getfield 25, 3) := by decide +kernel
theorem dX10_text_24 : decode cX10_text 24 = .ok (.aload_n 0, 1) := by decide +kernel
theorem dX10_text_25 : decode cX10_text 25 = .ok (.getfield 36, 3) := by decide +kernel
theorem dX10_text_28 : decode cX10_text 28 = .ok (.iload_n 1, 1) := by decide +kernel
theorem dX10_text_29 : decode cX10_text 29 = .ok (.invokevirtual 86, 3) := by decide +kernel
theorem dX10_text_32 : decode cX10_text 32 = .ok (.iconst 0, 1) := by decide +kernel
theorem dX10_text_33 : decode cX10_text 33 = .ok (.istore_n 2, 1) := by decide +kernel
theorem dX10_text_34 : decode cX10_text 34 = .ok (.iload_n 2, 1) := by decide +kernel
theorem dX10_text_35 : decode cX10_text 35 = .ok (.iload_n 1, 1) := by decide +kernel
theorem dX10_text_36 : decode cX10_text 36 = .ok (.if_icmp .ge 36, 3) := by decide +kernel
theorem dX10_text_39 : decode cX10_text 39 = .ok (.aload_n 0, 1) := by decide +kernel
theorem dX10_text_40 : decode cX10_text 40 = .ok (.getfield 25, 3) := by decide +kernel
theorem dX10_text_43 : decode cX10_text 43 = .ok (.invokevirtual 90, 3) := by decide +kernel
theorem dX10_text_46 : decode cX10_text 46 = .ok (.ifCond .ne 26, 3) := by decide +kernel
theorem dX10_text_49 : decode cX10_text 49 = .ok (.aload_n 0, 1) := by decide +kernel
theorem dX10_text_50 : decode cX10_text 50 = .ok (.getfield 25, 3) := by decide +kernel
theorem dX10_text_53 : decode cX10_text 53 = .ok (.invokevirtual 94, 3) := by decide +kernel
theorem dX10_text_56 : decode cX10_text 56 = .ok (.ifCond .eq 10, 3) := by decide +kernel
theorem dX10_text_59 : decode cX10_text 59 = .ok (.aload_n 0, 1) := by decide +kernel
theorem dX10_text_60 : decode cX10_text 60 = .ok (.getfield 25, 3) := by decide +kernel
theorem dX10_text_63 : decode cX10_text 63 = .ok (.invokevirtual 97, 3) := by decide +kernel
theorem dX10_text_66 : decode cX10_text 66 = .ok (.iinc 2 1, 3) := by decide +kernel
theorem dX10_text_69 : decode cX10_text 69 = .ok (.goto (-35), 3) := by decide +kernel
theorem dX10_text_72 : decode cX10_text 72 = .ok (.aload_n 0, 1) := by decide +kernel
theorem dX10_text_73 : decode cX10_text 73 = .ok (.getfield 25, 3) := by decide +kernel
theorem dX10_text_76 : decode cX10_text 76 = .ok (.getfield 100, 3) := by decide +kernel
theorem dX10_text_79 : decode cX10_text 79 = .ok (.ifCond .eq 5, 3) := by decide +kernel
theorem dX10_text_82 : decode cX10_text 82 = .ok (.iconst (-1), 1) := by decide +kernel
theorem dX10_text_83 : decode cX10_text 83 = .ok (.ireturn, 1) := by decide +kernel
theorem dX10_text_84 : decode cX10_text 84 = .ok (.aload_n 0, 1) := by decide +kernel
theorem dX10_text_85 : decode cX10_text 85 = .ok (.getfield 32, 3) := by decide +kernel
theorem dX10_text_88 : decode cX10_text 88 = .ok (.astore_n 2, 1) := by decide +kernel
theorem dX10_text_89 : decode cX10_text 89 = .ok (.aload_n 0, 1) := by decide +kernel
theorem dX10_text_90 : decode cX10_text 90 = .ok (.aload_n 0, 1) := by decide +kernel
theorem dX10_text_91 : decode cX10_text 91 = .ok (.getfield 36, 3) := by decide +kernel
theorem dX10_text_94 : decode cX10_text 94 = .ok (.putfield 32, 3) := by decide +kernel
theorem dX10_text_97 : decode cX10_text 97 = .ok (.aload_n 0, 1) := by decide +kernel
theorem dX10_text_98 : decode cX10_text 98 = .ok (.aload_n 2, 1) := by decide +kernel
theorem dX10_text_99 : decode cX10_text 99 = .ok (.putfield 36, 3) := by decide +kernel
theorem dX10_text_102 : decode cX10_text 102 = .ok (.aload_n 0, 1) := by decide +kernel
theorem dX10_text_103 : decode cX10_text 103 = .ok (.invokevirtual 103, 3) := by decide +kernel
theorem dX10_text_106 : decode cX10_text 106 = .ok (.aload_n 0, 1) := by decide +kernel
theorem dX10_text_107 : decode cX10_text 107 = .ok (.getfield 65, 3) := by decide +kernel
theorem dX10_text_110 : decode cX10_text 110 = .ok (.aload_n 0, 1) := by decide +kernel
theorem dX10_text_111 : decode cX10_text 111 = .ok (.getfield 32, 3) := by decide +kernel
theorem dX10_text_114 : decode cX10_text 114 = .ok (.aload_n 0, 1) := by decide +kernel
theorem dX10_text_115 : decode cX10_text 115 = .ok (.getfield 50, 3) := by decide +kernel
theorem dX10_text_118 : decode cX10_text 118 = .ok (.invokevirtual 106, 3) := by decide +kernel
theorem dX10_text_121 : decode cX10_text 121 = .ok (.aload_n 0, 1) := by decide +kernel
theorem dX10_text_122 : decode cX10_text 122 = .ok (.getfield 46, 3) := by decide +kernel
theorem dX10_text_125 : decode cX10_text 125 = .ok (.invokevirtual 59, 3) := by decide +kernel
theorem dX10_text_128 : decode cX10_text 128 = .ok (.aload_n 0, 1) := by decide +kernel
theorem dX10_text_129 : decode cX10_text 129 = .ok (.iconst 0, 1) := by decide +kernel
theorem dX10_text_130 : decode cX10_text 130 = .ok (.putfield 109, 3) := by decide +kernel
theorem dX10_text_133 : decode cX10_text 133 = .ok (.aload_n 0, 1) := by decide +kernel
theorem dX10_text_134 : decode cX10_text 134 = .ok (.iconst 0, 1) := by decide +kernel
theorem dX10_text_135 : decode cX10_text 135 = .ok (.putfield 113, 3) := by decide +kernel
theorem dX10_text_138 : decode cX10_text 138 = .ok (.aload_n 0, 1) := by decide +kernel
theorem dX10_text_139 : decode cX10_text 139 = .ok (.getfield 25, 3) := by decide +kernel
theorem dX10_text_142 : decode cX10_text 142 = .ok (.getfield 116, 3) := by decide +kernel
theorem dX10_text_145 : decode cX10_text 145 = .ok (.ireturn, 1) := by decide +kernel
set_option maxRecDepth 10000 in
theorem vX10_text_0 {κ : eg_K} {d : Nat} (hd : 1 ≤ d) {post : Int32 → eg_H → Prop} (M : eg_H) (l1 : Int32) (h : (l1 < 0 → post (-2 : Int32) M) ∧ ((¬ l1 < 0) → (l1 ≤ (M.1 (10, 0) 1) → (∀ M3 : eg_H, M3 = (sI M (10, 0) 1 (0 : Int32)) → (∃ p4 : Nat, p4 < 2 ∧ M3.2.2 (10, 0) 4 = (5, p4) ∧ eCV κ gC mtX6_begin d [vR (6, 0), vR (5, p4), vI l1] M3 (fun M5 => eg_W κ gC mtX10_text d (eQI κ gC post) 34 [(0, vR (10, 0)), (1, vI l1), (2, vI (0 : Int32))] [] M5)))) ∧ ((¬ l1 ≤ (M.1 (10, 0) 1)) → post (-2 : Int32) M))) : eg_W κ gC mtX10_text d (eQI κ gC post) 0 [(0, vR (10, 0)), (1, vI l1)] [] M := by
  refine eg_iload_n 1 dX10_text_0 rfl rfl ?_
  refine eg_if_lt (tgt := 12) dX10_text_1 rfl (fun c1 => ?_) (fun c1 => ?_)
  · have h := h.1 c1
    refine eg_bipush dX10_text_12 bp_m2 ?_
    exact eg_ireturn dX10_text_14 rfl h
  · have h := h.2 c1
    refine eg_iload_n 1 dX10_text_4 rfl rfl ?_
    refine eg_aload_n 0 dX10_text_5 rfl rfl ?_
    refine eg_getI dX10_text_6 fl_10_78 rfl trivial (obC_10 z1) ?_
    refine eg_icmp_le (tgt := 15) dX10_text_9 rfl (fun c2 => ?_) (fun c2 => ?_)
    · have h := h.1 c2
      refine eg_aload_n 0 dX10_text_15 rfl rfl ?_
      refine eg_iconst dX10_text_16 ic_0 ?_
      refine en_putI dX10_text_17 fl_10_78 rfl rfl (obC_10 z1) (fun M3 eM3 => ?_)
      have h := h M3 eM3
      refine eg_aload_n 0 dX10_text_20 rfl rfl ?_
      refine eg_getR dX10_text_21 fl_10_25 rfl rfl (obC_10 z1) ?_
      show eg_W κ gC mtX10_text d (eQI κ gC post) 24 [(0, vR (10, 0)), (1, vI l1)] [vR (6, 0)] M3
      refine eg_aload_n 0 dX10_text_24 rfl rfl ?_
      refine eg_getD dX10_text_25 fl_10_36 rfl rfl (obC_10 z1) ?_
      obtain ⟨p4, hp4, ep4, h⟩ := h
      rw [ep4]
      refine eg_iload_n 1 dX10_text_28 rfl rfl ?_
      obtain ⟨q6, hq6, h⟩ := h
      refine eg_callVV (av := [vR (5, p4), vI l1]) (st := []) dX10_text_29 ml_10_86 rfl rfl (obC_6 z1) (by decide) rfl (Nat.le_of_ble_eq_true rfl) (eg_dd (by omega)) hq6 (fun M5 hp => ?_)
      have h := h M5 hp
      refine eg_iconst dX10_text_32 ic_0 ?_
      refine eg_istore_n dX10_text_33 rfl (by decide) (ls1 := [(2, vI (0 : Int32)), (0, vR (10, 0)), (1, vI l1)]) rfl ?_
      refine eg_sub [1, 2, 0] rfl ?_
      exact h
    · have h := h.2 c2
      refine eg_bipush dX10_text_12 bp_m2 ?_
      exact eg_ireturn dX10_text_14 rfl h
set_option maxRecDepth 10000 in
theorem vX10_text_34 {κ : eg_K} {d : Nat} (hd : 1 ≤ d) {post : Int32 → eg_H → Prop} (M : eg_H) (l1 : Int32) (l2 : Int32) (h : (l1 ≤ l2 → eg_W κ gC mtX10_text d (eQI κ gC post) 72 [(0, vR (10, 0))] [] M) ∧ ((¬ l1 ≤ l2) → (∀ x3 : Int32, x3 = (fX6_atEnd M) → ((¬ x3 = 0) → eg_W κ gC mtX10_text d (eQI κ gC post) 72 [(0, vR (10, 0))] [] M) ∧ (x3 = 0 → eCI κ gC mtX6_readLine d [vR (6, 0)] M (fun x5 M6 => (x5 = 0 → (∀ x9 : Int32, x9 = (l2 + (1 : Int32)) → eg_W κ gC mtX10_text d (eQI κ gC post) 34 [(0, vR (10, 0)), (1, vI l1), (2, vI x9)] [] M6)) ∧ ((¬ x5 = 0) → eCV κ gC mtX6_endLine d [vR (6, 0)] M6 (fun M10 => (∀ x12 : Int32, x12 = (l2 + (1 : Int32)) → eg_W κ gC mtX10_text d (eQI κ gC post) 34 [(0, vR (10, 0)), (1, vI l1), (2, vI x12)] [] M10)))))))) : eg_W κ gC mtX10_text d (eQI κ gC post) 34 [(0, vR (10, 0)), (1, vI l1), (2, vI l2)] [] M := by
  refine eg_iload_n 2 dX10_text_34 rfl rfl ?_
  refine eg_iload_n 1 dX10_text_35 rfl rfl ?_
  refine eg_icmp_ge (tgt := 72) dX10_text_36 rfl (fun c1 => ?_) (fun c1 => ?_)
  · have h := h.1 c1
    refine eg_sub [0] rfl ?_
    exact h
  · have h := h.2 c1
    refine eg_aload_n 0 dX10_text_39 rfl rfl ?_
    refine eg_getR dX10_text_40 fl_10_25 rfl rfl (obC_10 z1) ?_
    show eg_W κ gC mtX10_text d (eQI κ gC post) 43 [(0, vR (10, 0)), (1, vI l1), (2, vI l2)] [vR (6, 0)] M
    refine eg_callVI (av := []) (st := []) dX10_text_43 ml_10_90 rfl rfl (obC_6 z1) (by decide) rfl (Nat.le_of_ble_eq_true rfl) (eg_dd (by omega)) (sX6_atEnd (by omega) M   ) (fun x3 M2 hp => ?_)
    obtain ⟨ex3, eM2⟩ := hp
    rw [eM2]
    have h := h x3 ex3
    refine eg_if_ne (tgt := 72) dX10_text_46 rfl (fun c4 => ?_) (fun c4 => ?_)
    · have h := h.1 c4
      refine eg_sub [0] rfl ?_
      exact h
    · have h := h.2 c4
      refine eg_aload_n 0 dX10_text_49 rfl rfl ?_
      refine eg_getR dX10_text_50 fl_10_25 rfl rfl (obC_10 z1) ?_
      show eg_W κ gC mtX10_text d (eQI κ gC post) 53 [(0, vR (10, 0)), (1, vI l1), (2, vI l2)] [vR (6, 0)] M
      obtain ⟨q7, hq7, h⟩ := h
      refine eg_callVI (av := []) (st := []) dX10_text_53 ml_10_94 rfl rfl (obC_6 z1) (by decide) rfl (Nat.le_of_ble_eq_true rfl) (eg_dd (by omega)) hq7 (fun x5 M6 hp => ?_)
      have h := h x5 M6 hp
      refine eg_if_eq (tgt := 66) dX10_text_56 rfl (fun c8 => ?_) (fun c8 => ?_)
      · have h := h.1 c8
        refine en_iinc (f := fun x9 => [(2, vI x9), (0, vR (10, 0)), (1, vI l1)]) 2 dX10_text_66 rfl rfl (by decide) rfl (fun x9 ex9 => ?_)
        have h := h x9 ex9
        refine eg_goto (tgt := 34) dX10_text_69 rfl ?_
        refine eg_sub [1, 2, 0] rfl ?_
        exact h
      · have h := h.2 c8
        refine eg_aload_n 0 dX10_text_59 rfl rfl ?_
        refine eg_getR dX10_text_60 fl_10_25 rfl rfl (obC_10 z1) ?_
        show eg_W κ gC mtX10_text d (eQI κ gC post) 63 [(0, vR (10, 0)), (1, vI l1), (2, vI l2)] [vR (6, 0)] M6
        obtain ⟨q11, hq11, h⟩ := h
        refine eg_callVV (av := []) (st := []) dX10_text_63 ml_10_97 rfl rfl (obC_6 z1) (by decide) rfl (Nat.le_of_ble_eq_true rfl) (eg_dd (by omega)) hq11 (fun M10 hp => ?_)
        have h := h M10 hp
        refine en_iinc (f := fun x12 => [(2, vI x12), (0, vR (10, 0)), (1, vI l1)]) 2 dX10_text_66 rfl rfl (by decide) rfl (fun x12 ex12 => ?_)
        have h := h x12 ex12
        refine eg_goto (tgt := 34) dX10_text_69 rfl ?_
        refine eg_sub [1, 2, 0] rfl ?_
        exact h
set_option maxRecDepth 10000 in
theorem vX10_text_72 {κ : eg_K} {d : Nat} (hd : 1 ≤ d) {post : Int32 → eg_H → Prop} (M : eg_H)  (h : ((M.1 (6, 0) 2) = 0 → (∃ p2 : Nat, p2 < 2 ∧ M.2.2 (10, 0) 3 = (5, p2) ∧ (∃ p3 : Nat, p3 < 2 ∧ M.2.2 (10, 0) 4 = (5, p3) ∧ (∀ M4 : eg_H, M4 = (sR M (10, 0) 3 (5, p3)) → (∀ M5 : eg_H, M5 = (sR M4 (10, 0) 4 (5, p2)) → (∀ M6 : eg_H, M6 = (fX10_orderByNumbers M5) → (∃ p8 : Nat, p8 < 2 ∧ M6.2.2 (10, 0) 3 = (5, p8) ∧ eCV κ gC mtX7_begin d [vR (7, 0), vR (5, p8), vR (52, 0)] M6 (fun M9 => (∀ M11 : eg_H, M11 = (fX8_clear M9) → (∀ M13 : eg_H, M13 = (sI M11 (10, 0) 8 (0 : Int32)) → (∀ M14 : eg_H, M14 = (sI M13 (10, 0) 11 (0 : Int32)) → post (M14.1 (6, 0) 4) M14))))))))))) ∧ ((¬ (M.1 (6, 0) 2) = 0) → post (-1 : Int32) M)) : eg_W κ gC mtX10_text d (eQI κ gC post) 72 [(0, vR (10, 0))] [] M := by
  refine eg_aload_n 0 dX10_text_72 rfl rfl ?_
  refine eg_getR dX10_text_73 fl_10_25 rfl rfl (obC_10 z1) ?_
  show eg_W κ gC mtX10_text d (eQI κ gC post) 76 [(0, vR (10, 0))] [vR (6, 0)] M
  refine eg_getI dX10_text_76 fl_10_100 rfl trivial (obC_6 z1) ?_
  refine eg_if_eq (tgt := 84) dX10_text_79 rfl (fun c1 => ?_) (fun c1 => ?_)
  · have h := h.1 c1
    refine eg_aload_n 0 dX10_text_84 rfl rfl ?_
    refine eg_getD dX10_text_85 fl_10_32 rfl rfl (obC_10 z1) ?_
    obtain ⟨p2, hp2, ep2, h⟩ := h
    rw [ep2]
    refine eg_astore_n dX10_text_88 rfl (by decide) (ls1 := [(2, vR (5, p2)), (0, vR (10, 0))]) rfl ?_
    refine eg_aload_n 1 dX10_text_89 rfl rfl ?_
    refine eg_aload_n 1 dX10_text_90 rfl rfl ?_
    refine eg_getD dX10_text_91 fl_10_36 rfl rfl (obC_10 z1) ?_
    obtain ⟨p3, hp3, ep3, h⟩ := h
    rw [ep3]
    refine en_putD dX10_text_94 fl_10_32 rfl rfl rfl (obC_10 z1) (fun M4 eM4 => ?_)
    have h := h M4 eM4
    refine eg_aload_n 1 dX10_text_97 rfl rfl ?_
    refine eg_aload_n 0 dX10_text_98 rfl rfl ?_
    refine en_putD dX10_text_99 fl_10_36 rfl rfl rfl (obC_10 z1) (fun M5 eM5 => ?_)
    have h := h M5 eM5
    refine eg_aload_n 1 dX10_text_102 rfl rfl ?_
    refine eg_callVV (av := []) (st := []) dX10_text_103 ml_10_103 rfl rfl (obC_10 z1) (by decide) rfl (Nat.le_of_ble_eq_true rfl) (eg_dd (by omega)) (sX10_orderByNumbers (by omega) M5   ) (fun M6 eM6 => ?_)
    have h := h M6 eM6
    refine eg_aload_n 1 dX10_text_106 rfl rfl ?_
    refine eg_getR dX10_text_107 fl_10_65 rfl rfl (obC_10 z1) ?_
    show eg_W κ gC mtX10_text d (eQI κ gC post) 110 [(2, vR (5, p2)), (0, vR (10, 0))] [vR (7, 0)] M6
    refine eg_aload_n 1 dX10_text_110 rfl rfl ?_
    refine eg_getD dX10_text_111 fl_10_32 rfl rfl (obC_10 z1) ?_
    obtain ⟨p8, hp8, ep8, h⟩ := h
    rw [ep8]
    refine eg_aload_n 1 dX10_text_114 rfl rfl ?_
    refine eg_getR dX10_text_115 fl_10_50 rfl rfl (obC_10 z1) ?_
    show eg_W κ gC mtX10_text d (eQI κ gC post) 118 [(2, vR (5, p2)), (0, vR (10, 0))] [vR (52, 0), vR (5, p8), vR (7, 0)] M6
    obtain ⟨q10, hq10, h⟩ := h
    refine eg_callVV (av := [vR (5, p8), vR (52, 0)]) (st := []) dX10_text_118 ml_10_106 rfl rfl (obC_7 (by decide : 0 < 4)) (by decide) rfl (Nat.le_of_ble_eq_true rfl) (eg_dd (by omega)) hq10 (fun M9 hp => ?_)
    have h := h M9 hp
    refine eg_aload_n 1 dX10_text_121 rfl rfl ?_
    refine eg_getR dX10_text_122 fl_10_46 rfl rfl (obC_10 z1) ?_
    show eg_W κ gC mtX10_text d (eQI κ gC post) 125 [(2, vR (5, p2)), (0, vR (10, 0))] [vR (8, 0)] M9
    refine eg_callVV (av := []) (st := []) dX10_text_125 ml_10_59 rfl rfl (obC_8 z1) (by decide) rfl (Nat.le_of_ble_eq_true rfl) (eg_dd (by omega)) (sX8_clear (by omega) M9   ) (fun M11 eM11 => ?_)
    have h := h M11 eM11
    refine eg_aload_n 1 dX10_text_128 rfl rfl ?_
    refine eg_iconst dX10_text_129 ic_0 ?_
    refine en_putZ dX10_text_130 fl_10_109 rfl rfl (Or.inl rfl) (obC_10 z1) (fun M13 eM13 => ?_)
    have h := h M13 eM13
    refine eg_aload_n 1 dX10_text_133 rfl rfl ?_
    refine eg_iconst dX10_text_134 ic_0 ?_
    refine en_putI dX10_text_135 fl_10_113 rfl rfl (obC_10 z1) (fun M14 eM14 => ?_)
    have h := h M14 eM14
    refine eg_aload_n 1 dX10_text_138 rfl rfl ?_
    refine eg_getR dX10_text_139 fl_10_25 rfl rfl (obC_10 z1) ?_
    show eg_W κ gC mtX10_text d (eQI κ gC post) 142 [(2, vR (5, p2)), (0, vR (10, 0))] [vR (6, 0)] M14
    refine eg_getI dX10_text_142 fl_10_116 rfl trivial (obC_6 z1) ?_
    exact eg_ireturn dX10_text_145 rfl h
  · have h := h.2 c1
    refine eg_iconst dX10_text_82 ic_m1 ?_
    exact eg_ireturn dX10_text_83 rfl h
