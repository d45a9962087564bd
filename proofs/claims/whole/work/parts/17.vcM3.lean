theorem dX11_takersAt_0 : decode cX11_takersAt 0 = .ok (.iconst 0, 1) := by decide +kernel
theorem dX11_takersAt_1 : decode cX11_takersAt 1 = .ok (.istore_n 2, 1) := by decide +kernel
theorem dX11_takersAt_2 : decode cX11_takersAt 2 = .ok (.iconst 0, 1) := by decide +kernel
theorem dX11_takersAt_3 : decode cX11_takersAt 3 = .ok (.istore_n 3, 1) := by decide +kernel
theorem dX11_takersAt_4 : decode cX11_takersAt 4 = .ok (.iload_n 3, 1) := by decide +kernel
theorem dX11_takersAt_5 : decode cX11_takersAt 5 = .ok (.aload_n 0, 1) := by decide +kernel
theorem dX11_takersAt_6 : decode cX11_takersAt 6 = .ok (.getfield 69, 3) := by decide +kernel
theorem dX11_takersAt_9 : decode cX11_takersAt 9 = .ok (.iconst 1, 1) := by decide +kernel
theorem dX11_takersAt_10 : decode cX11_takersAt 10 = .ok (.iaload, 1) := by decide +kernel
theorem dX11_takersAt_11 : decode cX11_takersAt 11 = .ok (.if_icmp .ge 60, 3) := by decide +kernel
theorem dX11_takersAt_14 : decode cX11_takersAt 14 = .ok (.iload_n 2, 1) := by decide +kernel
theorem dX11_takersAt_15 : decode cX11_takersAt 15 = .ok (.aload_n 0, 1) := by decide +kernel
theorem dX11_takersAt_16 : decode cX11_takersAt 16 = .ok (.getfield 69, 3) := by decide +kernel
theorem dX11_takersAt_19 : decode cX11_takersAt 19 = .ok (.aload_n 0, 1) := by decide +kernel
theorem dX11_takersAt_20 : decode cX11_takersAt 20 = .ok (.getfield 69, 3) := by decide +kernel
theorem dX11_takersAt_23 : decode cX11_takersAt 23 = .ok (.iconst 2, 1) := by decide +kernel
theorem dX11_takersAt_24 : decode cX11_takersAt 24 = .ok (.iload_n 3, 1) := by decide +kernel
theorem dX11_takersAt_25 : decode cX11_takersAt 25 = .ok (.iadd, 1) := by decide +kernel
theorem dX11_takersAt_26 : decode cX11_takersAt 26 = .ok (.iaload, 1) := by decide +kernel
theorem dX11_takersAt_27 : decode cX11_takersAt 27 = .ok (.invokestatic 372, 3) := by decide +kernel
theorem dX11_takersAt_30 : decode cX11_takersAt 30 = .ok (.iconst 3, 1) := by decide +kernel
theorem dX11_takersAt_31 : decode cX11_takersAt 31 = .ok (.iadd, 1) := by decide +kernel
theorem dX11_takersAt_32 : decode cX11_takersAt 32 = .ok (.iaload, 1) := by decide +kernel
theorem dX11_takersAt_33 : decode cX11_takersAt 33 = .ok (.ifCond .le 29, 3) := by decide +kernel
theorem dX11_takersAt_36 : decode cX11_takersAt 36 = .ok (.aload_n 0, 1) := by decide +kernel
theorem dX11_takersAt_37 : decode cX11_takersAt 37 = .ok (.getfield 69, 3) := by decide +kernel
theorem dX11_takersAt_40 : decode cX11_takersAt 40 = .ok (.aload_n 0, 1) := by decide +kernel
theorem dX11_takersAt_41 : decode cX11_takersAt 41 = .ok (.getfield 69, 3) := by decide +kernel
theorem dX11_takersAt_44 : decode cX11_takersAt 44 = .ok (.iconst 2, 1) := by decide +kernel
theorem dX11_takersAt_45 : decode cX11_takersAt 45 = .ok (.iload_n 3, 1) := by decide +kernel
theorem dX11_takersAt_46 : decode cX11_takersAt 46 = .ok (.iadd, 1) := by decide +kernel
theorem dX11_takersAt_47 : decode cX11_takersAt 47 = .ok (.iaload, 1) := by decide +kernel
theorem dX11_takersAt_48 : decode cX11_takersAt 48 = .ok (.invokestatic 372, 3) := by decide +kernel
theorem dX11_takersAt_51 : decode cX11_takersAt 51 = .ok (.iconst 1, 1) := by decide +kernel
theorem dX11_takersAt_52 : decode cX11_takersAt 52 = .ok (.iadd, 1) := by decide +kernel
theorem dX11_takersAt_53 : decode cX11_takersAt 53 = .ok (.iaload, 1) := by decide +kernel
theorem dX11_takersAt_54 : decode cX11_takersAt 54 = .ok (.iload_n 1, 1) := by decide +kernel
theorem dX11_takersAt_55 : decode cX11_takersAt 55 = .ok (.if_icmp .ne 7, 3) := by decide +kernel
theorem dX11_takersAt_58 : decode cX11_takersAt 58 = .ok (.iconst 1, 1) := by decide +kernel
theorem dX11_takersAt_59 : decode cX11_takersAt 59 = .ok (.goto 4, 3) := by decide +kernel
theorem dX11_takersAt_62 : decode cX11_takersAt 62 = .ok (.iconst 0, 1) := by decide +kernel
theorem dX11_takersAt_63 : decode cX11_takersAt 63 = .ok (.iadd, 1) := by decide +kernel
theorem dX11_takersAt_64 : decode cX11_takersAt 64 = .ok (.istore_n 2, 1) := by decide +kernel
theorem dX11_takersAt_65 : decode cX11_takersAt 65 = .ok (.iinc 3 1, 3) := by decide +kernel
theorem dX11_takersAt_68 : decode cX11_takersAt 68 = .ok (.goto (-64), 3) := by decide +kernel
theorem dX11_takersAt_71 : decode cX11_takersAt 71 = .ok (.iload_n 2, 1) := by decide +kernel
theorem dX11_takersAt_72 : decode cX11_takersAt 72 = .ok (.ireturn, 1) := by decide +kernel
set_option maxRecDepth 10000 in
theorem vX11_takersAt_0 {κ : eg_K} {d : Nat} {post : Int32 → eg_H → Prop} (M : eg_H) (l1 : Int32) (h : eg_W κ gM mtX11_takersAt d (eQI κ gM post) 4 [(0, vR (60, 0)), (1, vI l1), (2, vI (0 : Int32)), (3, vI (0 : Int32))] [] M) : eg_W κ gM mtX11_takersAt d (eQI κ gM post) 0 [(0, vR (60, 0)), (1, vI l1)] [] M := by
  refine eg_iconst dX11_takersAt_0 ic_0 ?_
  refine eg_istore_n dX11_takersAt_1 rfl (by decide) (ls1 := [(2, vI (0 : Int32)), (0, vR (60, 0)), (1, vI l1)]) rfl ?_
  refine eg_iconst dX11_takersAt_2 ic_0 ?_
  refine eg_istore_n dX11_takersAt_3 rfl (by decide) (ls1 := [(3, vI (0 : Int32)), (2, vI (0 : Int32)), (0, vR (60, 0)), (1, vI l1)]) rfl ?_
  refine eg_sub [2, 3, 1, 0] rfl ?_
  exact h
set_option maxRecDepth 10000 in
theorem vX11_takersAt_4 {κ : eg_K} {d : Nat} (hd : 1 ≤ d) {post : Int32 → eg_H → Prop} (M : eg_H) (l1 : Int32) (l2 : Int32) (l3 : Int32) (h : (vp_in (1 : Int32) 366 ∧ ((M.1 (110, 0) (1 : Int32).toNatClampNeg) ≤ l3 → post l2 M) ∧ ((¬ (M.1 (110, 0) (1 : Int32).toNatClampNeg) ≤ l3) → (vp_in ((2 : Int32) + l3) 366 ∧ eCI κ gM mtX11_at d [vI (M.1 (110, 0) ((2 : Int32) + l3).toNatClampNeg)] M (fun x4 M5 => (vp_in (x4 + (3 : Int32)) 366 ∧ ((M5.1 (110, 0) (x4 + (3 : Int32)).toNatClampNeg) ≤ 0 → (∀ x9 : Int32, x9 = (l2 + (0 : Int32)) → (∀ x10 : Int32, x10 = (l3 + (1 : Int32)) → eg_W κ gM mtX11_takersAt d (eQI κ gM post) 4 [(0, vR (60, 0)), (1, vI l1), (2, vI x9), (3, vI x10)] [] M5))) ∧ ((¬ (M5.1 (110, 0) (x4 + (3 : Int32)).toNatClampNeg) ≤ 0) → eCI κ gM mtX11_at d [vI (M5.1 (110, 0) ((2 : Int32) + l3).toNatClampNeg)] M5 (fun x11 M12 => (vp_in (x11 + (1 : Int32)) 366 ∧ (∀ x15 : Int32, x15 = ((if (¬ (M12.1 (110, 0) (x11 + (1 : Int32)).toNatClampNeg) = l1) then (0 : Int32) else (1 : Int32))) → (∀ x16 : Int32, x16 = (l2 + x15) → (∀ x17 : Int32, x17 = (l3 + (1 : Int32)) → eg_W κ gM mtX11_takersAt d (eQI κ gM post) 4 [(0, vR (60, 0)), (1, vI l1), (2, vI x16), (3, vI x17)] [] M12)))))))))))) : eg_W κ gM mtX11_takersAt d (eQI κ gM post) 4 [(0, vR (60, 0)), (1, vI l1), (2, vI l2), (3, vI l3)] [] M := by
  refine eg_iload_n 3 dX11_takersAt_4 rfl rfl ?_
  refine eg_aload_n 0 dX11_takersAt_5 rfl rfl ?_
  refine eg_getR dX11_takersAt_6 fl_11_69 rfl rfl (obM_60 z1) ?_
  show eg_W κ gM mtX11_takersAt d (eQI κ gM post) 9 [(0, vR (60, 0)), (1, vI l1), (2, vI l2), (3, vI l3)] [vR (110, 0), vI l3] M
  refine eg_iconst dX11_takersAt_9 ic_1 ?_
  obtain ⟨g1, h⟩ := h
  refine eg_iaload dX11_takersAt_10 (arM_110 z1 g1) ?_
  refine eg_icmp_ge (tgt := 71) dX11_takersAt_11 rfl (fun c2 => ?_) (fun c2 => ?_)
  · have h := h.1 c2
    refine eg_iload_n 2 dX11_takersAt_71 rfl rfl ?_
    exact eg_ireturn dX11_takersAt_72 rfl h
  · have h := h.2 c2
    refine eg_iload_n 2 dX11_takersAt_14 rfl rfl ?_
    refine eg_aload_n 0 dX11_takersAt_15 rfl rfl ?_
    refine eg_getR dX11_takersAt_16 fl_11_69 rfl rfl (obM_60 z1) ?_
    show eg_W κ gM mtX11_takersAt d (eQI κ gM post) 19 [(0, vR (60, 0)), (1, vI l1), (2, vI l2), (3, vI l3)] [vR (110, 0), vI l2] M
    refine eg_aload_n 0 dX11_takersAt_19 rfl rfl ?_
    refine eg_getR dX11_takersAt_20 fl_11_69 rfl rfl (obM_60 z1) ?_
    show eg_W κ gM mtX11_takersAt d (eQI κ gM post) 23 [(0, vR (60, 0)), (1, vI l1), (2, vI l2), (3, vI l3)] [vR (110, 0), vR (110, 0), vI l2] M
    refine eg_iconst dX11_takersAt_23 ic_2 ?_
    refine eg_iload_n 3 dX11_takersAt_24 rfl rfl ?_
    refine eg_iadd dX11_takersAt_25 ?_
    obtain ⟨g3, h⟩ := h
    refine eg_iaload dX11_takersAt_26 (arM_110 z1 g3) ?_
    obtain ⟨q6, hq6, h⟩ := h
    refine eg_callSI (av := [vI (M.1 (110, 0) ((2 : Int32) + l3).toNatClampNeg)]) (st := [vR (110, 0), vI l2]) dX11_takersAt_27 ml_11_372 rfl rfl (Nat.le_of_ble_eq_true rfl) (eg_dd hd) hq6 (fun x4 M5 hp => ?_)
    have h := h x4 M5 hp
    refine eg_iconst dX11_takersAt_30 ic_3 ?_
    refine eg_iadd dX11_takersAt_31 ?_
    obtain ⟨g7, h⟩ := h
    refine eg_iaload dX11_takersAt_32 (arM_110 z1 g7) ?_
    refine eg_if_le (tgt := 62) dX11_takersAt_33 rfl (fun c8 => ?_) (fun c8 => ?_)
    · have h := h.1 c8
      refine eg_iconst dX11_takersAt_62 ic_0 ?_
      refine eg_iadd dX11_takersAt_63 ?_
      refine en_istore_n (f := fun x9 => [(2, vI x9), (0, vR (60, 0)), (1, vI l1), (3, vI l3)]) dX11_takersAt_64 rfl (by decide) rfl (fun x9 ex9 => ?_)
      have h := h x9 ex9
      refine en_iinc (f := fun x10 => [(3, vI x10), (2, vI x9), (0, vR (60, 0)), (1, vI l1)]) 3 dX11_takersAt_65 rfl rfl (by decide) rfl (fun x10 ex10 => ?_)
      have h := h x10 ex10
      refine eg_goto (tgt := 4) dX11_takersAt_68 rfl ?_
      refine eg_sub [2, 3, 1, 0] rfl ?_
      exact h
    · have h := h.2 c8
      refine eg_aload_n 0 dX11_takersAt_36 rfl rfl ?_
      refine eg_getR dX11_takersAt_37 fl_11_69 rfl rfl (obM_60 z1) ?_
      show eg_W κ gM mtX11_takersAt d (eQI κ gM post) 40 [(0, vR (60, 0)), (1, vI l1), (2, vI l2), (3, vI l3)] [vR (110, 0), vI l2] M5
      refine eg_aload_n 0 dX11_takersAt_40 rfl rfl ?_
      refine eg_getR dX11_takersAt_41 fl_11_69 rfl rfl (obM_60 z1) ?_
      show eg_W κ gM mtX11_takersAt d (eQI κ gM post) 44 [(0, vR (60, 0)), (1, vI l1), (2, vI l2), (3, vI l3)] [vR (110, 0), vR (110, 0), vI l2] M5
      refine eg_iconst dX11_takersAt_44 ic_2 ?_
      refine eg_iload_n 3 dX11_takersAt_45 rfl rfl ?_
      refine eg_iadd dX11_takersAt_46 ?_
      refine eg_iaload dX11_takersAt_47 (arM_110 z1 g3) ?_
      obtain ⟨q13, hq13, h⟩ := h
      refine eg_callSI (av := [vI (M5.1 (110, 0) ((2 : Int32) + l3).toNatClampNeg)]) (st := [vR (110, 0), vI l2]) dX11_takersAt_48 ml_11_372 rfl rfl (Nat.le_of_ble_eq_true rfl) (eg_dd hd) hq13 (fun x11 M12 hp => ?_)
      have h := h x11 M12 hp
      refine eg_iconst dX11_takersAt_51 ic_1 ?_
      refine eg_iadd dX11_takersAt_52 ?_
      obtain ⟨g14, h⟩ := h
      refine eg_iaload dX11_takersAt_53 (arM_110 z1 g14) ?_
      refine eg_iload_n 1 dX11_takersAt_54 rfl rfl ?_
      have J : ∀ x15 : Int32, x15 = (if (¬ (M12.1 (110, 0) (x11 + (1 : Int32)).toNatClampNeg) = l1) then (0 : Int32) else (1 : Int32)) → eg_W κ gM mtX11_takersAt d (eQI κ gM post) 63 [(0, vR (60, 0)), (1, vI l1), (2, vI l2), (3, vI l3)] [vI x15, vI l2] M12 := by
        intro x15 ex15
        have h := h x15 ex15
        refine eg_iadd dX11_takersAt_63 ?_
        refine en_istore_n (f := fun x16 => [(2, vI x16), (0, vR (60, 0)), (1, vI l1), (3, vI l3)]) dX11_takersAt_64 rfl (by decide) rfl (fun x16 ex16 => ?_)
        have h := h x16 ex16
        refine en_iinc (f := fun x17 => [(3, vI x17), (2, vI x16), (0, vR (60, 0)), (1, vI l1)]) 3 dX11_takersAt_65 rfl rfl (by decide) rfl (fun x17 ex17 => ?_)
        have h := h x17 ex17
        refine eg_goto (tgt := 4) dX11_takersAt_68 rfl ?_
        refine eg_sub [2, 3, 1, 0] rfl ?_
        exact h
      clear h
      refine eg_icmp_ne (tgt := 62) dX11_takersAt_55 rfl (fun c18 => ?_) (fun c18 => ?_)
      · refine eg_iconst dX11_takersAt_62 ic_0 ?_
        exact J _ (by rw [if_pos c18])
      · have c19 : ¬ (¬ (M12.1 (110, 0) (x11 + (1 : Int32)).toNatClampNeg) = l1) := fun z => z c18
        refine eg_iconst dX11_takersAt_58 ic_1 ?_
        refine eg_goto (tgt := 63) dX11_takersAt_59 rfl ?_
        exact J _ (by rw [if_neg c19])
theorem dX11_heaps_0 : decode cX11_heaps 0 = .ok (.iload_n 1, 1) := by decide +kernel
theorem dX11_heaps_1 : decode cX11_heaps 1 = .ok (.invokestatic 372, 3) := by decide +kernel
theorem dX11_heaps_4 : decode cX11_heaps 4 = .ok (.istore_n 3, 1) := by decide +kernel
theorem dX11_heaps_5 : decode cX11_heaps 5 = .ok (.aload_n 0, 1) := by decide +kernel
theorem dX11_heaps_6 : decode cX11_heaps 6 = .ok (.getfield 69, 3) := by decide +kernel
theorem dX11_heaps_9 : decode cX11_heaps 9 = .ok (.iload_n 3, 1) := by decide +kernel
theorem dX11_heaps_10 : decode cX11_heaps 10 = .ok (.bipush 14, 2) := by decide +kernel
theorem dX11_heaps_12 : decode cX11_heaps 12 = .ok (.iadd, 1) := by decide +kernel
theorem dX11_heaps_13 : decode cX11_heaps 13 = .ok (.iload_n 2, 1) := by decide +kernel
theorem dX11_heaps_14 : decode cX11_heaps 14 = .ok (.iadd, 1) := by decide +kernel
theorem dX11_heaps_15 : decode cX11_heaps 15 = .ok (.iaload, 1) := by decide +kernel
theorem dX11_heaps_16 : decode cX11_heaps 16 = .ok (.istore 4, 2) := by decide +kernel
theorem dX11_heaps_18 : decode cX11_heaps 18 = .ok (.aload_n 0, 1) := by decide +kernel
theorem dX11_heaps_19 : decode cX11_heaps 19 = .ok (.iload_n 1, 1) := by decide +kernel
theorem dX11_heaps_20 : decode cX11_heaps 20 = .ok (.iload_n 2, 1) := by decide +kernel
theorem dX11_heaps_21 : decode cX11_heaps 21 = .ok (.invokevirtual 434, 3) := by decide +kernel
theorem dX11_heaps_24 : decode cX11_heaps 24 = .ok (.aload_n 0, 1) := by decide +kernel
theorem dX11_heaps_25 : decode cX11_heaps 25 = .ok (.iconst 0, 1) := by decide +kernel
theorem dX11_heaps_26 : decode cX11_heaps 26 = .ok (.iload 4, 2) := by decide +kernel
theorem dX11_heaps_28 : decode cX11_heaps 28 = .ok (.i2l, 1) := by decide +kernel
theorem dX11_heaps_29 : decode cX11_heaps 29 = .ok (.invokevirtual 427, 3) := by decide +kernel
theorem dX11_heaps_32 : decode cX11_heaps 32 = .ok (.lstore 5, 2) := by decide +kernel
theorem dX11_heaps_34 : decode cX11_heaps 34 = .ok (.aload_n 0, 1) := by decide +kernel
theorem dX11_heaps_35 : decode cX11_heaps 35 = .ok (.getfield 69, 3) := by decide +kernel
theorem dX11_heaps_38 : decode cX11_heaps 38 = .ok (.iload_n 3, 1) := by decide +kernel
theorem dX11_heaps_39 : decode cX11_heaps 39 = .ok (.iconst 2, 1) := by decide +kernel
theorem dX11_heaps_40 : decode cX11_heaps 40 = .ok (.iadd, 1) := by decide +kernel
theorem dX11_heaps_41 : decode cX11_heaps 41 = .ok (.iaload, 1) := by decide +kernel
theorem dX11_heaps_42 : decode cX11_heaps 42 = .ok (.i2l, 1) := by decide +kernel
theorem dX11_heaps_43 : decode cX11_heaps 43 = .ok (.lstore 7, 2) := by decide +kernel
theorem dX11_heaps_45 : decode cX11_heaps 45 = .ok (.aload_n 0, 1) := by decide +kernel
theorem dX11_heaps_46 : decode cX11_heaps 46 = .ok (.iload_n 2, 1) := by decide +kernel
theorem dX11_heaps_47 : decode cX11_heaps 47 = .ok (.invokevirtual 415, 3) := by decide +kernel
theorem dX11_heaps_50 : decode cX11_heaps 50 = .ok (.ifCond .eq 31, 3) := by decide +kernel
theorem dX11_heaps_53 : decode cX11_heaps 53 = .ok (.aload_n 0, 1) := by decide +kernel
theorem dX11_heaps_54 : decode cX11_heaps 54 = .ok (.getfield 69, 3) := by decide +kernel
theorem dX11_heaps_57 : decode cX11_heaps 57 = .ok (.iload_n 2, 1) := by decide +kernel
theorem dX11_heaps_58 : decode cX11_heaps 58 = .ok (.invokestatic 377, 3) := by decide +kernel
theorem dX11_heaps_61 : decode cX11_heaps 61 = .ok (.iaload, 1) := by decide +kernel
theorem dX11_heaps_62 : decode cX11_heaps 62 = .ok (.i2l, 1) := by decide +kernel
theorem dX11_heaps_63 : decode cX11_heaps 63 = .ok (.lload 7, 2) := by decide +kernel
theorem dX11_heaps_65 : decode cX11_heaps 65 = .ok (.lcmp, 1) := by decide +kernel
theorem dX11_heaps_66 : decode cX11_heaps 66 = .ok (.ifCond .ge 15, 3) := by decide +kernel
theorem dX11_heaps_69 : decode cX11_heaps 69 = .ok (.aload_n 0, 1) := by decide +kernel
theorem dX11_heaps_70 : decode cX11_heaps 70 = .ok (.getfield 69, 3) := by decide +kernel
theorem dX11_heaps_73 : decode cX11_heaps 73 = .ok (.iload_n 2, 1) := by decide +kernel
theorem dX11_heaps_74 : decode cX11_heaps 74 = .ok (.invokestatic 377, 3) := by decide +kernel
theorem dX11_heaps_77 : decode cX11_heaps 77 = .ok (.iaload, 1) := by decide +kernel
theorem dX11_heaps_78 : decode cX11_heaps 78 = .ok (.i2l, 1) := by decide +kernel
theorem dX11_heaps_79 : decode cX11_heaps 79 = .ok (.lstore 7, 2) := by decide +kernel
theorem dX11_heaps_81 : decode cX11_heaps 81 = .ok (.lload 5, 2) := by decide +kernel
theorem dX11_heaps_83 : decode cX11_heaps 83 = .ok (.lconst 0, 1) := by decide +kernel
theorem dX11_heaps_84 : decode cX11_heaps 84 = .ok (.lcmp, 1) := by decide +kernel
theorem dX11_heaps_85 : decode cX11_heaps 85 = .ok (.ifCond .ge 7, 3) := by decide +kernel
theorem dX11_heaps_88 : decode cX11_heaps 88 = .ok (.lconst 0, 1) := by decide +kernel
theorem dX11_heaps_89 : decode cX11_heaps 89 = .ok (.goto 18, 3) := by decide +kernel
theorem dX11_heaps_92 : decode cX11_heaps 92 = .ok (.lload 5, 2) := by decide +kernel
theorem dX11_heaps_94 : decode cX11_heaps 94 = .ok (.lload 7, 2) := by decide +kernel
theorem dX11_heaps_96 : decode cX11_heaps 96 = .ok (.lcmp, 1) := by decide +kernel
theorem dX11_heaps_97 : decode cX11_heaps 97 = .ok (.ifCond .le 8, 3) := by decide +kernel
theorem dX11_heaps_100 : decode cX11_heaps 100 = .ok (.lload 7, 2) := by decide +kernel
theorem dX11_heaps_102 : decode cX11_heaps 102 = .ok (.goto 5, 3) := by decide +kernel
theorem dX11_heaps_105 : decode cX11_heaps 105 = .ok (.lload 5, 2) := by decide +kernel
theorem dX11_heaps_107 : decode cX11_heaps 107 = .ok (.l2i, 1) := by decide +kernel
theorem dX11_heaps_108 : decode cX11_heaps 108 = .ok (.istore 9, 2) := by decide +kernel
theorem dX11_heaps_110 : decode cX11_heaps 110 = .ok (.aload_n 0, 1) := by decide +kernel
theorem dX11_heaps_111 : decode cX11_heaps 111 = .ok (.getfield 69, 3) := by decide +kernel
theorem dX11_heaps_114 : decode cX11_heaps 114 = .ok (.iload_n 3, 1) := by decide +kernel
theorem dX11_heaps_115 : decode cX11_heaps 115 = .ok (.iconst 2, 1) := by decide +kernel
theorem dX11_heaps_116 : decode cX11_heaps 116 = .ok (.iadd, 1) := by decide +kernel
theorem dX11_heaps_117 : decode cX11_heaps 117 = .ok (.dup2, 1) := by decide +kernel
theorem dX11_heaps_118 : decode cX11_heaps 118 = .ok (.iaload, 1) := by decide +kernel
theorem dX11_heaps_119 : decode cX11_heaps 119 = .ok (.iload 9, 2) := by decide +kernel
theorem dX11_heaps_121 : decode cX11_heaps 121 = .ok (.isub, 1) := by decide +kernel
theorem dX11_heaps_122 : decode cX11_heaps 122 = .ok (.iastore, 1) := by decide +kernel
theorem dX11_heaps_123 : decode cX11_heaps 123 = .ok (.aload_n 0, 1) := by decide +kernel
theorem dX11_heaps_124 : decode cX11_heaps 124 = .ok (.getfield 69, 3) := by decide +kernel
theorem dX11_heaps_127 : decode cX11_heaps 127 = .ok (.iload_n 3, 1) := by decide +kernel
theorem dX11_heaps_128 : decode cX11_heaps 128 = .ok (.iconst 5, 1) := by decide +kernel
theorem dX11_heaps_129 : decode cX11_heaps 129 = .ok (.iadd, 1) := by decide +kernel
theorem dX11_heaps_130 : decode cX11_heaps 130 = .ok (.dup2, 1) := by decide +kernel
theorem dX11_heaps_131 : decode cX11_heaps 131 = .ok (.iaload, 1) := by decide +kernel
theorem dX11_heaps_132 : decode cX11_heaps 132 = .ok (.iload 9, 2) := by decide +kernel
theorem dX11_heaps_134 : decode cX11_heaps 134 = .ok (.iadd, 1) := by decide +kernel
theorem dX11_heaps_135 : decode cX11_heaps 135 = .ok (.iastore, 1) := by decide +kernel
theorem dX11_heaps_136 : decode cX11_heaps 136 = .ok (.aload_n 0, 1) := by decide +kernel
theorem dX11_heaps_137 : decode cX11_heaps 137 = .ok (.getfield 69, 3) := by decide +kernel
theorem dX11_heaps_140 : decode cX11_heaps 140 = .ok (.iload_n 3, 1) := by decide +kernel
theorem dX11_heaps_141 : decode cX11_heaps 141 = .ok (.bipush 14, 2) := by decide +kernel
theorem dX11_heaps_143 : decode cX11_heaps 143 = .ok (.iadd, 1) := by decide +kernel
theorem dX11_heaps_144 : decode cX11_heaps 144 = .ok (.iload_n 2, 1) := by decide +kernel
theorem dX11_heaps_145 : decode cX11_heaps 145 = .ok (.iadd, 1) := by decide +kernel
theorem dX11_heaps_146 : decode cX11_heaps 146 = .ok (.iload 4, 2) := by decide +kernel
theorem dX11_heaps_148 : decode cX11_heaps 148 = .ok (.iload 9, 2) := by decide +kernel
theorem dX11_heaps_150 : decode cX11_heaps 150 = .ok (.if_icmp .le 11, 3) := by decide +kernel
theorem dX11_heaps_153 : decode cX11_heaps 153 = .ok (.iload 4, 2) := by decide +kernel
theorem dX11_heaps_155 : decode cX11_heaps 155 = .ok (.iload 9, 2) := by decide +kernel
theorem dX11_heaps_157 : decode cX11_heaps 157 = .ok (.isub, 1) := by decide +kernel
theorem dX11_heaps_158 : decode cX11_heaps 158 = .ok (.goto 4, 3) := by decide +kernel
theorem dX11_heaps_161 : decode cX11_heaps 161 = .ok (.iconst 0, 1) := by decide +kernel
theorem dX11_heaps_162 : decode cX11_heaps 162 = .ok (.iastore, 1) := by decide +kernel
theorem dX11_heaps_163 : decode cX11_heaps 163 = .ok (.aload_n 0, 1) := by decide +kernel
theorem dX11_heaps_164 : decode cX11_heaps 164 = .ok (.getfield 69, 3) := by decide +kernel
theorem dX11_heaps_167 : decode cX11_heaps 167 = .ok (.iload_n 2, 1) := by decide +kernel
theorem dX11_heaps_168 : decode cX11_heaps 168 = .ok (.invokestatic 377, 3) := by decide +kernel
theorem dX11_heaps_171 : decode cX11_heaps 171 = .ok (.iconst 3, 1) := by decide +kernel
theorem dX11_heaps_172 : decode cX11_heaps 172 = .ok (.iadd, 1) := by decide +kernel
theorem dX11_heaps_173 : decode cX11_heaps 173 = .ok (.dup2, 1) := by decide +kernel
theorem dX11_heaps_174 : decode cX11_heaps 174 = .ok (.iaload, 1) := by decide +kernel
theorem dX11_heaps_175 : decode cX11_heaps 175 = .ok (.iload 9, 2) := by decide +kernel
theorem dX11_heaps_177 : decode cX11_heaps 177 = .ok (.iadd, 1) := by decide +kernel
theorem dX11_heaps_178 : decode cX11_heaps 178 = .ok (.iastore, 1) := by decide +kernel
theorem dX11_heaps_179 : decode cX11_heaps 179 = .ok (.aload_n 0, 1) := by decide +kernel
theorem dX11_heaps_180 : decode cX11_heaps 180 = .ok (.getfield 69, 3) := by decide +kernel
theorem dX11_heaps_183 : decode cX11_heaps 183 = .ok (.iload_n 2, 1) := by decide +kernel
theorem dX11_heaps_184 : decode cX11_heaps 184 = .ok (.invokestatic 377, 3) := by decide +kernel
theorem dX11_heaps_187 : decode cX11_heaps 187 = .ok (.iconst 4, 1) := by decide +kernel
theorem dX11_heaps_188 : decode cX11_heaps 188 = .ok (.iadd, 1) := by decide +kernel
theorem dX11_heaps_189 : decode cX11_heaps 189 = .ok (.dup2, 1) := by decide +kernel
theorem dX11_heaps_190 : decode cX11_heaps 190 = .ok (.iaload, 1) := by decide +kernel
theorem dX11_heaps_191 : decode cX11_heaps 191 = .ok (.aload_n 0, 1) := by decide +kernel
theorem dX11_heaps_192 : decode cX11_heaps 192 = .ok (.iload_n 2, 1) := by decide +kernel
theorem dX11_heaps_193 : decode cX11_heaps 193 = .ok (.iconst 5, 1) := by decide +kernel
theorem dX11_heaps_194 : decode cX11_heaps 194 = .ok (.invokevirtual 366, 3) := by decide +kernel
theorem dX11_heaps_197 : decode cX11_heaps 197 = .ok (.ifCond .le 28, 3) := by decide +kernel
theorem dX11_heaps_200 : decode cX11_heaps 200 = .ok (.aload_n 0, 1) := by decide +kernel
theorem dX11_heaps_201 : decode cX11_heaps 201 = .ok (.getfield 69, 3) := by decide +kernel
theorem dX11_heaps_204 : decode cX11_heaps 204 = .ok (.iload_n 2, 1) := by decide +kernel
theorem dX11_heaps_205 : decode cX11_heaps 205 = .ok (.invokestatic 377, 3) := by decide +kernel
theorem dX11_heaps_208 : decode cX11_heaps 208 = .ok (.iconst 1, 1) := by decide +kernel
theorem dX11_heaps_209 : decode cX11_heaps 209 = .ok (.iadd, 1) := by decide +kernel
theorem dX11_heaps_210 : decode cX11_heaps 210 = .ok (.iaload, 1) := by decide +kernel
theorem dX11_heaps_211 : decode cX11_heaps 211 = .ok (.aload_n 0, 1) := by decide +kernel
theorem dX11_heaps_212 : decode cX11_heaps 212 = .ok (.iload_n 2, 1) := by decide +kernel
theorem dX11_heaps_213 : decode cX11_heaps 213 = .ok (.iconst 5, 1) := by decide +kernel
theorem dX11_heaps_214 : decode cX11_heaps 214 = .ok (.invokevirtual 366, 3) := by decide +kernel
theorem dX11_heaps_217 : decode cX11_heaps 217 = .ok (.if_icmp .lt 8, 3) := by decide +kernel
theorem dX11_heaps_220 : decode cX11_heaps 220 = .ok (.iload 9, 2) := by decide +kernel
theorem dX11_heaps_222 : decode cX11_heaps 222 = .ok (.goto 4, 3) := by decide +kernel
theorem dX11_heaps_225 : decode cX11_heaps 225 = .ok (.iconst 0, 1) := by decide +kernel
theorem dX11_heaps_226 : decode cX11_heaps 226 = .ok (.iadd, 1) := by decide +kernel
theorem dX11_heaps_227 : decode cX11_heaps 227 = .ok (.iastore, 1) := by decide +kernel
theorem dX11_heaps_228 : decode cX11_heaps 228 = .ok (.aload_n 0, 1) := by decide +kernel
theorem dX11_heaps_229 : decode cX11_heaps 229 = .ok (.getfield 69, 3) := by decide +kernel
theorem dX11_heaps_232 : decode cX11_heaps 232 = .ok (.iload_n 2, 1) := by decide +kernel
theorem dX11_heaps_233 : decode cX11_heaps 233 = .ok (.invokestatic 377, 3) := by decide +kernel
theorem dX11_heaps_236 : decode cX11_heaps 236 = .ok (.dup2, 1) := by decide +kernel
theorem dX11_heaps_237 : decode cX11_heaps 237 = .ok (.iaload, 1) := by decide +kernel
theorem dX11_heaps_238 : decode cX11_heaps 238 = .ok (.aload_n 0, 1) := by decide +kernel
theorem dX11_heaps_239 : decode cX11_heaps 239 = .ok (.iload_n 2, 1) := by decide +kernel
theorem dX11_heaps_240 : decode cX11_heaps 240 = .ok (.invokevirtual 415, 3) := by decide +kernel
theorem dX11_heaps_243 : decode cX11_heaps 243 = .ok (.ifCond .eq 8, 3) := by decide +kernel
theorem dX11_heaps_246 : decode cX11_heaps 246 = .ok (.iload 9, 2) := by decide +kernel
theorem dX11_heaps_248 : decode cX11_heaps 248 = .ok (.goto 4, 3) := by decide +kernel
theorem dX11_heaps_251 : decode cX11_heaps 251 = .ok (.iconst 0, 1) := by decide +kernel
theorem dX11_heaps_252 : decode cX11_heaps 252 = .ok (.isub, 1) := by decide +kernel
theorem dX11_heaps_253 : decode cX11_heaps 253 = .ok (.iastore, 1) := by decide +kernel
theorem dX11_heaps_254 : decode cX11_heaps 254 = .ok (.return_, 1) := by decide +kernel
set_option maxRecDepth 10000 in
theorem vX11_heaps_0 {κ : eg_K} {d : Nat} (hd : 1 ≤ d) {post : eg_H → Prop} (M : eg_H) (l1 : Int32) (l2 : Int32) (h : eCI κ gM mtX11_at d [vI l1] M (fun x1 M2 => (vp_in ((x1 + (14 : Int32)) + l2) 366 ∧ (∀ x5 : Int32, x5 = (M2.1 (110, 0) ((x1 + (14 : Int32)) + l2).toNatClampNeg) → eCV κ gM mtX11_layNamesAt d [vR (60, 0), vI l1, vI l2] M2 (fun M6 => eCL κ gM mtX11_lawOf d [vR (60, 0), vI (0 : Int32), vL (x5.toInt64)] M6 (fun x8 M9 => (vp_in (x1 + (2 : Int32)) 366 ∧ (∀ x12 : Int64, x12 = ((M9.1 (110, 0) (x1 + (2 : Int32)).toNatClampNeg).toInt64) → eCI κ gM mtX11_hasPan d [vR (60, 0), vI l2] M9 (fun x13 M14 => (x13 = 0 → eg_W κ gM mtX11_heaps d (eQV κ gM post) 81 [(0, vR (60, 0)), (2, vI l2), (3, vI x1), (4, vI x5), (5, vL x8), (7, vL x12)] [] M14) ∧ ((¬ x13 = 0) → eCI κ gM mtX11_pan d [vI l2] M14 (fun x17 M18 => (vp_in x17 366 ∧ (0 ≤ (lg_cmp ((M18.1 (110, 0) x17.toNatClampNeg).toInt64) x12) → eg_W κ gM mtX11_heaps d (eQV κ gM post) 81 [(0, vR (60, 0)), (2, vI l2), (3, vI x1), (4, vI x5), (5, vL x8), (7, vL x12)] [] M18) ∧ ((¬ 0 ≤ (lg_cmp ((M18.1 (110, 0) x17.toNatClampNeg).toInt64) x12)) → eCI κ gM mtX11_pan d [vI l2] M18 (fun x22 M23 => (vp_in x22 366 ∧ (∀ x26 : Int64, x26 = ((M23.1 (110, 0) x22.toNatClampNeg).toInt64) → eg_W κ gM mtX11_heaps d (eQV κ gM post) 81 [(0, vR (60, 0)), (2, vI l2), (3, vI x1), (4, vI x5), (5, vL x8), (7, vL x26)] [] M23)))))))))))))))) : eg_W κ gM mtX11_heaps d (eQV κ gM post) 0 [(0, vR (60, 0)), (1, vI l1), (2, vI l2)] [] M := by
  refine eg_iload_n 1 dX11_heaps_0 rfl rfl ?_
  obtain ⟨q3, hq3, h⟩ := h
  refine eg_callSI (av := [vI l1]) (st := []) dX11_heaps_1 ml_11_372 rfl rfl (Nat.le_of_ble_eq_true rfl) (eg_dd hd) hq3 (fun x1 M2 hp => ?_)
  have h := h x1 M2 hp
  refine eg_istore_n dX11_heaps_4 rfl (by decide) (ls1 := [(3, vI x1), (0, vR (60, 0)), (1, vI l1), (2, vI l2)]) rfl ?_
  refine eg_aload_n 1 dX11_heaps_5 rfl rfl ?_
  refine eg_getR dX11_heaps_6 fl_11_69 rfl rfl (obM_60 z1) ?_
  show eg_W κ gM mtX11_heaps d (eQV κ gM post) 9 [(3, vI x1), (0, vR (60, 0)), (1, vI l1), (2, vI l2)] [vR (110, 0)] M2
  refine eg_iload_n 0 dX11_heaps_9 rfl rfl ?_
  refine eg_bipush dX11_heaps_10 bp_14 ?_
  refine eg_iadd dX11_heaps_12 ?_
  refine eg_iload_n 3 dX11_heaps_13 rfl rfl ?_
  refine eg_iadd dX11_heaps_14 ?_
  obtain ⟨g4, h⟩ := h
  refine eg_iaload dX11_heaps_15 (arM_110 z1 g4) ?_
  refine en_istore (f := fun x5 => [(4, vI x5), (3, vI x1), (0, vR (60, 0)), (1, vI l1), (2, vI l2)]) dX11_heaps_16 (by decide) rfl (fun x5 ex5 => ?_)
  have h := h x5 ex5
  refine eg_aload_n 2 dX11_heaps_18 rfl rfl ?_
  refine eg_iload_n 3 dX11_heaps_19 rfl rfl ?_
  refine eg_iload_n 4 dX11_heaps_20 rfl rfl ?_
  obtain ⟨q7, hq7, h⟩ := h
  refine eg_callVV (av := [vI l1, vI l2]) (st := []) dX11_heaps_21 ml_11_434 rfl rfl (obM_60 z1) (by decide) rfl (Nat.le_of_ble_eq_true rfl) (eg_dd hd) hq7 (fun M6 hp => ?_)
  have h := h M6 hp
  refine eg_aload_n 2 dX11_heaps_24 rfl rfl ?_
  refine eg_iconst dX11_heaps_25 ic_0 ?_
  refine eg_iload 0 dX11_heaps_26 rfl ?_
  refine eg_i2l dX11_heaps_28 ?_
  obtain ⟨q10, hq10, h⟩ := h
  refine eg_callVL (av := [vI (0 : Int32), vL (x5.toInt64)]) (st := []) dX11_heaps_29 ml_11_427 rfl rfl (obM_60 z1) (by decide) rfl (Nat.le_of_ble_eq_true rfl) (eg_dd hd) hq10 (fun x8 M9 hp => ?_)
  have h := h x8 M9 hp
  refine eg_lstore dX11_heaps_32 (by decide) (ls1 := [(5, vL x8), (4, vI x5), (3, vI x1), (0, vR (60, 0)), (1, vI l1), (2, vI l2)]) rfl ?_
  refine eg_aload_n 3 dX11_heaps_34 rfl rfl ?_
  refine eg_getR dX11_heaps_35 fl_11_69 rfl rfl (obM_60 z1) ?_
  show eg_W κ gM mtX11_heaps d (eQV κ gM post) 38 [(5, vL x8), (4, vI x5), (3, vI x1), (0, vR (60, 0)), (1, vI l1), (2, vI l2)] [vR (110, 0)] M9
  refine eg_iload_n 2 dX11_heaps_38 rfl rfl ?_
  refine eg_iconst dX11_heaps_39 ic_2 ?_
  refine eg_iadd dX11_heaps_40 ?_
  obtain ⟨g11, h⟩ := h
  refine eg_iaload dX11_heaps_41 (arM_110 z1 g11) ?_
  refine eg_i2l dX11_heaps_42 ?_
  refine en_lstore (f := fun x12 => [(7, vL x12), (5, vL x8), (4, vI x5), (3, vI x1), (0, vR (60, 0)), (1, vI l1), (2, vI l2)]) dX11_heaps_43 (by decide) rfl (fun x12 ex12 => ?_)
  have h := h x12 ex12
  refine eg_aload_n 4 dX11_heaps_45 rfl rfl ?_
  refine eg_iload_n 6 dX11_heaps_46 rfl rfl ?_
  obtain ⟨q15, hq15, h⟩ := h
  refine eg_callVI (av := [vI l2]) (st := []) dX11_heaps_47 ml_11_415 rfl rfl (obM_60 z1) (by decide) rfl (Nat.le_of_ble_eq_true rfl) (eg_dd hd) hq15 (fun x13 M14 hp => ?_)
  have h := h x13 M14 hp
  refine eg_if_eq (tgt := 81) dX11_heaps_50 rfl (fun c16 => ?_) (fun c16 => ?_)
  · have h := h.1 c16
    refine eg_sub [4, 6, 3, 2, 1, 0] rfl ?_
    exact h
  · have h := h.2 c16
    refine eg_aload_n 4 dX11_heaps_53 rfl rfl ?_
    refine eg_getR dX11_heaps_54 fl_11_69 rfl rfl (obM_60 z1) ?_
    show eg_W κ gM mtX11_heaps d (eQV κ gM post) 57 [(7, vL x12), (5, vL x8), (4, vI x5), (3, vI x1), (0, vR (60, 0)), (1, vI l1), (2, vI l2)] [vR (110, 0)] M14
    refine eg_iload_n 6 dX11_heaps_57 rfl rfl ?_
    obtain ⟨q19, hq19, h⟩ := h
    refine eg_callSI (av := [vI l2]) (st := [vR (110, 0)]) dX11_heaps_58 ml_11_377 rfl rfl (Nat.le_of_ble_eq_true rfl) (eg_dd hd) hq19 (fun x17 M18 hp => ?_)
    have h := h x17 M18 hp
    obtain ⟨g20, h⟩ := h
    refine eg_iaload dX11_heaps_61 (arM_110 z1 g20) ?_
    refine eg_i2l dX11_heaps_62 ?_
    refine eg_lload 0 dX11_heaps_63 rfl ?_
    refine eg_lcmp dX11_heaps_65 ?_
    refine eg_if_ge (tgt := 81) dX11_heaps_66 rfl (fun c21 => ?_) (fun c21 => ?_)
    · have h := h.1 c21
      refine eg_sub [4, 6, 3, 2, 1, 0] rfl ?_
      exact h
    · have h := h.2 c21
      refine eg_aload_n 4 dX11_heaps_69 rfl rfl ?_
      refine eg_getR dX11_heaps_70 fl_11_69 rfl rfl (obM_60 z1) ?_
      show eg_W κ gM mtX11_heaps d (eQV κ gM post) 73 [(7, vL x12), (5, vL x8), (4, vI x5), (3, vI x1), (0, vR (60, 0)), (1, vI l1), (2, vI l2)] [vR (110, 0)] M18
      refine eg_iload_n 6 dX11_heaps_73 rfl rfl ?_
      obtain ⟨q24, hq24, h⟩ := h
      refine eg_callSI (av := [vI l2]) (st := [vR (110, 0)]) dX11_heaps_74 ml_11_377 rfl rfl (Nat.le_of_ble_eq_true rfl) (eg_dd hd) hq24 (fun x22 M23 hp => ?_)
      have h := h x22 M23 hp
      obtain ⟨g25, h⟩ := h
      refine eg_iaload dX11_heaps_77 (arM_110 z1 g25) ?_
      refine eg_i2l dX11_heaps_78 ?_
      refine en_lstore (f := fun x26 => [(7, vL x26), (5, vL x8), (4, vI x5), (3, vI x1), (0, vR (60, 0)), (1, vI l1), (2, vI l2)]) dX11_heaps_79 (by decide) rfl (fun x26 ex26 => ?_)
      have h := h x26 ex26
      refine eg_sub [4, 6, 3, 2, 1, 0] rfl ?_
      exact h
set_option maxRecDepth 10000 in
theorem vX11_heaps_81 {κ : eg_K} {d : Nat} (hd : 1 ≤ d) {post : eg_H → Prop} (M : eg_H) (l2 : Int32) (l3 : Int32) (l4 : Int32) (l5 : Int64) (l7 : Int64) (h : (∀ x1 : Int64, x1 = ((if 0 ≤ (lg_cmp l5 (0 : Int64)) then (if (lg_cmp l5 l7) ≤ 0 then l5 else l7) else (0 : Int64))) → (∀ x2 : Int32, x2 = (x1.toInt32) → (vp_in (l3 + (2 : Int32)) 366 ∧ (∀ M4 : eg_H, M4 = (sI M (110, 0) (l3 + (2 : Int32)).toNatClampNeg ((M.1 (110, 0) (l3 + (2 : Int32)).toNatClampNeg) - x2)) → (vp_in (l3 + (5 : Int32)) 366 ∧ (∀ M6 : eg_H, M6 = (sI M4 (110, 0) (l3 + (5 : Int32)).toNatClampNeg ((M4.1 (110, 0) (l3 + (5 : Int32)).toNatClampNeg) + x2)) → (∀ x7 : Int32, x7 = ((if l4 ≤ x2 then (0 : Int32) else (l4 - x2))) → (vp_in ((l3 + (14 : Int32)) + l2) 366 ∧ (∀ M9 : eg_H, M9 = (sI M6 (110, 0) ((l3 + (14 : Int32)) + l2).toNatClampNeg x7) → eCI κ gM mtX11_pan d [vI l2] M9 (fun x10 M11 => (vp_in (x10 + (3 : Int32)) 366 ∧ (∀ M14 : eg_H, M14 = (sI M11 (110, 0) (x10 + (3 : Int32)).toNatClampNeg ((M11.1 (110, 0) (x10 + (3 : Int32)).toNatClampNeg) + x2)) → eCI κ gM mtX11_pan d [vI l2] M14 (fun x15 M16 => (vp_in (x15 + (4 : Int32)) 366 ∧ eCI κ gM mtX11_has d [vR (60, 0), vI l2, vI (5 : Int32)] M16 (fun x19 M20 => (x19 ≤ 0 → eg_W κ gM mtX11_heaps d (eQV κ gM post) 226 [(0, vR (60, 0)), (2, vI l2), (9, vI x2)] [vI (0 : Int32), vI (M16.1 (110, 0) (x15 + (4 : Int32)).toNatClampNeg), vI (x15 + (4 : Int32)), vR (110, 0)] M20) ∧ ((¬ x19 ≤ 0) → eCI κ gM mtX11_pan d [vI l2] M20 (fun x23 M24 => (vp_in (x23 + (1 : Int32)) 366 ∧ eCI κ gM mtX11_has d [vR (60, 0), vI l2, vI (5 : Int32)] M24 (fun x27 M28 => (∀ x30 : Int32, x30 = ((if (M24.1 (110, 0) (x23 + (1 : Int32)).toNatClampNeg) < x27 then (0 : Int32) else x2)) → eg_W κ gM mtX11_heaps d (eQV κ gM post) 226 [(0, vR (60, 0)), (2, vI l2), (9, vI x2)] [vI x30, vI (M16.1 (110, 0) (x15 + (4 : Int32)).toNatClampNeg), vI (x15 + (4 : Int32)), vR (110, 0)] M28))))))))))))))))))))) : eg_W κ gM mtX11_heaps d (eQV κ gM post) 81 [(0, vR (60, 0)), (2, vI l2), (3, vI l3), (4, vI l4), (5, vL l5), (7, vL l7)] [] M := by
  refine eg_lload 4 dX11_heaps_81 rfl ?_
  refine eg_lconst dX11_heaps_83 lc_0 ?_
  refine eg_lcmp dX11_heaps_84 ?_
  have J : ∀ x1 : Int64, x1 = (if 0 ≤ (lg_cmp l5 (0 : Int64)) then (if (lg_cmp l5 l7) ≤ 0 then l5 else l7) else (0 : Int64)) → eg_W κ gM mtX11_heaps d (eQV κ gM post) 107 [(0, vR (60, 0)), (2, vI l2), (3, vI l3), (4, vI l4), (5, vL l5), (7, vL l7)] [vL x1] M := by
    intro x1 ex1
    have h := h x1 ex1
    refine eg_l2i dX11_heaps_107 ?_
    refine en_istore (f := fun x2 => [(9, vI x2), (0, vR (60, 0)), (2, vI l2), (3, vI l3), (4, vI l4), (5, vL l5), (7, vL l7)]) dX11_heaps_108 (by decide) rfl (fun x2 ex2 => ?_)
    have h := h x2 ex2
    refine eg_aload_n 1 dX11_heaps_110 rfl rfl ?_
    refine eg_getR dX11_heaps_111 fl_11_69 rfl rfl (obM_60 z1) ?_
    show eg_W κ gM mtX11_heaps d (eQV κ gM post) 114 [(9, vI x2), (0, vR (60, 0)), (2, vI l2), (3, vI l3), (4, vI l4), (5, vL l5), (7, vL l7)] [vR (110, 0)] M
    refine eg_iload_n 3 dX11_heaps_114 rfl rfl ?_
    refine eg_iconst dX11_heaps_115 ic_2 ?_
    refine eg_iadd dX11_heaps_116 ?_
    refine eg_dup2 dX11_heaps_117 rfl rfl ?_
    obtain ⟨g3, h⟩ := h
    refine eg_iaload dX11_heaps_118 (arM_110 z1 g3) ?_
    refine eg_iload 0 dX11_heaps_119 rfl ?_
    refine eg_isub dX11_heaps_121 ?_
    refine en_iastore dX11_heaps_122 (arM_110 z1 g3) (fun M4 eM4 => ?_)
    have h := h M4 eM4
    refine eg_aload_n 1 dX11_heaps_123 rfl rfl ?_
    refine eg_getR dX11_heaps_124 fl_11_69 rfl rfl (obM_60 z1) ?_
    show eg_W κ gM mtX11_heaps d (eQV κ gM post) 127 [(9, vI x2), (0, vR (60, 0)), (2, vI l2), (3, vI l3), (4, vI l4), (5, vL l5), (7, vL l7)] [vR (110, 0)] M4
    refine eg_iload_n 3 dX11_heaps_127 rfl rfl ?_
    refine eg_iconst dX11_heaps_128 ic_5 ?_
    refine eg_iadd dX11_heaps_129 ?_
    refine eg_dup2 dX11_heaps_130 rfl rfl ?_
    obtain ⟨g5, h⟩ := h
    refine eg_iaload dX11_heaps_131 (arM_110 z1 g5) ?_
    refine eg_iload 0 dX11_heaps_132 rfl ?_
    refine eg_iadd dX11_heaps_134 ?_
    refine en_iastore dX11_heaps_135 (arM_110 z1 g5) (fun M6 eM6 => ?_)
    have h := h M6 eM6
    refine eg_aload_n 1 dX11_heaps_136 rfl rfl ?_
    refine eg_getR dX11_heaps_137 fl_11_69 rfl rfl (obM_60 z1) ?_
    show eg_W κ gM mtX11_heaps d (eQV κ gM post) 140 [(9, vI x2), (0, vR (60, 0)), (2, vI l2), (3, vI l3), (4, vI l4), (5, vL l5), (7, vL l7)] [vR (110, 0)] M6
    refine eg_iload_n 3 dX11_heaps_140 rfl rfl ?_
    refine eg_bipush dX11_heaps_141 bp_14 ?_
    refine eg_iadd dX11_heaps_143 ?_
    refine eg_iload_n 2 dX11_heaps_144 rfl rfl ?_
    refine eg_iadd dX11_heaps_145 ?_
    refine eg_iload 4 dX11_heaps_146 rfl ?_
    refine eg_iload 0 dX11_heaps_148 rfl ?_
    have J : ∀ x7 : Int32, x7 = (if l4 ≤ x2 then (0 : Int32) else (l4 - x2)) → eg_W κ gM mtX11_heaps d (eQV κ gM post) 162 [(9, vI x2), (0, vR (60, 0)), (2, vI l2), (3, vI l3), (4, vI l4), (5, vL l5), (7, vL l7)] [vI x7, vI ((l3 + (14 : Int32)) + l2), vR (110, 0)] M6 := by
      intro x7 ex7
      have h := h x7 ex7
      obtain ⟨g8, h⟩ := h
      refine en_iastore dX11_heaps_162 (arM_110 z1 g8) (fun M9 eM9 => ?_)
      have h := h M9 eM9
      refine eg_aload_n 1 dX11_heaps_163 rfl rfl ?_
      refine eg_getR dX11_heaps_164 fl_11_69 rfl rfl (obM_60 z1) ?_
      show eg_W κ gM mtX11_heaps d (eQV κ gM post) 167 [(9, vI x2), (0, vR (60, 0)), (2, vI l2), (3, vI l3), (4, vI l4), (5, vL l5), (7, vL l7)] [vR (110, 0)] M9
      refine eg_iload_n 2 dX11_heaps_167 rfl rfl ?_
      obtain ⟨q12, hq12, h⟩ := h
      refine eg_callSI (av := [vI l2]) (st := [vR (110, 0)]) dX11_heaps_168 ml_11_377 rfl rfl (Nat.le_of_ble_eq_true rfl) (eg_dd hd) hq12 (fun x10 M11 hp => ?_)
      have h := h x10 M11 hp
      refine eg_iconst dX11_heaps_171 ic_3 ?_
      refine eg_iadd dX11_heaps_172 ?_
      refine eg_dup2 dX11_heaps_173 rfl rfl ?_
      obtain ⟨g13, h⟩ := h
      refine eg_iaload dX11_heaps_174 (arM_110 z1 g13) ?_
      refine eg_iload 0 dX11_heaps_175 rfl ?_
      refine eg_iadd dX11_heaps_177 ?_
      refine en_iastore dX11_heaps_178 (arM_110 z1 g13) (fun M14 eM14 => ?_)
      have h := h M14 eM14
      refine eg_aload_n 1 dX11_heaps_179 rfl rfl ?_
      refine eg_getR dX11_heaps_180 fl_11_69 rfl rfl (obM_60 z1) ?_
      show eg_W κ gM mtX11_heaps d (eQV κ gM post) 183 [(9, vI x2), (0, vR (60, 0)), (2, vI l2), (3, vI l3), (4, vI l4), (5, vL l5), (7, vL l7)] [vR (110, 0)] M14
      refine eg_iload_n 2 dX11_heaps_183 rfl rfl ?_
      obtain ⟨q17, hq17, h⟩ := h
      refine eg_callSI (av := [vI l2]) (st := [vR (110, 0)]) dX11_heaps_184 ml_11_377 rfl rfl (Nat.le_of_ble_eq_true rfl) (eg_dd hd) hq17 (fun x15 M16 hp => ?_)
      have h := h x15 M16 hp
      refine eg_iconst dX11_heaps_187 ic_4 ?_
      refine eg_iadd dX11_heaps_188 ?_
      refine eg_dup2 dX11_heaps_189 rfl rfl ?_
      obtain ⟨g18, h⟩ := h
      refine eg_iaload dX11_heaps_190 (arM_110 z1 g18) ?_
      refine eg_aload_n 1 dX11_heaps_191 rfl rfl ?_
      refine eg_iload_n 2 dX11_heaps_192 rfl rfl ?_
      refine eg_iconst dX11_heaps_193 ic_5 ?_
      obtain ⟨q21, hq21, h⟩ := h
      refine eg_callVI (av := [vI l2, vI (5 : Int32)]) (st := [vI (M16.1 (110, 0) (x15 + (4 : Int32)).toNatClampNeg), vI (x15 + (4 : Int32)), vR (110, 0)]) dX11_heaps_194 ml_11_366 rfl rfl (obM_60 z1) (by decide) rfl (Nat.le_of_ble_eq_true rfl) (eg_dd hd) hq21 (fun x19 M20 hp => ?_)
      have h := h x19 M20 hp
      refine eg_if_le (tgt := 225) dX11_heaps_197 rfl (fun c22 => ?_) (fun c22 => ?_)
      · have h := h.1 c22
        refine eg_iconst dX11_heaps_225 ic_0 ?_
        refine eg_sub [1, 2, 0] rfl ?_
        exact h
      · have h := h.2 c22
        refine eg_aload_n 1 dX11_heaps_200 rfl rfl ?_
        refine eg_getR dX11_heaps_201 fl_11_69 rfl rfl (obM_60 z1) ?_
        show eg_W κ gM mtX11_heaps d (eQV κ gM post) 204 [(9, vI x2), (0, vR (60, 0)), (2, vI l2), (3, vI l3), (4, vI l4), (5, vL l5), (7, vL l7)] [vR (110, 0), vI (M16.1 (110, 0) (x15 + (4 : Int32)).toNatClampNeg), vI (x15 + (4 : Int32)), vR (110, 0)] M20
        refine eg_iload_n 2 dX11_heaps_204 rfl rfl ?_
        obtain ⟨q25, hq25, h⟩ := h
        refine eg_callSI (av := [vI l2]) (st := [vR (110, 0), vI (M16.1 (110, 0) (x15 + (4 : Int32)).toNatClampNeg), vI (x15 + (4 : Int32)), vR (110, 0)]) dX11_heaps_205 ml_11_377 rfl rfl (Nat.le_of_ble_eq_true rfl) (eg_dd hd) hq25 (fun x23 M24 hp => ?_)
        have h := h x23 M24 hp
        refine eg_iconst dX11_heaps_208 ic_1 ?_
        refine eg_iadd dX11_heaps_209 ?_
        obtain ⟨g26, h⟩ := h
        refine eg_iaload dX11_heaps_210 (arM_110 z1 g26) ?_
        refine eg_aload_n 1 dX11_heaps_211 rfl rfl ?_
        refine eg_iload_n 2 dX11_heaps_212 rfl rfl ?_
        refine eg_iconst dX11_heaps_213 ic_5 ?_
        obtain ⟨q29, hq29, h⟩ := h
        refine eg_callVI (av := [vI l2, vI (5 : Int32)]) (st := [vI (M24.1 (110, 0) (x23 + (1 : Int32)).toNatClampNeg), vI (M16.1 (110, 0) (x15 + (4 : Int32)).toNatClampNeg), vI (x15 + (4 : Int32)), vR (110, 0)]) dX11_heaps_214 ml_11_366 rfl rfl (obM_60 z1) (by decide) rfl (Nat.le_of_ble_eq_true rfl) (eg_dd hd) hq29 (fun x27 M28 hp => ?_)
        have h := h x27 M28 hp
        have J : ∀ x30 : Int32, x30 = (if (M24.1 (110, 0) (x23 + (1 : Int32)).toNatClampNeg) < x27 then (0 : Int32) else x2) → eg_W κ gM mtX11_heaps d (eQV κ gM post) 226 [(9, vI x2), (0, vR (60, 0)), (2, vI l2), (3, vI l3), (4, vI l4), (5, vL l5), (7, vL l7)] [vI x30, vI (M16.1 (110, 0) (x15 + (4 : Int32)).toNatClampNeg), vI (x15 + (4 : Int32)), vR (110, 0)] M28 := by
          intro x30 ex30
          have h := h x30 ex30
          refine eg_sub [1, 2, 0] rfl ?_
          exact h
        clear h
        refine eg_icmp_lt (tgt := 225) dX11_heaps_217 rfl (fun c31 => ?_) (fun c31 => ?_)
        · refine eg_iconst dX11_heaps_225 ic_0 ?_
          exact J _ (by rw [if_pos c31])
        · refine eg_iload 0 dX11_heaps_220 rfl ?_
          refine eg_goto (tgt := 226) dX11_heaps_222 rfl ?_
          exact J _ (by rw [if_neg c31])
    clear h
    refine eg_icmp_le (tgt := 161) dX11_heaps_150 rfl (fun c32 => ?_) (fun c32 => ?_)
    · refine eg_iconst dX11_heaps_161 ic_0 ?_
      exact J _ (by rw [if_pos c32])
    · refine eg_iload 4 dX11_heaps_153 rfl ?_
      refine eg_iload 0 dX11_heaps_155 rfl ?_
      refine eg_isub dX11_heaps_157 ?_
      refine eg_goto (tgt := 162) dX11_heaps_158 rfl ?_
      exact J _ (by rw [if_neg c32])
  clear h
  refine eg_if_ge (tgt := 92) dX11_heaps_85 rfl (fun c33 => ?_) (fun c33 => ?_)
  · refine eg_lload 4 dX11_heaps_92 rfl ?_
    refine eg_lload 5 dX11_heaps_94 rfl ?_
    refine eg_lcmp dX11_heaps_96 ?_
    refine eg_if_le (tgt := 105) dX11_heaps_97 rfl (fun c34 => ?_) (fun c34 => ?_)
    · refine eg_lload 4 dX11_heaps_105 rfl ?_
      exact J _ (by rw [if_pos c33, if_pos c34])
    · refine eg_lload 5 dX11_heaps_100 rfl ?_
      refine eg_goto (tgt := 107) dX11_heaps_102 rfl ?_
      exact J _ (by rw [if_pos c33, if_neg c34])
  · refine eg_lconst dX11_heaps_88 lc_0 ?_
    refine eg_goto (tgt := 107) dX11_heaps_89 rfl ?_
    exact J _ (by rw [if_neg c33])
set_option maxRecDepth 10000 in
theorem vX11_heaps_226 {κ : eg_K} {d : Nat} (hd : 1 ≤ d) {post : eg_H → Prop} (M : eg_H) (l2 : Int32) (l9 : Int32) (s0 : Int32) (s1 : Int32) (s2 : Int32) (h : (vp_in s2 366 ∧ (∀ M2 : eg_H, M2 = (sI M (110, 0) s2.toNatClampNeg (s1 + s0)) → eCI κ gM mtX11_pan d [vI l2] M2 (fun x3 M4 => (vp_in x3 366 ∧ eCI κ gM mtX11_hasPan d [vR (60, 0), vI l2] M4 (fun x7 M8 => (∀ x10 : Int32, x10 = ((if x7 = 0 then (0 : Int32) else l9)) → (∀ M11 : eg_H, M11 = (sI M8 (110, 0) x3.toNatClampNeg ((M4.1 (110, 0) x3.toNatClampNeg) - x10)) → post M11)))))))) : eg_W κ gM mtX11_heaps d (eQV κ gM post) 226 [(0, vR (60, 0)), (2, vI l2), (9, vI l9)] [vI s0, vI s1, vI s2, vR (110, 0)] M := by
  refine eg_iadd dX11_heaps_226 ?_
  obtain ⟨g1, h⟩ := h
  refine en_iastore dX11_heaps_227 (arM_110 z1 g1) (fun M2 eM2 => ?_)
  have h := h M2 eM2
  refine eg_aload_n 0 dX11_heaps_228 rfl rfl ?_
  refine eg_getR dX11_heaps_229 fl_11_69 rfl rfl (obM_60 z1) ?_
  show eg_W κ gM mtX11_heaps d (eQV κ gM post) 232 [(0, vR (60, 0)), (2, vI l2), (9, vI l9)] [vR (110, 0)] M2
  refine eg_iload_n 1 dX11_heaps_232 rfl rfl ?_
  obtain ⟨q5, hq5, h⟩ := h
  refine eg_callSI (av := [vI l2]) (st := [vR (110, 0)]) dX11_heaps_233 ml_11_377 rfl rfl (Nat.le_of_ble_eq_true rfl) (eg_dd hd) hq5 (fun x3 M4 hp => ?_)
  have h := h x3 M4 hp
  refine eg_dup2 dX11_heaps_236 rfl rfl ?_
  obtain ⟨g6, h⟩ := h
  refine eg_iaload dX11_heaps_237 (arM_110 z1 g6) ?_
  refine eg_aload_n 0 dX11_heaps_238 rfl rfl ?_
  refine eg_iload_n 1 dX11_heaps_239 rfl rfl ?_
  obtain ⟨q9, hq9, h⟩ := h
  refine eg_callVI (av := [vI l2]) (st := [vI (M4.1 (110, 0) x3.toNatClampNeg), vI x3, vR (110, 0)]) dX11_heaps_240 ml_11_415 rfl rfl (obM_60 z1) (by decide) rfl (Nat.le_of_ble_eq_true rfl) (eg_dd hd) hq9 (fun x7 M8 hp => ?_)
  have h := h x7 M8 hp
  have J : ∀ x10 : Int32, x10 = (if x7 = 0 then (0 : Int32) else l9) → eg_W κ gM mtX11_heaps d (eQV κ gM post) 252 [(0, vR (60, 0)), (2, vI l2), (9, vI l9)] [vI x10, vI (M4.1 (110, 0) x3.toNatClampNeg), vI x3, vR (110, 0)] M8 := by
    intro x10 ex10
    have h := h x10 ex10
    refine eg_isub dX11_heaps_252 ?_
    refine en_iastore dX11_heaps_253 (arM_110 z1 g6) (fun M11 eM11 => ?_)
    have h := h M11 eM11
    exact eg_vreturn dX11_heaps_254 rfl h
  clear h
  refine eg_if_eq (tgt := 251) dX11_heaps_243 rfl (fun c12 => ?_) (fun c12 => ?_)
  · refine eg_iconst dX11_heaps_251 ic_0 ?_
    exact J _ (by rw [if_pos c12])
  · refine eg_iload 2 dX11_heaps_246 rfl ?_
    refine eg_goto (tgt := 252) dX11_heaps_248 rfl ?_
    exact J _ (by rw [if_neg c12])
theorem dX11_goesTo_0 : decode cX11_goesTo 0 = .ok (.iload_n 1, 1) := by decide +kernel
theorem dX11_goesTo_1 : decode cX11_goesTo 1 = .ok (.invokestatic 372, 3) := by decide +kernel
theorem dX11_goesTo_4 : decode cX11_goesTo 4 = .ok (.istore_n 3, 1) := by decide +kernel
theorem dX11_goesTo_5 : decode cX11_goesTo 5 = .ok (.aload_n 0, 1) := by decide +kernel
theorem dX11_goesTo_6 : decode cX11_goesTo 6 = .ok (.getfield 69, 3) := by decide +kernel
theorem dX11_goesTo_9 : decode cX11_goesTo 9 = .ok (.sipush 360, 3) := by decide +kernel
theorem dX11_goesTo_12 : decode cX11_goesTo 12 = .ok (.iload_n 2, 1) := by decide +kernel
theorem dX11_goesTo_13 : decode cX11_goesTo 13 = .ok (.iadd, 1) := by decide +kernel
theorem dX11_goesTo_14 : decode cX11_goesTo 14 = .ok (.iaload, 1) := by decide +kernel
theorem dX11_goesTo_15 : decode cX11_goesTo 15 = .ok (.istore 4, 2) := by decide +kernel
theorem dX11_goesTo_17 : decode cX11_goesTo 17 = .ok (.aload_n 0, 1) := by decide +kernel
theorem dX11_goesTo_18 : decode cX11_goesTo 18 = .ok (.getfield 69, 3) := by decide +kernel
theorem dX11_goesTo_21 : decode cX11_goesTo 21 = .ok (.iload_n 3, 1) := by decide +kernel
theorem dX11_goesTo_22 : decode cX11_goesTo 22 = .ok (.iconst 1, 1) := by decide +kernel
theorem dX11_goesTo_23 : decode cX11_goesTo 23 = .ok (.iadd, 1) := by decide +kernel
theorem dX11_goesTo_24 : decode cX11_goesTo 24 = .ok (.iload_n 2, 1) := by decide +kernel
theorem dX11_goesTo_25 : decode cX11_goesTo 25 = .ok (.iastore, 1) := by decide +kernel
theorem dX11_goesTo_26 : decode cX11_goesTo 26 = .ok (.aload_n 0, 1) := by decide +kernel
theorem dX11_goesTo_27 : decode cX11_goesTo 27 = .ok (.getfield 69, 3) := by decide +kernel
theorem dX11_goesTo_30 : decode cX11_goesTo 30 = .ok (.iload_n 3, 1) := by decide +kernel
theorem dX11_goesTo_31 : decode cX11_goesTo 31 = .ok (.bipush 10, 2) := by decide +kernel
theorem dX11_goesTo_33 : decode cX11_goesTo 33 = .ok (.iadd, 1) := by decide +kernel
theorem dX11_goesTo_34 : decode cX11_goesTo 34 = .ok (.iconst 0, 1) := by decide +kernel
theorem dX11_goesTo_35 : decode cX11_goesTo 35 = .ok (.iastore, 1) := by decide +kernel
theorem dX11_goesTo_36 : decode cX11_goesTo 36 = .ok (.aload_n 0, 1) := by decide +kernel
theorem dX11_goesTo_37 : decode cX11_goesTo 37 = .ok (.iload 4, 2) := by decide +kernel
theorem dX11_goesTo_39 : decode cX11_goesTo 39 = .ok (.invokevirtual 415, 3) := by decide +kernel
theorem dX11_goesTo_42 : decode cX11_goesTo 42 = .ok (.ifCond .eq 43, 3) := by decide +kernel
theorem dX11_goesTo_45 : decode cX11_goesTo 45 = .ok (.aload_n 0, 1) := by decide +kernel
theorem dX11_goesTo_46 : decode cX11_goesTo 46 = .ok (.getfield 69, 3) := by decide +kernel
theorem dX11_goesTo_49 : decode cX11_goesTo 49 = .ok (.iload 4, 2) := by decide +kernel
theorem dX11_goesTo_51 : decode cX11_goesTo 51 = .ok (.invokestatic 377, 3) := by decide +kernel
theorem dX11_goesTo_54 : decode cX11_goesTo 54 = .ok (.iaload, 1) := by decide +kernel
theorem dX11_goesTo_55 : decode cX11_goesTo 55 = .ok (.ifCond .ne 30, 3) := by decide +kernel
theorem dX11_goesTo_58 : decode cX11_goesTo 58 = .ok (.aload_n 0, 1) := by decide +kernel
theorem dX11_goesTo_59 : decode cX11_goesTo 59 = .ok (.getfield 69, 3) := by decide +kernel
theorem dX11_goesTo_62 : decode cX11_goesTo 62 = .ok (.iload_n 3, 1) := by decide +kernel
theorem dX11_goesTo_63 : decode cX11_goesTo 63 = .ok (.bipush 14, 2) := by decide +kernel
theorem dX11_goesTo_65 : decode cX11_goesTo 65 = .ok (.iadd, 1) := by decide +kernel
theorem dX11_goesTo_66 : decode cX11_goesTo 66 = .ok (.iload 4, 2) := by decide +kernel
theorem dX11_goesTo_68 : decode cX11_goesTo 68 = .ok (.iadd, 1) := by decide +kernel
theorem dX11_goesTo_69 : decode cX11_goesTo 69 = .ok (.iconst 0, 1) := by decide +kernel
theorem dX11_goesTo_70 : decode cX11_goesTo 70 = .ok (.iastore, 1) := by decide +kernel
theorem dX11_goesTo_71 : decode cX11_goesTo 71 = .ok (.aload_n 0, 1) := by decide +kernel
theorem dX11_goesTo_72 : decode cX11_goesTo 72 = .ok (.getfield 69, 3) := by decide +kernel
theorem dX11_goesTo_75 : decode cX11_goesTo 75 = .ok (.iload_n 3, 1) := by decide +kernel
theorem dX11_goesTo_76 : decode cX11_goesTo 76 = .ok (.bipush 8, 2) := by decide +kernel
theorem dX11_goesTo_78 : decode cX11_goesTo 78 = .ok (.iadd, 1) := by decide +kernel
theorem dX11_goesTo_79 : decode cX11_goesTo 79 = .ok (.dup2, 1) := by decide +kernel
theorem dX11_goesTo_80 : decode cX11_goesTo 80 = .ok (.iaload, 1) := by decide +kernel
theorem dX11_goesTo_81 : decode cX11_goesTo 81 = .ok (.iconst 1, 1) := by decide +kernel
theorem dX11_goesTo_82 : decode cX11_goesTo 82 = .ok (.iadd, 1) := by decide +kernel
theorem dX11_goesTo_83 : decode cX11_goesTo 83 = .ok (.iastore, 1) := by decide +kernel
theorem dX11_goesTo_84 : decode cX11_goesTo 84 = .ok (.return_, 1) := by decide +kernel
theorem dX11_goesTo_85 : decode cX11_goesTo 85 = .ok (.aload_n 0, 1) := by decide +kernel
theorem dX11_goesTo_86 : decode cX11_goesTo 86 = .ok (.iload_n 2, 1) := by decide +kernel
theorem dX11_goesTo_87 : decode cX11_goesTo 87 = .ok (.invokevirtual 438, 3) := by decide +kernel
theorem dX11_goesTo_90 : decode cX11_goesTo 90 = .ok (.iload 4, 2) := by decide +kernel
theorem dX11_goesTo_92 : decode cX11_goesTo 92 = .ok (.aload_n 0, 1) := by decide +kernel
theorem dX11_goesTo_93 : decode cX11_goesTo 93 = .ok (.getfield 342, 3) := by decide +kernel
theorem dX11_goesTo_96 : decode cX11_goesTo 96 = .ok (.if_icmp .ne 10, 3) := by decide +kernel
theorem dX11_goesTo_99 : decode cX11_goesTo 99 = .ok (.aload_n 0, 1) := by decide +kernel
theorem dX11_goesTo_100 : decode cX11_goesTo 100 = .ok (.getfield 441, 3) := by decide +kernel
theorem dX11_goesTo_103 : decode cX11_goesTo 103 = .ok (.goto 10, 3) := by decide +kernel
theorem dX11_goesTo_106 : decode cX11_goesTo 106 = .ok (.aload_n 0, 1) := by decide +kernel
theorem dX11_goesTo_107 : decode cX11_goesTo 107 = .ok (.iload 4, 2) := by decide +kernel
theorem dX11_goesTo_109 : decode cX11_goesTo 109 = .ok (.iconst 1, 1) := by decide +kernel
theorem dX11_goesTo_110 : decode cX11_goesTo 110 = .ok (.invokevirtual 366, 3) := by decide +kernel
theorem dX11_goesTo_113 : decode cX11_goesTo 113 = .ok (.if_icmp .ge 26, 3) := by decide +kernel
theorem dX11_goesTo_116 : decode cX11_goesTo 116 = .ok (.aload_n 0, 1) := by decide +kernel
theorem dX11_goesTo_117 : decode cX11_goesTo 117 = .ok (.iload_n 1, 1) := by decide +kernel
theorem dX11_goesTo_118 : decode cX11_goesTo 118 = .ok (.iload 4, 2) := by decide +kernel
theorem dX11_goesTo_120 : decode cX11_goesTo 120 = .ok (.invokevirtual 444, 3) := by decide +kernel
theorem dX11_goesTo_123 : decode cX11_goesTo 123 = .ok (.aload_n 0, 1) := by decide +kernel
theorem dX11_goesTo_124 : decode cX11_goesTo 124 = .ok (.getfield 69, 3) := by decide +kernel
theorem dX11_goesTo_127 : decode cX11_goesTo 127 = .ok (.iload_n 3, 1) := by decide +kernel
theorem dX11_goesTo_128 : decode cX11_goesTo 128 = .ok (.iconst 3, 1) := by decide +kernel
theorem dX11_goesTo_129 : decode cX11_goesTo 129 = .ok (.iadd, 1) := by decide +kernel
theorem dX11_goesTo_130 : decode cX11_goesTo 130 = .ok (.aload_n 0, 1) := by decide +kernel
theorem dX11_goesTo_131 : decode cX11_goesTo 131 = .ok (.iload 4, 2) := by decide +kernel
theorem dX11_goesTo_133 : decode cX11_goesTo 133 = .ok (.iconst 0, 1) := by decide +kernel
theorem dX11_goesTo_134 : decode cX11_goesTo 134 = .ok (.invokevirtual 366, 3) := by decide +kernel
theorem dX11_goesTo_137 : decode cX11_goesTo 137 = .ok (.iastore, 1) := by decide +kernel
theorem dX11_goesTo_138 : decode cX11_goesTo 138 = .ok (.return_, 1) := by decide +kernel
theorem dX11_goesTo_139 : decode cX11_goesTo 139 = .ok (.aload_n 0, 1) := by decide +kernel
theorem dX11_goesTo_140 : decode cX11_goesTo 140 = .ok (.iload_n 1, 1) := by decide +kernel
theorem dX11_goesTo_141 : decode cX11_goesTo 141 = .ok (.iload 4, 2) := by decide +kernel
theorem dX11_goesTo_143 : decode cX11_goesTo 143 = .ok (.invokevirtual 434, 3) := by decide +kernel
theorem dX11_goesTo_146 : decode cX11_goesTo 146 = .ok (.aload_n 0, 1) := by decide +kernel
theorem dX11_goesTo_147 : decode cX11_goesTo 147 = .ok (.iconst 1, 1) := by decide +kernel
theorem dX11_goesTo_148 : decode cX11_goesTo 148 = .ok (.lconst 0, 1) := by decide +kernel
theorem dX11_goesTo_149 : decode cX11_goesTo 149 = .ok (.invokevirtual 427, 3) := by decide +kernel
theorem dX11_goesTo_152 : decode cX11_goesTo 152 = .ok (.lconst 0, 1) := by decide +kernel
theorem dX11_goesTo_153 : decode cX11_goesTo 153 = .ok (.lcmp, 1) := by decide +kernel
theorem dX11_goesTo_154 : decode cX11_goesTo 154 = .ok (.ifCond .eq 30, 3) := by decide +kernel
theorem dX11_goesTo_157 : decode cX11_goesTo 157 = .ok (.aload_n 0, 1) := by decide +kernel
theorem dX11_goesTo_158 : decode cX11_goesTo 158 = .ok (.getfield 69, 3) := by decide +kernel
theorem dX11_goesTo_161 : decode cX11_goesTo 161 = .ok (.iload_n 3, 1) := by decide +kernel
theorem dX11_goesTo_162 : decode cX11_goesTo 162 = .ok (.bipush 14, 2) := by decide +kernel
theorem dX11_goesTo_164 : decode cX11_goesTo 164 = .ok (.iadd, 1) := by decide +kernel
theorem dX11_goesTo_165 : decode cX11_goesTo 165 = .ok (.iload 4, 2) := by decide +kernel
theorem dX11_goesTo_167 : decode cX11_goesTo 167 = .ok (.iadd, 1) := by decide +kernel
theorem dX11_goesTo_168 : decode cX11_goesTo 168 = .ok (.iconst 0, 1) := by decide +kernel
theorem dX11_goesTo_169 : decode cX11_goesTo 169 = .ok (.iastore, 1) := by decide +kernel
theorem dX11_goesTo_170 : decode cX11_goesTo 170 = .ok (.aload_n 0, 1) := by decide +kernel
theorem dX11_goesTo_171 : decode cX11_goesTo 171 = .ok (.getfield 69, 3) := by decide +kernel
theorem dX11_goesTo_174 : decode cX11_goesTo 174 = .ok (.iload_n 3, 1) := by decide +kernel
theorem dX11_goesTo_175 : decode cX11_goesTo 175 = .ok (.bipush 8, 2) := by decide +kernel
theorem dX11_goesTo_177 : decode cX11_goesTo 177 = .ok (.iadd, 1) := by decide +kernel
theorem dX11_goesTo_178 : decode cX11_goesTo 178 = .ok (.dup2, 1) := by decide +kernel
theorem dX11_goesTo_179 : decode cX11_goesTo 179 = .ok (.iaload, 1) := by decide +kernel
theorem dX11_goesTo_180 : decode cX11_goesTo 180 = .ok (.iconst 1, 1) := by decide +kernel
theorem dX11_goesTo_181 : decode cX11_goesTo 181 = .ok (.iadd, 1) := by decide +kernel
theorem dX11_goesTo_182 : decode cX11_goesTo 182 = .ok (.iastore, 1) := by decide +kernel
theorem dX11_goesTo_183 : decode cX11_goesTo 183 = .ok (.return_, 1) := by decide +kernel
theorem dX11_goesTo_184 : decode cX11_goesTo 184 = .ok (.aload_n 0, 1) := by decide +kernel
theorem dX11_goesTo_185 : decode cX11_goesTo 185 = .ok (.getfield 69, 3) := by decide +kernel
theorem dX11_goesTo_188 : decode cX11_goesTo 188 = .ok (.iload_n 3, 1) := by decide +kernel
theorem dX11_goesTo_189 : decode cX11_goesTo 189 = .ok (.bipush 10, 2) := by decide +kernel
theorem dX11_goesTo_191 : decode cX11_goesTo 191 = .ok (.iadd, 1) := by decide +kernel
theorem dX11_goesTo_192 : decode cX11_goesTo 192 = .ok (.iconst 1, 1) := by decide +kernel
theorem dX11_goesTo_193 : decode cX11_goesTo 193 = .ok (.iastore, 1) := by decide +kernel
theorem dX11_goesTo_194 : decode cX11_goesTo 194 = .ok (.aload_n 0, 1) := by decide +kernel
theorem dX11_goesTo_195 : decode cX11_goesTo 195 = .ok (.getfield 69, 3) := by decide +kernel
theorem dX11_goesTo_198 : decode cX11_goesTo 198 = .ok (.iload_n 3, 1) := by decide +kernel
theorem dX11_goesTo_199 : decode cX11_goesTo 199 = .ok (.iconst 4, 1) := by decide +kernel
theorem dX11_goesTo_200 : decode cX11_goesTo 200 = .ok (.iadd, 1) := by decide +kernel
theorem dX11_goesTo_201 : decode cX11_goesTo 201 = .ok (.dup2, 1) := by decide +kernel
theorem dX11_goesTo_202 : decode cX11_goesTo 202 = .ok (.iaload, 1) := by decide +kernel
theorem dX11_goesTo_203 : decode cX11_goesTo 203 = .ok (.iconst 1, 1) := by decide +kernel
theorem dX11_goesTo_204 : decode cX11_goesTo 204 = .ok (.iadd, 1) := by decide +kernel
theorem dX11_goesTo_205 : decode cX11_goesTo 205 = .ok (.iastore, 1) := by decide +kernel
theorem dX11_goesTo_206 : decode cX11_goesTo 206 = .ok (.return_, 1) := by decide +kernel
set_option maxRecDepth 10000 in
theorem vX11_goesTo_0 {κ : eg_K} {d : Nat} (hd : 1 ≤ d) {post : eg_H → Prop} (M : eg_H) (l1 : Int32) (l2 : Int32) (h : eCI κ gM mtX11_at d [vI l1] M (fun x1 M2 => (vp_in ((360 : Int32) + l2) 366 ∧ (∀ x5 : Int32, x5 = (M2.1 (110, 0) ((360 : Int32) + l2).toNatClampNeg) → (vp_in (x1 + (1 : Int32)) 366 ∧ (∀ M7 : eg_H, M7 = (sI M2 (110, 0) (x1 + (1 : Int32)).toNatClampNeg l2) → (vp_in (x1 + (10 : Int32)) 366 ∧ (∀ M9 : eg_H, M9 = (sI M7 (110, 0) (x1 + (10 : Int32)).toNatClampNeg (0 : Int32)) → eCI κ gM mtX11_hasPan d [vR (60, 0), vI x5] M9 (fun x10 M11 => (x10 = 0 → eg_W κ gM mtX11_goesTo d (eQV κ gM post) 85 [(0, vR (60, 0)), (1, vI l1), (2, vI l2), (3, vI x1), (4, vI x5)] [] M11) ∧ ((¬ x10 = 0) → eCI κ gM mtX11_pan d [vI x5] M11 (fun x14 M15 => (vp_in x14 366 ∧ ((¬ (M15.1 (110, 0) x14.toNatClampNeg) = 0) → eg_W κ gM mtX11_goesTo d (eQV κ gM post) 85 [(0, vR (60, 0)), (1, vI l1), (2, vI l2), (3, vI x1), (4, vI x5)] [] M15) ∧ ((M15.1 (110, 0) x14.toNatClampNeg) = 0 → (vp_in ((x1 + (14 : Int32)) + x5) 366 ∧ (∀ M20 : eg_H, M20 = (sI M15 (110, 0) ((x1 + (14 : Int32)) + x5).toNatClampNeg (0 : Int32)) → (vp_in (x1 + (8 : Int32)) 366 ∧ (∀ M22 : eg_H, M22 = (sI M20 (110, 0) (x1 + (8 : Int32)).toNatClampNeg ((M20.1 (110, 0) (x1 + (8 : Int32)).toNatClampNeg) + (1 : Int32))) → post M22))))))))))))))))) : eg_W κ gM mtX11_goesTo d (eQV κ gM post) 0 [(0, vR (60, 0)), (1, vI l1), (2, vI l2)] [] M := by
  refine eg_iload_n 1 dX11_goesTo_0 rfl rfl ?_
  obtain ⟨q3, hq3, h⟩ := h
  refine eg_callSI (av := [vI l1]) (st := []) dX11_goesTo_1 ml_11_372 rfl rfl (Nat.le_of_ble_eq_true rfl) (eg_dd hd) hq3 (fun x1 M2 hp => ?_)
  have h := h x1 M2 hp
  refine eg_istore_n dX11_goesTo_4 rfl (by decide) (ls1 := [(3, vI x1), (0, vR (60, 0)), (1, vI l1), (2, vI l2)]) rfl ?_
  refine eg_aload_n 1 dX11_goesTo_5 rfl rfl ?_
  refine eg_getR dX11_goesTo_6 fl_11_69 rfl rfl (obM_60 z1) ?_
  show eg_W κ gM mtX11_goesTo d (eQV κ gM post) 9 [(3, vI x1), (0, vR (60, 0)), (1, vI l1), (2, vI l2)] [vR (110, 0)] M2
  refine eg_sipush dX11_goesTo_9 sp_360 ?_
  refine eg_iload_n 3 dX11_goesTo_12 rfl rfl ?_
  refine eg_iadd dX11_goesTo_13 ?_
  obtain ⟨g4, h⟩ := h
  refine eg_iaload dX11_goesTo_14 (arM_110 z1 g4) ?_
  refine en_istore (f := fun x5 => [(4, vI x5), (3, vI x1), (0, vR (60, 0)), (1, vI l1), (2, vI l2)]) dX11_goesTo_15 (by decide) rfl (fun x5 ex5 => ?_)
  have h := h x5 ex5
  refine eg_aload_n 2 dX11_goesTo_17 rfl rfl ?_
  refine eg_getR dX11_goesTo_18 fl_11_69 rfl rfl (obM_60 z1) ?_
  show eg_W κ gM mtX11_goesTo d (eQV κ gM post) 21 [(4, vI x5), (3, vI x1), (0, vR (60, 0)), (1, vI l1), (2, vI l2)] [vR (110, 0)] M2
  refine eg_iload_n 1 dX11_goesTo_21 rfl rfl ?_
  refine eg_iconst dX11_goesTo_22 ic_1 ?_
  refine eg_iadd dX11_goesTo_23 ?_
  refine eg_iload_n 4 dX11_goesTo_24 rfl rfl ?_
  obtain ⟨g6, h⟩ := h
  refine en_iastore dX11_goesTo_25 (arM_110 z1 g6) (fun M7 eM7 => ?_)
  have h := h M7 eM7
  refine eg_aload_n 2 dX11_goesTo_26 rfl rfl ?_
  refine eg_getR dX11_goesTo_27 fl_11_69 rfl rfl (obM_60 z1) ?_
  show eg_W κ gM mtX11_goesTo d (eQV κ gM post) 30 [(4, vI x5), (3, vI x1), (0, vR (60, 0)), (1, vI l1), (2, vI l2)] [vR (110, 0)] M7
  refine eg_iload_n 1 dX11_goesTo_30 rfl rfl ?_
  refine eg_bipush dX11_goesTo_31 bp_10 ?_
  refine eg_iadd dX11_goesTo_33 ?_
  refine eg_iconst dX11_goesTo_34 ic_0 ?_
  obtain ⟨g8, h⟩ := h
  refine en_iastore dX11_goesTo_35 (arM_110 z1 g8) (fun M9 eM9 => ?_)
  have h := h M9 eM9
  refine eg_aload_n 2 dX11_goesTo_36 rfl rfl ?_
  refine eg_iload 0 dX11_goesTo_37 rfl ?_
  obtain ⟨q12, hq12, h⟩ := h
  refine eg_callVI (av := [vI x5]) (st := []) dX11_goesTo_39 ml_11_415 rfl rfl (obM_60 z1) (by decide) rfl (Nat.le_of_ble_eq_true rfl) (eg_dd hd) hq12 (fun x10 M11 hp => ?_)
  have h := h x10 M11 hp
  refine eg_if_eq (tgt := 85) dX11_goesTo_42 rfl (fun c13 => ?_) (fun c13 => ?_)
  · have h := h.1 c13
    refine eg_sub [2, 3, 4, 1, 0] rfl ?_
    exact h
  · have h := h.2 c13
    refine eg_aload_n 2 dX11_goesTo_45 rfl rfl ?_
    refine eg_getR dX11_goesTo_46 fl_11_69 rfl rfl (obM_60 z1) ?_
    show eg_W κ gM mtX11_goesTo d (eQV κ gM post) 49 [(4, vI x5), (3, vI x1), (0, vR (60, 0)), (1, vI l1), (2, vI l2)] [vR (110, 0)] M11
    refine eg_iload 0 dX11_goesTo_49 rfl ?_
    obtain ⟨q16, hq16, h⟩ := h
    refine eg_callSI (av := [vI x5]) (st := [vR (110, 0)]) dX11_goesTo_51 ml_11_377 rfl rfl (Nat.le_of_ble_eq_true rfl) (eg_dd hd) hq16 (fun x14 M15 hp => ?_)
    have h := h x14 M15 hp
    obtain ⟨g17, h⟩ := h
    refine eg_iaload dX11_goesTo_54 (arM_110 z1 g17) ?_
    refine eg_if_ne (tgt := 85) dX11_goesTo_55 rfl (fun c18 => ?_) (fun c18 => ?_)
    · have h := h.1 c18
      refine eg_sub [2, 3, 4, 1, 0] rfl ?_
      exact h
    · have h := h.2 c18
      refine eg_aload_n 2 dX11_goesTo_58 rfl rfl ?_
      refine eg_getR dX11_goesTo_59 fl_11_69 rfl rfl (obM_60 z1) ?_
      show eg_W κ gM mtX11_goesTo d (eQV κ gM post) 62 [(4, vI x5), (3, vI x1), (0, vR (60, 0)), (1, vI l1), (2, vI l2)] [vR (110, 0)] M15
      refine eg_iload_n 1 dX11_goesTo_62 rfl rfl ?_
      refine eg_bipush dX11_goesTo_63 bp_14 ?_
      refine eg_iadd dX11_goesTo_65 ?_
      refine eg_iload 0 dX11_goesTo_66 rfl ?_
      refine eg_iadd dX11_goesTo_68 ?_
      refine eg_iconst dX11_goesTo_69 ic_0 ?_
      obtain ⟨g19, h⟩ := h
      refine en_iastore dX11_goesTo_70 (arM_110 z1 g19) (fun M20 eM20 => ?_)
      have h := h M20 eM20
      refine eg_aload_n 2 dX11_goesTo_71 rfl rfl ?_
      refine eg_getR dX11_goesTo_72 fl_11_69 rfl rfl (obM_60 z1) ?_
      show eg_W κ gM mtX11_goesTo d (eQV κ gM post) 75 [(4, vI x5), (3, vI x1), (0, vR (60, 0)), (1, vI l1), (2, vI l2)] [vR (110, 0)] M20
      refine eg_iload_n 1 dX11_goesTo_75 rfl rfl ?_
      refine eg_bipush dX11_goesTo_76 bp_8 ?_
      refine eg_iadd dX11_goesTo_78 ?_
      refine eg_dup2 dX11_goesTo_79 rfl rfl ?_
      obtain ⟨g21, h⟩ := h
      refine eg_iaload dX11_goesTo_80 (arM_110 z1 g21) ?_
      refine eg_iconst dX11_goesTo_81 ic_1 ?_
      refine eg_iadd dX11_goesTo_82 ?_
      refine en_iastore dX11_goesTo_83 (arM_110 z1 g21) (fun M22 eM22 => ?_)
      have h := h M22 eM22
      exact eg_vreturn dX11_goesTo_84 rfl h
set_option maxRecDepth 10000 in
theorem vX11_goesTo_85 {κ : eg_K} {d : Nat} (hd : 1 ≤ d) {post : eg_H → Prop} (M : eg_H) (l1 : Int32) (l2 : Int32) (l3 : Int32) (l4 : Int32) (h : eCI κ gM mtX11_takersAt d [vR (60, 0), vI l2] M (fun x1 M2 => ((¬ l4 = (M2.1 (60, 0) 53)) → eCI κ gM mtX11_has d [vR (60, 0), vI l4, vI (1 : Int32)] M2 (fun x5 M6 => eg_W κ gM mtX11_goesTo d (eQV κ gM post) 113 [(0, vR (60, 0)), (1, vI l1), (3, vI l3), (4, vI l4)] [vI x5, vI x1] M6)) ∧ (l4 = (M2.1 (60, 0) 53) → eg_W κ gM mtX11_goesTo d (eQV κ gM post) 113 [(0, vR (60, 0)), (1, vI l1), (3, vI l3), (4, vI l4)] [vI (M2.1 (60, 0) 54), vI x1] M2))) : eg_W κ gM mtX11_goesTo d (eQV κ gM post) 85 [(0, vR (60, 0)), (1, vI l1), (2, vI l2), (3, vI l3), (4, vI l4)] [] M := by
  refine eg_aload_n 0 dX11_goesTo_85 rfl rfl ?_
  refine eg_iload_n 2 dX11_goesTo_86 rfl rfl ?_
  obtain ⟨q3, hq3, h⟩ := h
  refine eg_callVI (av := [vI l2]) (st := []) dX11_goesTo_87 ml_11_438 rfl rfl (obM_60 z1) (by decide) rfl (Nat.le_of_ble_eq_true rfl) (eg_dd hd) hq3 (fun x1 M2 hp => ?_)
  have h := h x1 M2 hp
  refine eg_iload 4 dX11_goesTo_90 rfl ?_
  refine eg_aload_n 0 dX11_goesTo_92 rfl rfl ?_
  refine eg_getI dX11_goesTo_93 fl_11_342 rfl trivial (obM_60 z1) ?_
  refine eg_icmp_ne (tgt := 106) dX11_goesTo_96 rfl (fun c4 => ?_) (fun c4 => ?_)
  · have h := h.1 c4
    refine eg_aload_n 0 dX11_goesTo_106 rfl rfl ?_
    refine eg_iload 4 dX11_goesTo_107 rfl ?_
    refine eg_iconst dX11_goesTo_109 ic_1 ?_
    obtain ⟨q7, hq7, h⟩ := h
    refine eg_callVI (av := [vI l4, vI (1 : Int32)]) (st := [vI x1]) dX11_goesTo_110 ml_11_366 rfl rfl (obM_60 z1) (by decide) rfl (Nat.le_of_ble_eq_true rfl) (eg_dd hd) hq7 (fun x5 M6 hp => ?_)
    have h := h x5 M6 hp
    refine eg_sub [0, 1, 3, 4] rfl ?_
    exact h
  · have h := h.2 c4
    refine eg_aload_n 0 dX11_goesTo_99 rfl rfl ?_
    refine eg_getI dX11_goesTo_100 fl_11_441 rfl trivial (obM_60 z1) ?_
    refine eg_goto (tgt := 113) dX11_goesTo_103 rfl ?_
    refine eg_sub [0, 1, 3, 4] rfl ?_
    exact h
set_option maxRecDepth 10000 in
theorem vX11_goesTo_113 {κ : eg_K} {d : Nat} (hd : 1 ≤ d) {post : eg_H → Prop} (M : eg_H) (l1 : Int32) (l3 : Int32) (l4 : Int32) (s0 : Int32) (s1 : Int32) (h : (s0 ≤ s1 → eCV κ gM mtX11_layNamesAt d [vR (60, 0), vI l1, vI l4] M (fun M2 => eCL κ gM mtX11_lawOf d [vR (60, 0), vI (1 : Int32), vL (0 : Int64)] M2 (fun x4 M5 => ((lg_cmp x4 (0 : Int64)) = 0 → (vp_in (l3 + (10 : Int32)) 366 ∧ (∀ M9 : eg_H, M9 = (sI M5 (110, 0) (l3 + (10 : Int32)).toNatClampNeg (1 : Int32)) → (vp_in (l3 + (4 : Int32)) 366 ∧ (∀ M11 : eg_H, M11 = (sI M9 (110, 0) (l3 + (4 : Int32)).toNatClampNeg ((M9.1 (110, 0) (l3 + (4 : Int32)).toNatClampNeg) + (1 : Int32))) → post M11))))) ∧ ((¬ (lg_cmp x4 (0 : Int64)) = 0) → (vp_in ((l3 + (14 : Int32)) + l4) 366 ∧ (∀ M13 : eg_H, M13 = (sI M5 (110, 0) ((l3 + (14 : Int32)) + l4).toNatClampNeg (0 : Int32)) → (vp_in (l3 + (8 : Int32)) 366 ∧ (∀ M15 : eg_H, M15 = (sI M13 (110, 0) (l3 + (8 : Int32)).toNatClampNeg ((M13.1 (110, 0) (l3 + (8 : Int32)).toNatClampNeg) + (1 : Int32))) → post M15)))))))) ∧ ((¬ s0 ≤ s1) → eCV κ gM mtX11_heaps d [vR (60, 0), vI l1, vI l4] M (fun M16 => eCI κ gM mtX11_has d [vR (60, 0), vI l4, vI (0 : Int32)] M16 (fun x18 M19 => (vp_in (l3 + (3 : Int32)) 366 ∧ (∀ M22 : eg_H, M22 = (sI M19 (110, 0) (l3 + (3 : Int32)).toNatClampNeg x18) → post M22)))))) : eg_W κ gM mtX11_goesTo d (eQV κ gM post) 113 [(0, vR (60, 0)), (1, vI l1), (3, vI l3), (4, vI l4)] [vI s0, vI s1] M := by
  refine eg_icmp_ge (tgt := 139) dX11_goesTo_113 rfl (fun c1 => ?_) (fun c1 => ?_)
  · have h := h.1 c1
    refine eg_aload_n 0 dX11_goesTo_139 rfl rfl ?_
    refine eg_iload_n 1 dX11_goesTo_140 rfl rfl ?_
    refine eg_iload 3 dX11_goesTo_141 rfl ?_
    obtain ⟨q3, hq3, h⟩ := h
    refine eg_callVV (av := [vI l1, vI l4]) (st := []) dX11_goesTo_143 ml_11_434 rfl rfl (obM_60 z1) (by decide) rfl (Nat.le_of_ble_eq_true rfl) (eg_dd hd) hq3 (fun M2 hp => ?_)
    have h := h M2 hp
    refine eg_aload_n 0 dX11_goesTo_146 rfl rfl ?_
    refine eg_iconst dX11_goesTo_147 ic_1 ?_
    refine eg_lconst dX11_goesTo_148 lc_0 ?_
    obtain ⟨q6, hq6, h⟩ := h
    refine eg_callVL (av := [vI (1 : Int32), vL (0 : Int64)]) (st := []) dX11_goesTo_149 ml_11_427 rfl rfl (obM_60 z1) (by decide) rfl (Nat.le_of_ble_eq_true rfl) (eg_dd hd) hq6 (fun x4 M5 hp => ?_)
    have h := h x4 M5 hp
    refine eg_lconst dX11_goesTo_152 lc_0 ?_
    refine eg_lcmp dX11_goesTo_153 ?_
    refine eg_if_eq (tgt := 184) dX11_goesTo_154 rfl (fun c7 => ?_) (fun c7 => ?_)
    · have h := h.1 c7
      refine eg_aload_n 0 dX11_goesTo_184 rfl rfl ?_
      refine eg_getR dX11_goesTo_185 fl_11_69 rfl rfl (obM_60 z1) ?_
      show eg_W κ gM mtX11_goesTo d (eQV κ gM post) 188 [(0, vR (60, 0)), (1, vI l1), (3, vI l3), (4, vI l4)] [vR (110, 0)] M5
      refine eg_iload_n 2 dX11_goesTo_188 rfl rfl ?_
      refine eg_bipush dX11_goesTo_189 bp_10 ?_
      refine eg_iadd dX11_goesTo_191 ?_
      refine eg_iconst dX11_goesTo_192 ic_1 ?_
      obtain ⟨g8, h⟩ := h
      refine en_iastore dX11_goesTo_193 (arM_110 z1 g8) (fun M9 eM9 => ?_)
      have h := h M9 eM9
      refine eg_aload_n 0 dX11_goesTo_194 rfl rfl ?_
      refine eg_getR dX11_goesTo_195 fl_11_69 rfl rfl (obM_60 z1) ?_
      show eg_W κ gM mtX11_goesTo d (eQV κ gM post) 198 [(0, vR (60, 0)), (1, vI l1), (3, vI l3), (4, vI l4)] [vR (110, 0)] M9
      refine eg_iload_n 2 dX11_goesTo_198 rfl rfl ?_
      refine eg_iconst dX11_goesTo_199 ic_4 ?_
      refine eg_iadd dX11_goesTo_200 ?_
      refine eg_dup2 dX11_goesTo_201 rfl rfl ?_
      obtain ⟨g10, h⟩ := h
      refine eg_iaload dX11_goesTo_202 (arM_110 z1 g10) ?_
      refine eg_iconst dX11_goesTo_203 ic_1 ?_
      refine eg_iadd dX11_goesTo_204 ?_
      refine en_iastore dX11_goesTo_205 (arM_110 z1 g10) (fun M11 eM11 => ?_)
      have h := h M11 eM11
      exact eg_vreturn dX11_goesTo_206 rfl h
    · have h := h.2 c7
      refine eg_aload_n 0 dX11_goesTo_157 rfl rfl ?_
      refine eg_getR dX11_goesTo_158 fl_11_69 rfl rfl (obM_60 z1) ?_
      show eg_W κ gM mtX11_goesTo d (eQV κ gM post) 161 [(0, vR (60, 0)), (1, vI l1), (3, vI l3), (4, vI l4)] [vR (110, 0)] M5
      refine eg_iload_n 2 dX11_goesTo_161 rfl rfl ?_
      refine eg_bipush dX11_goesTo_162 bp_14 ?_
      refine eg_iadd dX11_goesTo_164 ?_
      refine eg_iload 3 dX11_goesTo_165 rfl ?_
      refine eg_iadd dX11_goesTo_167 ?_
      refine eg_iconst dX11_goesTo_168 ic_0 ?_
      obtain ⟨g12, h⟩ := h
      refine en_iastore dX11_goesTo_169 (arM_110 z1 g12) (fun M13 eM13 => ?_)
      have h := h M13 eM13
      refine eg_aload_n 0 dX11_goesTo_170 rfl rfl ?_
      refine eg_getR dX11_goesTo_171 fl_11_69 rfl rfl (obM_60 z1) ?_
      show eg_W κ gM mtX11_goesTo d (eQV κ gM post) 174 [(0, vR (60, 0)), (1, vI l1), (3, vI l3), (4, vI l4)] [vR (110, 0)] M13
      refine eg_iload_n 2 dX11_goesTo_174 rfl rfl ?_
      refine eg_bipush dX11_goesTo_175 bp_8 ?_
      refine eg_iadd dX11_goesTo_177 ?_
      refine eg_dup2 dX11_goesTo_178 rfl rfl ?_
      obtain ⟨g14, h⟩ := h
      refine eg_iaload dX11_goesTo_179 (arM_110 z1 g14) ?_
      refine eg_iconst dX11_goesTo_180 ic_1 ?_
      refine eg_iadd dX11_goesTo_181 ?_
      refine en_iastore dX11_goesTo_182 (arM_110 z1 g14) (fun M15 eM15 => ?_)
      have h := h M15 eM15
      exact eg_vreturn dX11_goesTo_183 rfl h
  · have h := h.2 c1
    refine eg_aload_n 0 dX11_goesTo_116 rfl rfl ?_
    refine eg_iload_n 1 dX11_goesTo_117 rfl rfl ?_
    refine eg_iload 3 dX11_goesTo_118 rfl ?_
    obtain ⟨q17, hq17, h⟩ := h
    refine eg_callVV (av := [vI l1, vI l4]) (st := []) dX11_goesTo_120 ml_11_444 rfl rfl (obM_60 z1) (by decide) rfl (Nat.le_of_ble_eq_true rfl) (eg_dd hd) hq17 (fun M16 hp => ?_)
    have h := h M16 hp
    refine eg_aload_n 0 dX11_goesTo_123 rfl rfl ?_
    refine eg_getR dX11_goesTo_124 fl_11_69 rfl rfl (obM_60 z1) ?_
    show eg_W κ gM mtX11_goesTo d (eQV κ gM post) 127 [(0, vR (60, 0)), (1, vI l1), (3, vI l3), (4, vI l4)] [vR (110, 0)] M16
    refine eg_iload_n 2 dX11_goesTo_127 rfl rfl ?_
    refine eg_iconst dX11_goesTo_128 ic_3 ?_
    refine eg_iadd dX11_goesTo_129 ?_
    refine eg_aload_n 0 dX11_goesTo_130 rfl rfl ?_
    refine eg_iload 3 dX11_goesTo_131 rfl ?_
    refine eg_iconst dX11_goesTo_133 ic_0 ?_
    obtain ⟨q20, hq20, h⟩ := h
    refine eg_callVI (av := [vI l4, vI (0 : Int32)]) (st := [vI (l3 + (3 : Int32)), vR (110, 0)]) dX11_goesTo_134 ml_11_366 rfl rfl (obM_60 z1) (by decide) rfl (Nat.le_of_ble_eq_true rfl) (eg_dd hd) hq20 (fun x18 M19 hp => ?_)
    have h := h x18 M19 hp
    obtain ⟨g21, h⟩ := h
    refine en_iastore dX11_goesTo_137 (arM_110 z1 g21) (fun M22 eM22 => ?_)
    have h := h M22 eM22
    exact eg_vreturn dX11_goesTo_138 rfl h
theorem dX11_goes_0 : decode cX11_goes 0 = .ok (.aload_n 0, 1) := by decide +kernel
theorem dX11_goes_1 : decode cX11_goes 1 = .ok (.getfield 69, 3) := by decide +kernel
theorem dX11_goes_4 : decode cX11_goes 4 = .ok (.iconst 2, 1) := by decide +kernel
theorem dX11_goes_5 : decode cX11_goes 5 = .ok (.iload_n 1, 1) := by decide +kernel
theorem dX11_goes_6 : decode cX11_goes 6 = .ok (.iadd, 1) := by decide +kernel
theorem dX11_goes_7 : decode cX11_goes 7 = .ok (.iaload, 1) := by decide +kernel
theorem dX11_goes_8 : decode cX11_goes 8 = .ok (.istore_n 2, 1) := by decide +kernel
theorem dX11_goes_9 : decode cX11_goes 9 = .ok (.iload_n 2, 1) := by decide +kernel
theorem dX11_goes_10 : decode cX11_goes 10 = .ok (.invokestatic 372, 3) := by decide +kernel
theorem dX11_goes_13 : decode cX11_goes 13 = .ok (.istore_n 3, 1) := by decide +kernel
theorem dX11_goes_14 : decode cX11_goes 14 = .ok (.aload_n 0, 1) := by decide +kernel
theorem dX11_goes_15 : decode cX11_goes 15 = .ok (.iload_n 2, 1) := by decide +kernel
theorem dX11_goes_16 : decode cX11_goes 16 = .ok (.invokevirtual 447, 3) := by decide +kernel
theorem dX11_goes_19 : decode cX11_goes 19 = .ok (.istore 4, 2) := by decide +kernel
theorem dX11_goes_21 : decode cX11_goes 21 = .ok (.iload_n 1, 1) := by decide +kernel
theorem dX11_goes_22 : decode cX11_goes 22 = .ok (.ifCond .le 24, 3) := by decide +kernel
theorem dX11_goes_25 : decode cX11_goes 25 = .ok (.aload_n 0, 1) := by decide +kernel
theorem dX11_goes_26 : decode cX11_goes 26 = .ok (.getfield 69, 3) := by decide +kernel
theorem dX11_goes_29 : decode cX11_goes 29 = .ok (.aload_n 0, 1) := by decide +kernel
theorem dX11_goes_30 : decode cX11_goes 30 = .ok (.getfield 69, 3) := by decide +kernel
theorem dX11_goes_33 : decode cX11_goes 33 = .ok (.iconst 1, 1) := by decide +kernel
theorem dX11_goes_34 : decode cX11_goes 34 = .ok (.iload_n 1, 1) := by decide +kernel
theorem dX11_goes_35 : decode cX11_goes 35 = .ok (.iadd, 1) := by decide +kernel
theorem dX11_goes_36 : decode cX11_goes 36 = .ok (.iaload, 1) := by decide +kernel
theorem dX11_goes_37 : decode cX11_goes 37 = .ok (.invokestatic 372, 3) := by decide +kernel
theorem dX11_goes_40 : decode cX11_goes 40 = .ok (.iconst 1, 1) := by decide +kernel
theorem dX11_goes_41 : decode cX11_goes 41 = .ok (.iadd, 1) := by decide +kernel
theorem dX11_goes_42 : decode cX11_goes 42 = .ok (.iaload, 1) := by decide +kernel
theorem dX11_goes_43 : decode cX11_goes 43 = .ok (.goto 4, 3) := by decide +kernel
theorem dX11_goes_46 : decode cX11_goes 46 = .ok (.iconst (-1), 1) := by decide +kernel
theorem dX11_goes_47 : decode cX11_goes 47 = .ok (.istore 5, 2) := by decide +kernel
theorem dX11_goes_49 : decode cX11_goes 49 = .ok (.aload_n 0, 1) := by decide +kernel
theorem dX11_goes_50 : decode cX11_goes 50 = .ok (.getfield 354, 3) := by decide +kernel
theorem dX11_goes_53 : decode cX11_goes 53 = .ok (.ifCond .ne 67, 3) := by decide +kernel
theorem dX11_goes_56 : decode cX11_goes 56 = .ok (.iload_n 1, 1) := by decide +kernel
theorem dX11_goes_57 : decode cX11_goes 57 = .ok (.ifCond .le 63, 3) := by decide +kernel
theorem dX11_goes_60 : decode cX11_goes 60 = .ok (.iload 4, 2) := by decide +kernel
theorem dX11_goes_62 : decode cX11_goes 62 = .ok (.ifCond .lt 10, 3) := by decide +kernel
theorem dX11_goes_65 : decode cX11_goes 65 = .ok (.iload 5, 2) := by decide +kernel
theorem dX11_goes_67 : decode cX11_goes 67 = .ok (.iload 4, 2) := by decide +kernel
theorem dX11_goes_69 : decode cX11_goes 69 = .ok (.if_icmp .ge 51, 3) := by decide +kernel
theorem dX11_goes_72 : decode cX11_goes 72 = .ok (.aload_n 0, 1) := by decide +kernel
theorem dX11_goes_73 : decode cX11_goes 73 = .ok (.getfield 69, 3) := by decide +kernel
theorem dX11_goes_76 : decode cX11_goes 76 = .ok (.iload_n 3, 1) := by decide +kernel
theorem dX11_goes_77 : decode cX11_goes 77 = .ok (.iconst 1, 1) := by decide +kernel
theorem dX11_goes_78 : decode cX11_goes 78 = .ok (.iadd, 1) := by decide +kernel
theorem dX11_goes_79 : decode cX11_goes 79 = .ok (.iload 5, 2) := by decide +kernel
theorem dX11_goes_81 : decode cX11_goes 81 = .ok (.aload_n 0, 1) := by decide +kernel
theorem dX11_goes_82 : decode cX11_goes 82 = .ok (.getfield 69, 3) := by decide +kernel
theorem dX11_goes_85 : decode cX11_goes 85 = .ok (.iload_n 3, 1) := by decide +kernel
theorem dX11_goes_86 : decode cX11_goes 86 = .ok (.iconst 1, 1) := by decide +kernel
theorem dX11_goes_87 : decode cX11_goes 87 = .ok (.iadd, 1) := by decide +kernel
theorem dX11_goes_88 : decode cX11_goes 88 = .ok (.iaload, 1) := by decide +kernel
theorem dX11_goes_89 : decode cX11_goes 89 = .ok (.if_icmp .le 8, 3) := by decide +kernel
theorem dX11_goes_92 : decode cX11_goes 92 = .ok (.iload 5, 2) := by decide +kernel
theorem dX11_goes_94 : decode cX11_goes 94 = .ok (.goto 11, 3) := by decide +kernel
theorem dX11_goes_97 : decode cX11_goes 97 = .ok (.aload_n 0, 1) := by decide +kernel
theorem dX11_goes_98 : decode cX11_goes 98 = .ok (.getfield 69, 3) := by decide +kernel
theorem dX11_goes_101 : decode cX11_goes 101 = .ok (.iload_n 3, 1) := by decide +kernel
theorem dX11_goes_102 : decode cX11_goes 102 = .ok (.iconst 1, 1) := by decide +kernel
theorem dX11_goes_103 : decode cX11_goes 103 = .ok (.iadd, 1) := by decide +kernel
theorem dX11_goes_104 : decode cX11_goes 104 = .ok (.iaload, 1) := by decide +kernel
theorem dX11_goes_105 : decode cX11_goes 105 = .ok (.iastore, 1) := by decide +kernel
theorem dX11_goes_106 : decode cX11_goes 106 = .ok (.aload_n 0, 1) := by decide +kernel
theorem dX11_goes_107 : decode cX11_goes 107 = .ok (.getfield 69, 3) := by decide +kernel
theorem dX11_goes_110 : decode cX11_goes 110 = .ok (.iload_n 3, 1) := by decide +kernel
theorem dX11_goes_111 : decode cX11_goes 111 = .ok (.iconst 4, 1) := by decide +kernel
theorem dX11_goes_112 : decode cX11_goes 112 = .ok (.iadd, 1) := by decide +kernel
theorem dX11_goes_113 : decode cX11_goes 113 = .ok (.dup2, 1) := by decide +kernel
theorem dX11_goes_114 : decode cX11_goes 114 = .ok (.iaload, 1) := by decide +kernel
theorem dX11_goes_115 : decode cX11_goes 115 = .ok (.iconst 1, 1) := by decide +kernel
theorem dX11_goes_116 : decode cX11_goes 116 = .ok (.iadd, 1) := by decide +kernel
theorem dX11_goes_117 : decode cX11_goes 117 = .ok (.iastore, 1) := by decide +kernel
theorem dX11_goes_118 : decode cX11_goes 118 = .ok (.iconst 0, 1) := by decide +kernel
theorem dX11_goes_119 : decode cX11_goes 119 = .ok (.ireturn, 1) := by decide +kernel
theorem dX11_goes_120 : decode cX11_goes 120 = .ok (.iload 4, 2) := by decide +kernel
theorem dX11_goes_122 : decode cX11_goes 122 = .ok (.ifCond .ge 10, 3) := by decide +kernel
theorem dX11_goes_125 : decode cX11_goes 125 = .ok (.aload_n 0, 1) := by decide +kernel
theorem dX11_goes_126 : decode cX11_goes 126 = .ok (.iload_n 1, 1) := by decide +kernel
theorem dX11_goes_127 : decode cX11_goes 127 = .ok (.invokevirtual 450, 3) := by decide +kernel
theorem dX11_goes_130 : decode cX11_goes 130 = .ok (.iconst 1, 1) := by decide +kernel
theorem dX11_goes_131 : decode cX11_goes 131 = .ok (.ireturn, 1) := by decide +kernel
theorem dX11_goes_132 : decode cX11_goes 132 = .ok (.aload_n 0, 1) := by decide +kernel
theorem dX11_goes_133 : decode cX11_goes 133 = .ok (.iload_n 2, 1) := by decide +kernel
theorem dX11_goes_134 : decode cX11_goes 134 = .ok (.iload 4, 2) := by decide +kernel
theorem dX11_goes_136 : decode cX11_goes 136 = .ok (.invokevirtual 453, 3) := by decide +kernel
theorem dX11_goes_139 : decode cX11_goes 139 = .ok (.iconst 0, 1) := by decide +kernel
theorem dX11_goes_140 : decode cX11_goes 140 = .ok (.ireturn, 1) := by decide +kernel
set_option maxRecDepth 10000 in
theorem vX11_goes_0 {κ : eg_K} {d : Nat} (hd : 1 ≤ d) {post : Int32 → eg_H → Prop} (M : eg_H) (l1 : Int32) (h : (vp_in ((2 : Int32) + l1) 366 ∧ (∀ x2 : Int32, x2 = (M.1 (110, 0) ((2 : Int32) + l1).toNatClampNeg) → eCI κ gM mtX11_at d [vI x2] M (fun x3 M4 => eCI κ gM mtX11_nextOf d [vR (60, 0), vI x2] M4 (fun x6 M7 => (l1 ≤ 0 → eg_W κ gM mtX11_goes d (eQI κ gM post) 47 [(0, vR (60, 0)), (1, vI l1), (2, vI x2), (3, vI x3), (4, vI x6)] [vI (-1 : Int32)] M7) ∧ ((¬ l1 ≤ 0) → (vp_in ((1 : Int32) + l1) 366 ∧ eCI κ gM mtX11_at d [vI (M7.1 (110, 0) ((1 : Int32) + l1).toNatClampNeg)] M7 (fun x11 M12 => (vp_in (x11 + (1 : Int32)) 366 ∧ eg_W κ gM mtX11_goes d (eQI κ gM post) 47 [(0, vR (60, 0)), (1, vI l1), (2, vI x2), (3, vI x3), (4, vI x6)] [vI (M12.1 (110, 0) (x11 + (1 : Int32)).toNatClampNeg)] M12))))))))) : eg_W κ gM mtX11_goes d (eQI κ gM post) 0 [(0, vR (60, 0)), (1, vI l1)] [] M := by
  refine eg_aload_n 0 dX11_goes_0 rfl rfl ?_
  refine eg_getR dX11_goes_1 fl_11_69 rfl rfl (obM_60 z1) ?_
  show eg_W κ gM mtX11_goes d (eQI κ gM post) 4 [(0, vR (60, 0)), (1, vI l1)] [vR (110, 0)] M
  refine eg_iconst dX11_goes_4 ic_2 ?_
  refine eg_iload_n 1 dX11_goes_5 rfl rfl ?_
  refine eg_iadd dX11_goes_6 ?_
  obtain ⟨g1, h⟩ := h
  refine eg_iaload dX11_goes_7 (arM_110 z1 g1) ?_
  refine en_istore_n (f := fun x2 => [(2, vI x2), (0, vR (60, 0)), (1, vI l1)]) dX11_goes_8 rfl (by decide) rfl (fun x2 ex2 => ?_)
  have h := h x2 ex2
  refine eg_iload_n 0 dX11_goes_9 rfl rfl ?_
  obtain ⟨q5, hq5, h⟩ := h
  refine eg_callSI (av := [vI x2]) (st := []) dX11_goes_10 ml_11_372 rfl rfl (Nat.le_of_ble_eq_true rfl) (eg_dd hd) hq5 (fun x3 M4 hp => ?_)
  have h := h x3 M4 hp
  refine eg_istore_n dX11_goes_13 rfl (by decide) (ls1 := [(3, vI x3), (2, vI x2), (0, vR (60, 0)), (1, vI l1)]) rfl ?_
  refine eg_aload_n 2 dX11_goes_14 rfl rfl ?_
  refine eg_iload_n 1 dX11_goes_15 rfl rfl ?_
  obtain ⟨q8, hq8, h⟩ := h
  refine eg_callVI (av := [vI x2]) (st := []) dX11_goes_16 ml_11_447 rfl rfl (obM_60 z1) (by decide) rfl (Nat.le_of_ble_eq_true rfl) (eg_dd hd) hq8 (fun x6 M7 hp => ?_)
  have h := h x6 M7 hp
  refine eg_istore dX11_goes_19 (by decide) (ls1 := [(4, vI x6), (3, vI x3), (2, vI x2), (0, vR (60, 0)), (1, vI l1)]) rfl ?_
  refine eg_iload_n 4 dX11_goes_21 rfl rfl ?_
  refine eg_if_le (tgt := 46) dX11_goes_22 rfl (fun c9 => ?_) (fun c9 => ?_)
  · have h := h.1 c9
    refine eg_iconst dX11_goes_46 ic_m1 ?_
    refine eg_sub [3, 4, 2, 1, 0] rfl ?_
    exact h
  · have h := h.2 c9
    refine eg_aload_n 3 dX11_goes_25 rfl rfl ?_
    refine eg_getR dX11_goes_26 fl_11_69 rfl rfl (obM_60 z1) ?_
    show eg_W κ gM mtX11_goes d (eQI κ gM post) 29 [(4, vI x6), (3, vI x3), (2, vI x2), (0, vR (60, 0)), (1, vI l1)] [vR (110, 0)] M7
    refine eg_aload_n 3 dX11_goes_29 rfl rfl ?_
    refine eg_getR dX11_goes_30 fl_11_69 rfl rfl (obM_60 z1) ?_
    show eg_W κ gM mtX11_goes d (eQI κ gM post) 33 [(4, vI x6), (3, vI x3), (2, vI x2), (0, vR (60, 0)), (1, vI l1)] [vR (110, 0), vR (110, 0)] M7
    refine eg_iconst dX11_goes_33 ic_1 ?_
    refine eg_iload_n 4 dX11_goes_34 rfl rfl ?_
    refine eg_iadd dX11_goes_35 ?_
    obtain ⟨g10, h⟩ := h
    refine eg_iaload dX11_goes_36 (arM_110 z1 g10) ?_
    obtain ⟨q13, hq13, h⟩ := h
    refine eg_callSI (av := [vI (M7.1 (110, 0) ((1 : Int32) + l1).toNatClampNeg)]) (st := [vR (110, 0)]) dX11_goes_37 ml_11_372 rfl rfl (Nat.le_of_ble_eq_true rfl) (eg_dd hd) hq13 (fun x11 M12 hp => ?_)
    have h := h x11 M12 hp
    refine eg_iconst dX11_goes_40 ic_1 ?_
    refine eg_iadd dX11_goes_41 ?_
    obtain ⟨g14, h⟩ := h
    refine eg_iaload dX11_goes_42 (arM_110 z1 g14) ?_
    refine eg_goto (tgt := 47) dX11_goes_43 rfl ?_
    refine eg_sub [3, 4, 2, 1, 0] rfl ?_
    exact h
set_option maxRecDepth 10000 in
theorem vX11_goes_47 {κ : eg_K} {d : Nat} {post : Int32 → eg_H → Prop} (M : eg_H) (l1 : Int32) (l2 : Int32) (l3 : Int32) (l4 : Int32) (s0 : Int32) (h : ((¬ (M.1 (60, 0) 60) = 0) → eg_W κ gM mtX11_goes d (eQI κ gM post) 120 [(0, vR (60, 0)), (1, vI l1), (2, vI l2), (4, vI l4)] [] M) ∧ ((M.1 (60, 0) 60) = 0 → (l1 ≤ 0 → eg_W κ gM mtX11_goes d (eQI κ gM post) 120 [(0, vR (60, 0)), (1, vI l1), (2, vI l2), (4, vI l4)] [] M) ∧ ((¬ l1 ≤ 0) → (l4 < 0 → eg_W κ gM mtX11_goes d (eQI κ gM post) 72 [(0, vR (60, 0)), (3, vI l3), (5, vI s0)] [] M) ∧ ((¬ l4 < 0) → (l4 ≤ s0 → eg_W κ gM mtX11_goes d (eQI κ gM post) 120 [(0, vR (60, 0)), (1, vI l1), (2, vI l2), (4, vI l4)] [] M) ∧ ((¬ l4 ≤ s0) → eg_W κ gM mtX11_goes d (eQI κ gM post) 72 [(0, vR (60, 0)), (3, vI l3), (5, vI s0)] [] M))))) : eg_W κ gM mtX11_goes d (eQI κ gM post) 47 [(0, vR (60, 0)), (1, vI l1), (2, vI l2), (3, vI l3), (4, vI l4)] [vI s0] M := by
  refine eg_istore dX11_goes_47 (by decide) (ls1 := [(5, vI s0), (0, vR (60, 0)), (1, vI l1), (2, vI l2), (3, vI l3), (4, vI l4)]) rfl ?_
  refine eg_aload_n 1 dX11_goes_49 rfl rfl ?_
  refine eg_getI dX11_goes_50 fl_11_354 rfl trivial (obM_60 z1) ?_
  refine eg_if_ne (tgt := 120) dX11_goes_53 rfl (fun c1 => ?_) (fun c1 => ?_)
  · have h := h.1 c1
    refine eg_sub [1, 2, 3, 5] rfl ?_
    exact h
  · have h := h.2 c1
    refine eg_iload_n 2 dX11_goes_56 rfl rfl ?_
    refine eg_if_le (tgt := 120) dX11_goes_57 rfl (fun c2 => ?_) (fun c2 => ?_)
    · have h := h.1 c2
      refine eg_sub [1, 2, 3, 5] rfl ?_
      exact h
    · have h := h.2 c2
      refine eg_iload 5 dX11_goes_60 rfl ?_
      refine eg_if_lt (tgt := 72) dX11_goes_62 rfl (fun c3 => ?_) (fun c3 => ?_)
      · have h := h.1 c3
        refine eg_sub [1, 4, 0] rfl ?_
        exact h
      · have h := h.2 c3
        refine eg_iload 0 dX11_goes_65 rfl ?_
        refine eg_iload 5 dX11_goes_67 rfl ?_
        refine eg_icmp_ge (tgt := 120) dX11_goes_69 rfl (fun c4 => ?_) (fun c4 => ?_)
        · have h := h.1 c4
          refine eg_sub [1, 2, 3, 5] rfl ?_
          exact h
        · have h := h.2 c4
          refine eg_sub [1, 4, 0] rfl ?_
          exact h
set_option maxRecDepth 10000 in
theorem vX11_goes_72 {κ : eg_K} {d : Nat} {post : Int32 → eg_H → Prop} (M : eg_H) (l3 : Int32) (l5 : Int32) (h : (vp_in (l3 + (1 : Int32)) 366 ∧ (∀ x2 : Int32, x2 = ((if l5 ≤ (M.1 (110, 0) (l3 + (1 : Int32)).toNatClampNeg) then (M.1 (110, 0) (l3 + (1 : Int32)).toNatClampNeg) else l5)) → (∀ M3 : eg_H, M3 = (sI M (110, 0) (l3 + (1 : Int32)).toNatClampNeg x2) → (vp_in (l3 + (4 : Int32)) 366 ∧ (∀ M5 : eg_H, M5 = (sI M3 (110, 0) (l3 + (4 : Int32)).toNatClampNeg ((M3.1 (110, 0) (l3 + (4 : Int32)).toNatClampNeg) + (1 : Int32))) → post (0 : Int32) M5)))))) : eg_W κ gM mtX11_goes d (eQI κ gM post) 72 [(0, vR (60, 0)), (3, vI l3), (5, vI l5)] [] M := by
  refine eg_aload_n 0 dX11_goes_72 rfl rfl ?_
  refine eg_getR dX11_goes_73 fl_11_69 rfl rfl (obM_60 z1) ?_
  show eg_W κ gM mtX11_goes d (eQI κ gM post) 76 [(0, vR (60, 0)), (3, vI l3), (5, vI l5)] [vR (110, 0)] M
  refine eg_iload_n 1 dX11_goes_76 rfl rfl ?_
  refine eg_iconst dX11_goes_77 ic_1 ?_
  refine eg_iadd dX11_goes_78 ?_
  refine eg_iload 2 dX11_goes_79 rfl ?_
  refine eg_aload_n 0 dX11_goes_81 rfl rfl ?_
  refine eg_getR dX11_goes_82 fl_11_69 rfl rfl (obM_60 z1) ?_
  show eg_W κ gM mtX11_goes d (eQI κ gM post) 85 [(0, vR (60, 0)), (3, vI l3), (5, vI l5)] [vR (110, 0), vI l5, vI (l3 + (1 : Int32)), vR (110, 0)] M
  refine eg_iload_n 1 dX11_goes_85 rfl rfl ?_
  refine eg_iconst dX11_goes_86 ic_1 ?_
  refine eg_iadd dX11_goes_87 ?_
  obtain ⟨g1, h⟩ := h
  refine eg_iaload dX11_goes_88 (arM_110 z1 g1) ?_
  have J : ∀ x2 : Int32, x2 = (if l5 ≤ (M.1 (110, 0) (l3 + (1 : Int32)).toNatClampNeg) then (M.1 (110, 0) (l3 + (1 : Int32)).toNatClampNeg) else l5) → eg_W κ gM mtX11_goes d (eQI κ gM post) 105 [(0, vR (60, 0)), (3, vI l3), (5, vI l5)] [vI x2, vI (l3 + (1 : Int32)), vR (110, 0)] M := by
    intro x2 ex2
    have h := h x2 ex2
    refine en_iastore dX11_goes_105 (arM_110 z1 g1) (fun M3 eM3 => ?_)
    have h := h M3 eM3
    refine eg_aload_n 0 dX11_goes_106 rfl rfl ?_
    refine eg_getR dX11_goes_107 fl_11_69 rfl rfl (obM_60 z1) ?_
    show eg_W κ gM mtX11_goes d (eQI κ gM post) 110 [(0, vR (60, 0)), (3, vI l3), (5, vI l5)] [vR (110, 0)] M3
    refine eg_iload_n 1 dX11_goes_110 rfl rfl ?_
    refine eg_iconst dX11_goes_111 ic_4 ?_
    refine eg_iadd dX11_goes_112 ?_
    refine eg_dup2 dX11_goes_113 rfl rfl ?_
    obtain ⟨g4, h⟩ := h
    refine eg_iaload dX11_goes_114 (arM_110 z1 g4) ?_
    refine eg_iconst dX11_goes_115 ic_1 ?_
    refine eg_iadd dX11_goes_116 ?_
    refine en_iastore dX11_goes_117 (arM_110 z1 g4) (fun M5 eM5 => ?_)
    have h := h M5 eM5
    refine eg_iconst dX11_goes_118 ic_0 ?_
    exact eg_zreturn dX11_goes_119 rfl (Or.inl rfl) h
  clear h
  refine eg_icmp_le (tgt := 97) dX11_goes_89 rfl (fun c6 => ?_) (fun c6 => ?_)
  · refine eg_aload_n 0 dX11_goes_97 rfl rfl ?_
    refine eg_getR dX11_goes_98 fl_11_69 rfl rfl (obM_60 z1) ?_
    show eg_W κ gM mtX11_goes d (eQI κ gM post) 101 [(0, vR (60, 0)), (3, vI l3), (5, vI l5)] [vR (110, 0), vI (l3 + (1 : Int32)), vR (110, 0)] M
    refine eg_iload_n 1 dX11_goes_101 rfl rfl ?_
    refine eg_iconst dX11_goes_102 ic_1 ?_
    refine eg_iadd dX11_goes_103 ?_
    refine eg_iaload dX11_goes_104 (arM_110 z1 g1) ?_
    exact J _ (by rw [if_pos c6])
  · refine eg_iload 2 dX11_goes_92 rfl ?_
    refine eg_goto (tgt := 105) dX11_goes_94 rfl ?_
    exact J _ (by rw [if_neg c6])
set_option maxRecDepth 10000 in
theorem vX11_goes_120 {κ : eg_K} {d : Nat} (hd : 1 ≤ d) {post : Int32 → eg_H → Prop} (M : eg_H) (l1 : Int32) (l2 : Int32) (l4 : Int32) (h : (0 ≤ l4 → eCV κ gM mtX11_goesTo d [vR (60, 0), vI l2, vI l4] M (fun M2 => post (0 : Int32) M2)) ∧ ((¬ 0 ≤ l4) → eCV κ gM mtX11_sits d [vR (60, 0), vI l1] M (fun M4 => post (1 : Int32) M4))) : eg_W κ gM mtX11_goes d (eQI κ gM post) 120 [(0, vR (60, 0)), (1, vI l1), (2, vI l2), (4, vI l4)] [] M := by
  refine eg_iload 3 dX11_goes_120 rfl ?_
  refine eg_if_ge (tgt := 132) dX11_goes_122 rfl (fun c1 => ?_) (fun c1 => ?_)
  · have h := h.1 c1
    refine eg_aload_n 0 dX11_goes_132 rfl rfl ?_
    refine eg_iload_n 2 dX11_goes_133 rfl rfl ?_
    refine eg_iload 3 dX11_goes_134 rfl ?_
    obtain ⟨q3, hq3, h⟩ := h
    refine eg_callVV (av := [vI l2, vI l4]) (st := []) dX11_goes_136 ml_11_453 rfl rfl (obM_60 z1) (by decide) rfl (Nat.le_of_ble_eq_true rfl) (eg_dd hd) hq3 (fun M2 hp => ?_)
    have h := h M2 hp
    refine eg_iconst dX11_goes_139 ic_0 ?_
    exact eg_zreturn dX11_goes_140 rfl (Or.inl rfl) h
  · have h := h.2 c1
    refine eg_aload_n 0 dX11_goes_125 rfl rfl ?_
    refine eg_iload_n 1 dX11_goes_126 rfl rfl ?_
    obtain ⟨q5, hq5, h⟩ := h
    refine eg_callVV (av := [vI l1]) (st := []) dX11_goes_127 ml_11_450 rfl rfl (obM_60 z1) (by decide) rfl (Nat.le_of_ble_eq_true rfl) (eg_dd hd) hq5 (fun M4 hp => ?_)
    have h := h M4 hp
    refine eg_iconst dX11_goes_130 ic_1 ?_
    exact eg_zreturn dX11_goes_131 rfl (Or.inr rfl) h
theorem dX11_comesNow_0 : decode cX11_comesNow 0 = .ok (.iload_n 1, 1) := by decide +kernel
theorem dX11_comesNow_1 : decode cX11_comesNow 1 = .ok (.invokestatic 372, 3) := by decide +kernel
theorem dX11_comesNow_4 : decode cX11_comesNow 4 = .ok (.istore_n 2, 1) := by decide +kernel
theorem dX11_comesNow_5 : decode cX11_comesNow 5 = .ok (.aload_n 0, 1) := by decide +kernel
theorem dX11_comesNow_6 : decode cX11_comesNow 6 = .ok (.getfield 69, 3) := by decide +kernel
theorem dX11_comesNow_9 : decode cX11_comesNow 9 = .ok (.iload_n 2, 1) := by decide +kernel
theorem dX11_comesNow_10 : decode cX11_comesNow 10 = .ok (.iconst 1, 1) := by decide +kernel
theorem dX11_comesNow_11 : decode cX11_comesNow 11 = .ok (.iastore, 1) := by decide +kernel
theorem dX11_comesNow_12 : decode cX11_comesNow 12 = .ok (.aload_n 0, 1) := by decide +kernel
theorem dX11_comesNow_13 : decode cX11_comesNow 13 = .ok (.getfield 69, 3) := by decide +kernel
theorem dX11_comesNow_16 : decode cX11_comesNow 16 = .ok (.iload_n 2, 1) := by decide +kernel
theorem dX11_comesNow_17 : decode cX11_comesNow 17 = .ok (.iconst 1, 1) := by decide +kernel
theorem dX11_comesNow_18 : decode cX11_comesNow 18 = .ok (.iadd, 1) := by decide +kernel
theorem dX11_comesNow_19 : decode cX11_comesNow 19 = .ok (.iconst (-1), 1) := by decide +kernel
theorem dX11_comesNow_20 : decode cX11_comesNow 20 = .ok (.iastore, 1) := by decide +kernel
theorem dX11_comesNow_21 : decode cX11_comesNow 21 = .ok (.aload_n 0, 1) := by decide +kernel
theorem dX11_comesNow_22 : decode cX11_comesNow 22 = .ok (.getfield 69, 3) := by decide +kernel
theorem dX11_comesNow_25 : decode cX11_comesNow 25 = .ok (.iload_n 2, 1) := by decide +kernel
theorem dX11_comesNow_26 : decode cX11_comesNow 26 = .ok (.iconst 2, 1) := by decide +kernel
theorem dX11_comesNow_27 : decode cX11_comesNow 27 = .ok (.iadd, 1) := by decide +kernel
theorem dX11_comesNow_28 : decode cX11_comesNow 28 = .ok (.aload_n 0, 1) := by decide +kernel
theorem dX11_comesNow_29 : decode cX11_comesNow 29 = .ok (.iload_n 1, 1) := by decide +kernel
theorem dX11_comesNow_30 : decode cX11_comesNow 30 = .ok (.invokevirtual 374, 3) := by decide +kernel
theorem dX11_comesNow_33 : decode cX11_comesNow 33 = .ok (.iastore, 1) := by decide +kernel
theorem dX11_comesNow_34 : decode cX11_comesNow 34 = .ok (.aload_n 0, 1) := by decide +kernel
theorem dX11_comesNow_35 : decode cX11_comesNow 35 = .ok (.getfield 69, 3) := by decide +kernel
theorem dX11_comesNow_38 : decode cX11_comesNow 38 = .ok (.iload_n 2, 1) := by decide +kernel
theorem dX11_comesNow_39 : decode cX11_comesNow 39 = .ok (.iconst 3, 1) := by decide +kernel
theorem dX11_comesNow_40 : decode cX11_comesNow 40 = .ok (.iadd, 1) := by decide +kernel
theorem dX11_comesNow_41 : decode cX11_comesNow 41 = .ok (.iconst 0, 1) := by decide +kernel
theorem dX11_comesNow_42 : decode cX11_comesNow 42 = .ok (.iastore, 1) := by decide +kernel
theorem dX11_comesNow_43 : decode cX11_comesNow 43 = .ok (.aload_n 0, 1) := by decide +kernel
theorem dX11_comesNow_44 : decode cX11_comesNow 44 = .ok (.getfield 69, 3) := by decide +kernel
theorem dX11_comesNow_47 : decode cX11_comesNow 47 = .ok (.iload_n 2, 1) := by decide +kernel
theorem dX11_comesNow_48 : decode cX11_comesNow 48 = .ok (.bipush 9, 2) := by decide +kernel
theorem dX11_comesNow_50 : decode cX11_comesNow 50 = .ok (.iadd, 1) := by decide +kernel
theorem dX11_comesNow_51 : decode cX11_comesNow 51 = .ok (.dup2, 1) := by decide +kernel
theorem dX11_comesNow_52 : decode cX11_comesNow 52 = .ok (.iaload, 1) := by decide +kernel
theorem dX11_comesNow_53 : decode cX11_comesNow 53 = .ok (.iconst 1, 1) := by decide +kernel
theorem dX11_comesNow_54 : decode cX11_comesNow 54 = .ok (.iadd, 1) := by decide +kernel
theorem dX11_comesNow_55 : decode cX11_comesNow 55 = .ok (.iastore, 1) := by decide +kernel
theorem dX11_comesNow_56 : decode cX11_comesNow 56 = .ok (.aload_n 0, 1) := by decide +kernel
theorem dX11_comesNow_57 : decode cX11_comesNow 57 = .ok (.getfield 69, 3) := by decide +kernel
theorem dX11_comesNow_60 : decode cX11_comesNow 60 = .ok (.iload_n 2, 1) := by decide +kernel
theorem dX11_comesNow_61 : decode cX11_comesNow 61 = .ok (.bipush 10, 2) := by decide +kernel
theorem dX11_comesNow_63 : decode cX11_comesNow 63 = .ok (.iadd, 1) := by decide +kernel
theorem dX11_comesNow_64 : decode cX11_comesNow 64 = .ok (.iconst 0, 1) := by decide +kernel
theorem dX11_comesNow_65 : decode cX11_comesNow 65 = .ok (.iastore, 1) := by decide +kernel
theorem dX11_comesNow_66 : decode cX11_comesNow 66 = .ok (.aload_n 0, 1) := by decide +kernel
theorem dX11_comesNow_67 : decode cX11_comesNow 67 = .ok (.getfield 69, 3) := by decide +kernel
theorem dX11_comesNow_70 : decode cX11_comesNow 70 = .ok (.iconst 2, 1) := by decide +kernel
theorem dX11_comesNow_71 : decode cX11_comesNow 71 = .ok (.aload_n 0, 1) := by decide +kernel
theorem dX11_comesNow_72 : decode cX11_comesNow 72 = .ok (.getfield 69, 3) := by decide +kernel
theorem dX11_comesNow_75 : decode cX11_comesNow 75 = .ok (.iconst 1, 1) := by decide +kernel
theorem dX11_comesNow_76 : decode cX11_comesNow 76 = .ok (.iaload, 1) := by decide +kernel
theorem dX11_comesNow_77 : decode cX11_comesNow 77 = .ok (.iadd, 1) := by decide +kernel
theorem dX11_comesNow_78 : decode cX11_comesNow 78 = .ok (.iload_n 1, 1) := by decide +kernel
theorem dX11_comesNow_79 : decode cX11_comesNow 79 = .ok (.iastore, 1) := by decide +kernel
theorem dX11_comesNow_80 : decode cX11_comesNow 80 = .ok (.aload_n 0, 1) := by decide +kernel
theorem dX11_comesNow_81 : decode cX11_comesNow 81 = .ok (.getfield 69, 3) := by decide +kernel
theorem dX11_comesNow_84 : decode cX11_comesNow 84 = .ok (.iconst 1, 1) := by decide +kernel
theorem dX11_comesNow_85 : decode cX11_comesNow 85 = .ok (.dup2, 1) := by decide +kernel
theorem dX11_comesNow_86 : decode cX11_comesNow 86 = .ok (.iaload, 1) := by decide +kernel
theorem dX11_comesNow_87 : decode cX11_comesNow 87 = .ok (.iconst 1, 1) := by decide +kernel
theorem dX11_comesNow_88 : decode cX11_comesNow 88 = .ok (.iadd, 1) := by decide +kernel
theorem dX11_comesNow_89 : decode cX11_comesNow 89 = .ok (.iastore, 1) := by decide +kernel
theorem dX11_comesNow_90 : decode cX11_comesNow 90 = .ok (.return_, 1) := by decide +kernel
set_option maxRecDepth 10000 in
theorem vX11_comesNow_0 {κ : eg_K} {d : Nat} (hd : 1 ≤ d) {post : eg_H → Prop} (M : eg_H) (l1 : Int32) (h : eCI κ gM mtX11_at d [vI l1] M (fun x1 M2 => (vp_in x1 366 ∧ (∀ M5 : eg_H, M5 = (sI M2 (110, 0) x1.toNatClampNeg (1 : Int32)) → (vp_in (x1 + (1 : Int32)) 366 ∧ (∀ M7 : eg_H, M7 = (sI M5 (110, 0) (x1 + (1 : Int32)).toNatClampNeg (-1 : Int32)) → eCI κ gM mtX11_sizeOf d [vR (60, 0), vI l1] M7 (fun x8 M9 => (vp_in (x1 + (2 : Int32)) 366 ∧ (∀ M12 : eg_H, M12 = (sI M9 (110, 0) (x1 + (2 : Int32)).toNatClampNeg x8) → (vp_in (x1 + (3 : Int32)) 366 ∧ (∀ M14 : eg_H, M14 = (sI M12 (110, 0) (x1 + (3 : Int32)).toNatClampNeg (0 : Int32)) → (vp_in (x1 + (9 : Int32)) 366 ∧ (∀ M16 : eg_H, M16 = (sI M14 (110, 0) (x1 + (9 : Int32)).toNatClampNeg ((M14.1 (110, 0) (x1 + (9 : Int32)).toNatClampNeg) + (1 : Int32))) → (vp_in (x1 + (10 : Int32)) 366 ∧ (∀ M18 : eg_H, M18 = (sI M16 (110, 0) (x1 + (10 : Int32)).toNatClampNeg (0 : Int32)) → (vp_in (1 : Int32) 366 ∧ (vp_in ((2 : Int32) + (M18.1 (110, 0) (1 : Int32).toNatClampNeg)) 366 ∧ (∀ M21 : eg_H, M21 = (sI M18 (110, 0) ((2 : Int32) + (M18.1 (110, 0) (1 : Int32).toNatClampNeg)).toNatClampNeg l1) → (∀ M22 : eg_H, M22 = (sI M21 (110, 0) (1 : Int32).toNatClampNeg ((M21.1 (110, 0) (1 : Int32).toNatClampNeg) + (1 : Int32))) → post M22))))))))))))))))))) : eg_W κ gM mtX11_comesNow d (eQV κ gM post) 0 [(0, vR (60, 0)), (1, vI l1)] [] M := by
  refine eg_iload_n 1 dX11_comesNow_0 rfl rfl ?_
  obtain ⟨q3, hq3, h⟩ := h
  refine eg_callSI (av := [vI l1]) (st := []) dX11_comesNow_1 ml_11_372 rfl rfl (Nat.le_of_ble_eq_true rfl) (eg_dd hd) hq3 (fun x1 M2 hp => ?_)
  have h := h x1 M2 hp
  refine eg_istore_n dX11_comesNow_4 rfl (by decide) (ls1 := [(2, vI x1), (0, vR (60, 0)), (1, vI l1)]) rfl ?_
  refine eg_aload_n 1 dX11_comesNow_5 rfl rfl ?_
  refine eg_getR dX11_comesNow_6 fl_11_69 rfl rfl (obM_60 z1) ?_
  show eg_W κ gM mtX11_comesNow d (eQV κ gM post) 9 [(2, vI x1), (0, vR (60, 0)), (1, vI l1)] [vR (110, 0)] M2
  refine eg_iload_n 0 dX11_comesNow_9 rfl rfl ?_
  refine eg_iconst dX11_comesNow_10 ic_1 ?_
  obtain ⟨g4, h⟩ := h
  refine en_iastore dX11_comesNow_11 (arM_110 z1 g4) (fun M5 eM5 => ?_)
  have h := h M5 eM5
  refine eg_aload_n 1 dX11_comesNow_12 rfl rfl ?_
  refine eg_getR dX11_comesNow_13 fl_11_69 rfl rfl (obM_60 z1) ?_
  show eg_W κ gM mtX11_comesNow d (eQV κ gM post) 16 [(2, vI x1), (0, vR (60, 0)), (1, vI l1)] [vR (110, 0)] M5
  refine eg_iload_n 0 dX11_comesNow_16 rfl rfl ?_
  refine eg_iconst dX11_comesNow_17 ic_1 ?_
  refine eg_iadd dX11_comesNow_18 ?_
  refine eg_iconst dX11_comesNow_19 ic_m1 ?_
  obtain ⟨g6, h⟩ := h
  refine en_iastore dX11_comesNow_20 (arM_110 z1 g6) (fun M7 eM7 => ?_)
  have h := h M7 eM7
  refine eg_aload_n 1 dX11_comesNow_21 rfl rfl ?_
  refine eg_getR dX11_comesNow_22 fl_11_69 rfl rfl (obM_60 z1) ?_
  show eg_W κ gM mtX11_comesNow d (eQV κ gM post) 25 [(2, vI x1), (0, vR (60, 0)), (1, vI l1)] [vR (110, 0)] M7
  refine eg_iload_n 0 dX11_comesNow_25 rfl rfl ?_
  refine eg_iconst dX11_comesNow_26 ic_2 ?_
  refine eg_iadd dX11_comesNow_27 ?_
  refine eg_aload_n 1 dX11_comesNow_28 rfl rfl ?_
  refine eg_iload_n 2 dX11_comesNow_29 rfl rfl ?_
  obtain ⟨q10, hq10, h⟩ := h
  refine eg_callVI (av := [vI l1]) (st := [vI (x1 + (2 : Int32)), vR (110, 0)]) dX11_comesNow_30 ml_11_374 rfl rfl (obM_60 z1) (by decide) rfl (Nat.le_of_ble_eq_true rfl) (eg_dd hd) hq10 (fun x8 M9 hp => ?_)
  have h := h x8 M9 hp
  obtain ⟨g11, h⟩ := h
  refine en_iastore dX11_comesNow_33 (arM_110 z1 g11) (fun M12 eM12 => ?_)
  have h := h M12 eM12
  refine eg_aload_n 1 dX11_comesNow_34 rfl rfl ?_
  refine eg_getR dX11_comesNow_35 fl_11_69 rfl rfl (obM_60 z1) ?_
  show eg_W κ gM mtX11_comesNow d (eQV κ gM post) 38 [(2, vI x1), (0, vR (60, 0)), (1, vI l1)] [vR (110, 0)] M12
  refine eg_iload_n 0 dX11_comesNow_38 rfl rfl ?_
  refine eg_iconst dX11_comesNow_39 ic_3 ?_
  refine eg_iadd dX11_comesNow_40 ?_
  refine eg_iconst dX11_comesNow_41 ic_0 ?_
  obtain ⟨g13, h⟩ := h
  refine en_iastore dX11_comesNow_42 (arM_110 z1 g13) (fun M14 eM14 => ?_)
  have h := h M14 eM14
  refine eg_aload_n 1 dX11_comesNow_43 rfl rfl ?_
  refine eg_getR dX11_comesNow_44 fl_11_69 rfl rfl (obM_60 z1) ?_
  show eg_W κ gM mtX11_comesNow d (eQV κ gM post) 47 [(2, vI x1), (0, vR (60, 0)), (1, vI l1)] [vR (110, 0)] M14
  refine eg_iload_n 0 dX11_comesNow_47 rfl rfl ?_
  refine eg_bipush dX11_comesNow_48 bp_9 ?_
  refine eg_iadd dX11_comesNow_50 ?_
  refine eg_dup2 dX11_comesNow_51 rfl rfl ?_
  obtain ⟨g15, h⟩ := h
  refine eg_iaload dX11_comesNow_52 (arM_110 z1 g15) ?_
  refine eg_iconst dX11_comesNow_53 ic_1 ?_
  refine eg_iadd dX11_comesNow_54 ?_
  refine en_iastore dX11_comesNow_55 (arM_110 z1 g15) (fun M16 eM16 => ?_)
  have h := h M16 eM16
  refine eg_aload_n 1 dX11_comesNow_56 rfl rfl ?_
  refine eg_getR dX11_comesNow_57 fl_11_69 rfl rfl (obM_60 z1) ?_
  show eg_W κ gM mtX11_comesNow d (eQV κ gM post) 60 [(2, vI x1), (0, vR (60, 0)), (1, vI l1)] [vR (110, 0)] M16
  refine eg_iload_n 0 dX11_comesNow_60 rfl rfl ?_
  refine eg_bipush dX11_comesNow_61 bp_10 ?_
  refine eg_iadd dX11_comesNow_63 ?_
  refine eg_iconst dX11_comesNow_64 ic_0 ?_
  obtain ⟨g17, h⟩ := h
  refine en_iastore dX11_comesNow_65 (arM_110 z1 g17) (fun M18 eM18 => ?_)
  have h := h M18 eM18
  refine eg_aload_n 1 dX11_comesNow_66 rfl rfl ?_
  refine eg_getR dX11_comesNow_67 fl_11_69 rfl rfl (obM_60 z1) ?_
  show eg_W κ gM mtX11_comesNow d (eQV κ gM post) 70 [(2, vI x1), (0, vR (60, 0)), (1, vI l1)] [vR (110, 0)] M18
  refine eg_iconst dX11_comesNow_70 ic_2 ?_
  refine eg_aload_n 1 dX11_comesNow_71 rfl rfl ?_
  refine eg_getR dX11_comesNow_72 fl_11_69 rfl rfl (obM_60 z1) ?_
  show eg_W κ gM mtX11_comesNow d (eQV κ gM post) 75 [(2, vI x1), (0, vR (60, 0)), (1, vI l1)] [vR (110, 0), vI (2 : Int32), vR (110, 0)] M18
  refine eg_iconst dX11_comesNow_75 ic_1 ?_
  obtain ⟨g19, h⟩ := h
  refine eg_iaload dX11_comesNow_76 (arM_110 z1 g19) ?_
  refine eg_iadd dX11_comesNow_77 ?_
  refine eg_iload_n 2 dX11_comesNow_78 rfl rfl ?_
  obtain ⟨g20, h⟩ := h
  refine en_iastore dX11_comesNow_79 (arM_110 z1 g20) (fun M21 eM21 => ?_)
  have h := h M21 eM21
  refine eg_aload_n 1 dX11_comesNow_80 rfl rfl ?_
  refine eg_getR dX11_comesNow_81 fl_11_69 rfl rfl (obM_60 z1) ?_
  show eg_W κ gM mtX11_comesNow d (eQV κ gM post) 84 [(2, vI x1), (0, vR (60, 0)), (1, vI l1)] [vR (110, 0)] M21
  refine eg_iconst dX11_comesNow_84 ic_1 ?_
  refine eg_dup2 dX11_comesNow_85 rfl rfl ?_
  refine eg_iaload dX11_comesNow_86 (arM_110 z1 g19) ?_
  refine eg_iconst dX11_comesNow_87 ic_1 ?_
  refine eg_iadd dX11_comesNow_88 ?_
  refine en_iastore dX11_comesNow_89 (arM_110 z1 g19) (fun M22 eM22 => ?_)
  have h := h M22 eM22
  exact eg_vreturn dX11_comesNow_90 rfl h
theorem dX11_pansGo_0 : decode cX11_pansGo 0 = .ok (.iconst 0, 1) := by decide +kernel
theorem dX11_pansGo_1 : decode cX11_pansGo 1 = .ok (.istore_n 1, 1) := by decide +kernel
theorem dX11_pansGo_2 : decode cX11_pansGo 2 = .ok (.iload_n 1, 1) := by decide +kernel
theorem dX11_pansGo_3 : decode cX11_pansGo 3 = .ok (.aload_n 0, 1) := by decide +kernel
theorem dX11_pansGo_4 : decode cX11_pansGo 4 = .ok (.getfield 209, 3) := by decide +kernel
theorem dX11_pansGo_7 : decode cX11_pansGo 7 = .ok (.if_icmp .ge 136, 3) := by decide +kernel
theorem dX11_pansGo_10 : decode cX11_pansGo 10 = .ok (.iload_n 1, 1) := by decide +kernel
theorem dX11_pansGo_11 : decode cX11_pansGo 11 = .ok (.invokestatic 377, 3) := by decide +kernel
theorem dX11_pansGo_14 : decode cX11_pansGo 14 = .ok (.istore_n 2, 1) := by decide +kernel
theorem dX11_pansGo_15 : decode cX11_pansGo 15 = .ok (.aload_n 0, 1) := by decide +kernel
theorem dX11_pansGo_16 : decode cX11_pansGo 16 = .ok (.iload_n 1, 1) := by decide +kernel
theorem dX11_pansGo_17 : decode cX11_pansGo 17 = .ok (.invokevirtual 415, 3) := by decide +kernel
theorem dX11_pansGo_20 : decode cX11_pansGo 20 = .ok (.ifCond .eq 117, 3) := by decide +kernel
theorem dX11_pansGo_23 : decode cX11_pansGo 23 = .ok (.iload_n 1, 1) := by decide +kernel
theorem dX11_pansGo_24 : decode cX11_pansGo 24 = .ok (.aload_n 0, 1) := by decide +kernel
theorem dX11_pansGo_25 : decode cX11_pansGo 25 = .ok (.getfield 345, 3) := by decide +kernel
theorem dX11_pansGo_28 : decode cX11_pansGo 28 = .ok (.if_icmp .ne 10, 3) := by decide +kernel
theorem dX11_pansGo_31 : decode cX11_pansGo 31 = .ok (.aload_n 0, 1) := by decide +kernel
theorem dX11_pansGo_32 : decode cX11_pansGo 32 = .ok (.getfield 456, 3) := by decide +kernel
theorem dX11_pansGo_35 : decode cX11_pansGo 35 = .ok (.goto 9, 3) := by decide +kernel
theorem dX11_pansGo_38 : decode cX11_pansGo 38 = .ok (.aload_n 0, 1) := by decide +kernel
theorem dX11_pansGo_39 : decode cX11_pansGo 39 = .ok (.iload_n 1, 1) := by decide +kernel
theorem dX11_pansGo_40 : decode cX11_pansGo 40 = .ok (.iconst 4, 1) := by decide +kernel
theorem dX11_pansGo_41 : decode cX11_pansGo 41 = .ok (.invokevirtual 366, 3) := by decide +kernel
theorem dX11_pansGo_44 : decode cX11_pansGo 44 = .ok (.istore_n 3, 1) := by decide +kernel
theorem dX11_pansGo_45 : decode cX11_pansGo 45 = .ok (.aload_n 0, 1) := by decide +kernel
theorem dX11_pansGo_46 : decode cX11_pansGo 46 = .ok (.getfield 69, 3) := by decide +kernel
theorem dX11_pansGo_49 : decode cX11_pansGo 49 = .ok (.iload_n 2, 1) := by decide +kernel
theorem dX11_pansGo_50 : decode cX11_pansGo 50 = .ok (.iaload, 1) := by decide +kernel
theorem dX11_pansGo_51 : decode cX11_pansGo 51 = .ok (.iload_n 3, 1) := by decide +kernel
theorem dX11_pansGo_52 : decode cX11_pansGo 52 = .ok (.if_icmp .gt 48, 3) := by decide +kernel
theorem dX11_pansGo_55 : decode cX11_pansGo 55 = .ok (.aload_n 0, 1) := by decide +kernel
theorem dX11_pansGo_56 : decode cX11_pansGo 56 = .ok (.getfield 69, 3) := by decide +kernel
theorem dX11_pansGo_59 : decode cX11_pansGo 59 = .ok (.iload_n 2, 1) := by decide +kernel
theorem dX11_pansGo_60 : decode cX11_pansGo 60 = .ok (.iconst 2, 1) := by decide +kernel
theorem dX11_pansGo_61 : decode cX11_pansGo 61 = .ok (.iadd, 1) := by decide +kernel
theorem dX11_pansGo_62 : decode cX11_pansGo 62 = .ok (.iaload, 1) := by decide +kernel
theorem dX11_pansGo_63 : decode cX11_pansGo 63 = .ok (.ifCond .ge 37, 3) := by decide +kernel
theorem dX11_pansGo_66 : decode cX11_pansGo 66 = .ok (.aload_n 0, 1) := by decide +kernel
theorem dX11_pansGo_67 : decode cX11_pansGo 67 = .ok (.getfield 69, 3) := by decide +kernel
theorem dX11_pansGo_70 : decode cX11_pansGo 70 = .ok (.iconst 0, 1) := by decide +kernel
theorem dX11_pansGo_71 : decode cX11_pansGo 71 = .ok (.iaload, 1) := by decide +kernel
theorem dX11_pansGo_72 : decode cX11_pansGo 72 = .ok (.aload_n 0, 1) := by decide +kernel
theorem dX11_pansGo_73 : decode cX11_pansGo 73 = .ok (.getfield 227, 3) := by decide +kernel
theorem dX11_pansGo_76 : decode cX11_pansGo 76 = .ok (.if_icmp .ge 24, 3) := by decide +kernel
theorem dX11_pansGo_79 : decode cX11_pansGo 79 = .ok (.aload_n 0, 1) := by decide +kernel
theorem dX11_pansGo_80 : decode cX11_pansGo 80 = .ok (.getfield 69, 3) := by decide +kernel
theorem dX11_pansGo_83 : decode cX11_pansGo 83 = .ok (.iload_n 2, 1) := by decide +kernel
theorem dX11_pansGo_84 : decode cX11_pansGo 84 = .ok (.iconst 2, 1) := by decide +kernel
theorem dX11_pansGo_85 : decode cX11_pansGo 85 = .ok (.iadd, 1) := by decide +kernel
theorem dX11_pansGo_86 : decode cX11_pansGo 86 = .ok (.aload_n 0, 1) := by decide +kernel
theorem dX11_pansGo_87 : decode cX11_pansGo 87 = .ok (.getfield 69, 3) := by decide +kernel
theorem dX11_pansGo_90 : decode cX11_pansGo 90 = .ok (.iconst 0, 1) := by decide +kernel
theorem dX11_pansGo_91 : decode cX11_pansGo 91 = .ok (.iaload, 1) := by decide +kernel
theorem dX11_pansGo_92 : decode cX11_pansGo 92 = .ok (.aload_n 0, 1) := by decide +kernel
theorem dX11_pansGo_93 : decode cX11_pansGo 93 = .ok (.iload_n 1, 1) := by decide +kernel
theorem dX11_pansGo_94 : decode cX11_pansGo 94 = .ok (.iconst 3, 1) := by decide +kernel
theorem dX11_pansGo_95 : decode cX11_pansGo 95 = .ok (.invokevirtual 366, 3) := by decide +kernel
theorem dX11_pansGo_98 : decode cX11_pansGo 98 = .ok (.iadd, 1) := by decide +kernel
theorem dX11_pansGo_99 : decode cX11_pansGo 99 = .ok (.iastore, 1) := by decide +kernel
theorem dX11_pansGo_100 : decode cX11_pansGo 100 = .ok (.aload_n 0, 1) := by decide +kernel
theorem dX11_pansGo_101 : decode cX11_pansGo 101 = .ok (.getfield 69, 3) := by decide +kernel
theorem dX11_pansGo_104 : decode cX11_pansGo 104 = .ok (.iload_n 2, 1) := by decide +kernel
theorem dX11_pansGo_105 : decode cX11_pansGo 105 = .ok (.iconst 1, 1) := by decide +kernel
theorem dX11_pansGo_106 : decode cX11_pansGo 106 = .ok (.iadd, 1) := by decide +kernel
theorem dX11_pansGo_107 : decode cX11_pansGo 107 = .ok (.dup2, 1) := by decide +kernel
theorem dX11_pansGo_108 : decode cX11_pansGo 108 = .ok (.iaload, 1) := by decide +kernel
theorem dX11_pansGo_109 : decode cX11_pansGo 109 = .ok (.iconst 1, 1) := by decide +kernel
theorem dX11_pansGo_110 : decode cX11_pansGo 110 = .ok (.iadd, 1) := by decide +kernel
theorem dX11_pansGo_111 : decode cX11_pansGo 111 = .ok (.iastore, 1) := by decide +kernel
theorem dX11_pansGo_112 : decode cX11_pansGo 112 = .ok (.aload_n 0, 1) := by decide +kernel
theorem dX11_pansGo_113 : decode cX11_pansGo 113 = .ok (.getfield 69, 3) := by decide +kernel
theorem dX11_pansGo_116 : decode cX11_pansGo 116 = .ok (.iload_n 2, 1) := by decide +kernel
theorem dX11_pansGo_117 : decode cX11_pansGo 117 = .ok (.iconst 5, 1) := by decide +kernel
theorem dX11_pansGo_118 : decode cX11_pansGo 118 = .ok (.iadd, 1) := by decide +kernel
theorem dX11_pansGo_119 : decode cX11_pansGo 119 = .ok (.dup2, 1) := by decide +kernel
theorem dX11_pansGo_120 : decode cX11_pansGo 120 = .ok (.iaload, 1) := by decide +kernel
theorem dX11_pansGo_121 : decode cX11_pansGo 121 = .ok (.aload_n 0, 1) := by decide +kernel
theorem dX11_pansGo_122 : decode cX11_pansGo 122 = .ok (.getfield 69, 3) := by decide +kernel
theorem dX11_pansGo_125 : decode cX11_pansGo 125 = .ok (.iload_n 2, 1) := by decide +kernel
theorem dX11_pansGo_126 : decode cX11_pansGo 126 = .ok (.iaload, 1) := by decide +kernel
theorem dX11_pansGo_127 : decode cX11_pansGo 127 = .ok (.ifCond .ne 7, 3) := by decide +kernel
theorem dX11_pansGo_130 : decode cX11_pansGo 130 = .ok (.iconst 1, 1) := by decide +kernel
theorem dX11_pansGo_131 : decode cX11_pansGo 131 = .ok (.goto 4, 3) := by decide +kernel
theorem dX11_pansGo_134 : decode cX11_pansGo 134 = .ok (.iconst 0, 1) := by decide +kernel
theorem dX11_pansGo_135 : decode cX11_pansGo 135 = .ok (.iadd, 1) := by decide +kernel
theorem dX11_pansGo_136 : decode cX11_pansGo 136 = .ok (.iastore, 1) := by decide +kernel
theorem dX11_pansGo_137 : decode cX11_pansGo 137 = .ok (.iinc 1 1, 3) := by decide +kernel
theorem dX11_pansGo_140 : decode cX11_pansGo 140 = .ok (.goto (-138), 3) := by decide +kernel
theorem dX11_pansGo_143 : decode cX11_pansGo 143 = .ok (.return_, 1) := by decide +kernel
set_option maxRecDepth 10000 in
theorem vX11_pansGo_0 {κ : eg_K} {d : Nat} {post : eg_H → Prop} (M : eg_H)  (h : eg_W κ gM mtX11_pansGo d (eQV κ gM post) 2 [(0, vR (60, 0)), (1, vI (0 : Int32))] [] M) : eg_W κ gM mtX11_pansGo d (eQV κ gM post) 0 [(0, vR (60, 0))] [] M := by
  refine eg_iconst dX11_pansGo_0 ic_0 ?_
  refine eg_istore_n dX11_pansGo_1 rfl (by decide) (ls1 := [(1, vI (0 : Int32)), (0, vR (60, 0))]) rfl ?_
  refine eg_sub [1, 0] rfl ?_
  exact h
set_option maxRecDepth 10000 in
theorem vX11_pansGo_2 {κ : eg_K} {d : Nat} (hd : 1 ≤ d) {post : eg_H → Prop} (M : eg_H) (l1 : Int32) (h : ((M.1 (60, 0) 12) ≤ l1 → post M) ∧ ((¬ (M.1 (60, 0) 12) ≤ l1) → eCI κ gM mtX11_pan d [vI l1] M (fun x2 M3 => eCI κ gM mtX11_hasPan d [vR (60, 0), vI l1] M3 (fun x5 M6 => (x5 = 0 → (∀ x9 : Int32, x9 = (l1 + (1 : Int32)) → eg_W κ gM mtX11_pansGo d (eQV κ gM post) 2 [(0, vR (60, 0)), (1, vI x9)] [] M6)) ∧ ((¬ x5 = 0) → ((¬ l1 = (M6.1 (60, 0) 55)) → eCI κ gM mtX11_has d [vR (60, 0), vI l1, vI (4 : Int32)] M6 (fun x11 M12 => eg_W κ gM mtX11_pansGo d (eQV κ gM post) 44 [(0, vR (60, 0)), (1, vI l1), (2, vI x2)] [vI x11] M12)) ∧ (l1 = (M6.1 (60, 0) 55) → eg_W κ gM mtX11_pansGo d (eQV κ gM post) 44 [(0, vR (60, 0)), (1, vI l1), (2, vI x2)] [vI (M6.1 (60, 0) 56)] M6)))))) : eg_W κ gM mtX11_pansGo d (eQV κ gM post) 2 [(0, vR (60, 0)), (1, vI l1)] [] M := by
  refine eg_iload_n 1 dX11_pansGo_2 rfl rfl ?_
  refine eg_aload_n 0 dX11_pansGo_3 rfl rfl ?_
  refine eg_getI dX11_pansGo_4 fl_11_209 rfl trivial (obM_60 z1) ?_
  refine eg_icmp_ge (tgt := 143) dX11_pansGo_7 rfl (fun c1 => ?_) (fun c1 => ?_)
  · have h := h.1 c1
    exact eg_vreturn dX11_pansGo_143 rfl h
  · have h := h.2 c1
    refine eg_iload_n 1 dX11_pansGo_10 rfl rfl ?_
    obtain ⟨q4, hq4, h⟩ := h
    refine eg_callSI (av := [vI l1]) (st := []) dX11_pansGo_11 ml_11_377 rfl rfl (Nat.le_of_ble_eq_true rfl) (eg_dd hd) hq4 (fun x2 M3 hp => ?_)
    have h := h x2 M3 hp
    refine eg_istore_n dX11_pansGo_14 rfl (by decide) (ls1 := [(2, vI x2), (0, vR (60, 0)), (1, vI l1)]) rfl ?_
    refine eg_aload_n 1 dX11_pansGo_15 rfl rfl ?_
    refine eg_iload_n 2 dX11_pansGo_16 rfl rfl ?_
    obtain ⟨q7, hq7, h⟩ := h
    refine eg_callVI (av := [vI l1]) (st := []) dX11_pansGo_17 ml_11_415 rfl rfl (obM_60 z1) (by decide) rfl (Nat.le_of_ble_eq_true rfl) (eg_dd hd) hq7 (fun x5 M6 hp => ?_)
    have h := h x5 M6 hp
    refine eg_if_eq (tgt := 137) dX11_pansGo_20 rfl (fun c8 => ?_) (fun c8 => ?_)
    · have h := h.1 c8
      refine en_iinc (f := fun x9 => [(1, vI x9), (2, vI x2), (0, vR (60, 0))]) 2 dX11_pansGo_137 rfl rfl (by decide) rfl (fun x9 ex9 => ?_)
      have h := h x9 ex9
      refine eg_goto (tgt := 2) dX11_pansGo_140 rfl ?_
      refine eg_sub [2, 0] rfl ?_
      exact h
    · have h := h.2 c8
      refine eg_iload_n 2 dX11_pansGo_23 rfl rfl ?_
      refine eg_aload_n 1 dX11_pansGo_24 rfl rfl ?_
      refine eg_getI dX11_pansGo_25 fl_11_345 rfl trivial (obM_60 z1) ?_
      refine eg_icmp_ne (tgt := 38) dX11_pansGo_28 rfl (fun c10 => ?_) (fun c10 => ?_)
      · have h := h.1 c10
        refine eg_aload_n 1 dX11_pansGo_38 rfl rfl ?_
        refine eg_iload_n 2 dX11_pansGo_39 rfl rfl ?_
        refine eg_iconst dX11_pansGo_40 ic_4 ?_
        obtain ⟨q13, hq13, h⟩ := h
        refine eg_callVI (av := [vI l1, vI (4 : Int32)]) (st := []) dX11_pansGo_41 ml_11_366 rfl rfl (obM_60 z1) (by decide) rfl (Nat.le_of_ble_eq_true rfl) (eg_dd hd) hq13 (fun x11 M12 hp => ?_)
        have h := h x11 M12 hp
        refine eg_sub [1, 2, 0] rfl ?_
        exact h
      · have h := h.2 c10
        refine eg_aload_n 1 dX11_pansGo_31 rfl rfl ?_
        refine eg_getI dX11_pansGo_32 fl_11_456 rfl trivial (obM_60 z1) ?_
        refine eg_goto (tgt := 44) dX11_pansGo_35 rfl ?_
        refine eg_sub [1, 2, 0] rfl ?_
        exact h
set_option maxRecDepth 10000 in
theorem vX11_pansGo_44 {κ : eg_K} {d : Nat} (hd : 1 ≤ d) {post : eg_H → Prop} (M : eg_H) (l1 : Int32) (l2 : Int32) (s0 : Int32) (h : (vp_in l2 366 ∧ (s0 < (M.1 (110, 0) l2.toNatClampNeg) → eg_W κ gM mtX11_pansGo d (eQV κ gM post) 100 [(0, vR (60, 0)), (1, vI l1), (2, vI l2)] [] M) ∧ ((¬ s0 < (M.1 (110, 0) l2.toNatClampNeg)) → (vp_in (l2 + (2 : Int32)) 366 ∧ (0 ≤ (M.1 (110, 0) (l2 + (2 : Int32)).toNatClampNeg) → eg_W κ gM mtX11_pansGo d (eQV κ gM post) 100 [(0, vR (60, 0)), (1, vI l1), (2, vI l2)] [] M) ∧ ((¬ 0 ≤ (M.1 (110, 0) (l2 + (2 : Int32)).toNatClampNeg)) → (vp_in (0 : Int32) 366 ∧ ((M.1 (60, 0) 18) ≤ (M.1 (110, 0) (0 : Int32).toNatClampNeg) → eg_W κ gM mtX11_pansGo d (eQV κ gM post) 100 [(0, vR (60, 0)), (1, vI l1), (2, vI l2)] [] M) ∧ ((¬ (M.1 (60, 0) 18) ≤ (M.1 (110, 0) (0 : Int32).toNatClampNeg)) → eCI κ gM mtX11_has d [vR (60, 0), vI l1, vI (3 : Int32)] M (fun x7 M8 => (∀ M10 : eg_H, M10 = (sI M8 (110, 0) (l2 + (2 : Int32)).toNatClampNeg ((M.1 (110, 0) (0 : Int32).toNatClampNeg) + x7)) → eg_W κ gM mtX11_pansGo d (eQV κ gM post) 100 [(0, vR (60, 0)), (1, vI l1), (2, vI l2)] [] M10))))))))) : eg_W κ gM mtX11_pansGo d (eQV κ gM post) 44 [(0, vR (60, 0)), (1, vI l1), (2, vI l2)] [vI s0] M := by
  refine eg_istore_n dX11_pansGo_44 rfl (by decide) (ls1 := [(3, vI s0), (0, vR (60, 0)), (1, vI l1), (2, vI l2)]) rfl ?_
  refine eg_aload_n 1 dX11_pansGo_45 rfl rfl ?_
  refine eg_getR dX11_pansGo_46 fl_11_69 rfl rfl (obM_60 z1) ?_
  show eg_W κ gM mtX11_pansGo d (eQV κ gM post) 49 [(3, vI s0), (0, vR (60, 0)), (1, vI l1), (2, vI l2)] [vR (110, 0)] M
  refine eg_iload_n 3 dX11_pansGo_49 rfl rfl ?_
  obtain ⟨g1, h⟩ := h
  refine eg_iaload dX11_pansGo_50 (arM_110 z1 g1) ?_
  refine eg_iload_n 0 dX11_pansGo_51 rfl rfl ?_
  refine eg_icmp_gt (tgt := 100) dX11_pansGo_52 rfl (fun c2 => ?_) (fun c2 => ?_)
  · have h := h.1 c2
    refine eg_sub [1, 2, 3] rfl ?_
    exact h
  · have h := h.2 c2
    refine eg_aload_n 1 dX11_pansGo_55 rfl rfl ?_
    refine eg_getR dX11_pansGo_56 fl_11_69 rfl rfl (obM_60 z1) ?_
    show eg_W κ gM mtX11_pansGo d (eQV κ gM post) 59 [(3, vI s0), (0, vR (60, 0)), (1, vI l1), (2, vI l2)] [vR (110, 0)] M
    refine eg_iload_n 3 dX11_pansGo_59 rfl rfl ?_
    refine eg_iconst dX11_pansGo_60 ic_2 ?_
    refine eg_iadd dX11_pansGo_61 ?_
    obtain ⟨g3, h⟩ := h
    refine eg_iaload dX11_pansGo_62 (arM_110 z1 g3) ?_
    refine eg_if_ge (tgt := 100) dX11_pansGo_63 rfl (fun c4 => ?_) (fun c4 => ?_)
    · have h := h.1 c4
      refine eg_sub [1, 2, 3] rfl ?_
      exact h
    · have h := h.2 c4
      refine eg_aload_n 1 dX11_pansGo_66 rfl rfl ?_
      refine eg_getR dX11_pansGo_67 fl_11_69 rfl rfl (obM_60 z1) ?_
      show eg_W κ gM mtX11_pansGo d (eQV κ gM post) 70 [(3, vI s0), (0, vR (60, 0)), (1, vI l1), (2, vI l2)] [vR (110, 0)] M
      refine eg_iconst dX11_pansGo_70 ic_0 ?_
      obtain ⟨g5, h⟩ := h
      refine eg_iaload dX11_pansGo_71 (arM_110 z1 g5) ?_
      refine eg_aload_n 1 dX11_pansGo_72 rfl rfl ?_
      refine eg_getI dX11_pansGo_73 fl_11_227 rfl trivial (obM_60 z1) ?_
      refine eg_icmp_ge (tgt := 100) dX11_pansGo_76 rfl (fun c6 => ?_) (fun c6 => ?_)
      · have h := h.1 c6
        refine eg_sub [1, 2, 3] rfl ?_
        exact h
      · have h := h.2 c6
        refine eg_aload_n 1 dX11_pansGo_79 rfl rfl ?_
        refine eg_getR dX11_pansGo_80 fl_11_69 rfl rfl (obM_60 z1) ?_
        show eg_W κ gM mtX11_pansGo d (eQV κ gM post) 83 [(3, vI s0), (0, vR (60, 0)), (1, vI l1), (2, vI l2)] [vR (110, 0)] M
        refine eg_iload_n 3 dX11_pansGo_83 rfl rfl ?_
        refine eg_iconst dX11_pansGo_84 ic_2 ?_
        refine eg_iadd dX11_pansGo_85 ?_
        refine eg_aload_n 1 dX11_pansGo_86 rfl rfl ?_
        refine eg_getR dX11_pansGo_87 fl_11_69 rfl rfl (obM_60 z1) ?_
        show eg_W κ gM mtX11_pansGo d (eQV κ gM post) 90 [(3, vI s0), (0, vR (60, 0)), (1, vI l1), (2, vI l2)] [vR (110, 0), vI (l2 + (2 : Int32)), vR (110, 0)] M
        refine eg_iconst dX11_pansGo_90 ic_0 ?_
        refine eg_iaload dX11_pansGo_91 (arM_110 z1 g5) ?_
        refine eg_aload_n 1 dX11_pansGo_92 rfl rfl ?_
        refine eg_iload_n 2 dX11_pansGo_93 rfl rfl ?_
        refine eg_iconst dX11_pansGo_94 ic_3 ?_
        obtain ⟨q9, hq9, h⟩ := h
        refine eg_callVI (av := [vI l1, vI (3 : Int32)]) (st := [vI (M.1 (110, 0) (0 : Int32).toNatClampNeg), vI (l2 + (2 : Int32)), vR (110, 0)]) dX11_pansGo_95 ml_11_366 rfl rfl (obM_60 z1) (by decide) rfl (Nat.le_of_ble_eq_true rfl) (eg_dd hd) hq9 (fun x7 M8 hp => ?_)
        have h := h x7 M8 hp
        refine eg_iadd dX11_pansGo_98 ?_
        refine en_iastore dX11_pansGo_99 (arM_110 z1 g3) (fun M10 eM10 => ?_)
        have h := h M10 eM10
        refine eg_sub [1, 2, 3] rfl ?_
        exact h
set_option maxRecDepth 10000 in
theorem vX11_pansGo_100 {κ : eg_K} {d : Nat} {post : eg_H → Prop} (M : eg_H) (l1 : Int32) (l2 : Int32) (h : (vp_in (l2 + (1 : Int32)) 366 ∧ (∀ M2 : eg_H, M2 = (sI M (110, 0) (l2 + (1 : Int32)).toNatClampNeg ((M.1 (110, 0) (l2 + (1 : Int32)).toNatClampNeg) + (1 : Int32))) → (vp_in (l2 + (5 : Int32)) 366 ∧ (vp_in l2 366 ∧ (∀ x5 : Int32, x5 = ((if (¬ (M2.1 (110, 0) l2.toNatClampNeg) = 0) then (0 : Int32) else (1 : Int32))) → (∀ M6 : eg_H, M6 = (sI M2 (110, 0) (l2 + (5 : Int32)).toNatClampNeg ((M2.1 (110, 0) (l2 + (5 : Int32)).toNatClampNeg) + x5)) → (∀ x7 : Int32, x7 = (l1 + (1 : Int32)) → eg_W κ gM mtX11_pansGo d (eQV κ gM post) 2 [(0, vR (60, 0)), (1, vI x7)] [] M6)))))))) : eg_W κ gM mtX11_pansGo d (eQV κ gM post) 100 [(0, vR (60, 0)), (1, vI l1), (2, vI l2)] [] M := by
  refine eg_aload_n 0 dX11_pansGo_100 rfl rfl ?_
  refine eg_getR dX11_pansGo_101 fl_11_69 rfl rfl (obM_60 z1) ?_
  show eg_W κ gM mtX11_pansGo d (eQV κ gM post) 104 [(0, vR (60, 0)), (1, vI l1), (2, vI l2)] [vR (110, 0)] M
  refine eg_iload_n 2 dX11_pansGo_104 rfl rfl ?_
  refine eg_iconst dX11_pansGo_105 ic_1 ?_
  refine eg_iadd dX11_pansGo_106 ?_
  refine eg_dup2 dX11_pansGo_107 rfl rfl ?_
  obtain ⟨g1, h⟩ := h
  refine eg_iaload dX11_pansGo_108 (arM_110 z1 g1) ?_
  refine eg_iconst dX11_pansGo_109 ic_1 ?_
  refine eg_iadd dX11_pansGo_110 ?_
  refine en_iastore dX11_pansGo_111 (arM_110 z1 g1) (fun M2 eM2 => ?_)
  have h := h M2 eM2
  refine eg_aload_n 0 dX11_pansGo_112 rfl rfl ?_
  refine eg_getR dX11_pansGo_113 fl_11_69 rfl rfl (obM_60 z1) ?_
  show eg_W κ gM mtX11_pansGo d (eQV κ gM post) 116 [(0, vR (60, 0)), (1, vI l1), (2, vI l2)] [vR (110, 0)] M2
  refine eg_iload_n 2 dX11_pansGo_116 rfl rfl ?_
  refine eg_iconst dX11_pansGo_117 ic_5 ?_
  refine eg_iadd dX11_pansGo_118 ?_
  refine eg_dup2 dX11_pansGo_119 rfl rfl ?_
  obtain ⟨g3, h⟩ := h
  refine eg_iaload dX11_pansGo_120 (arM_110 z1 g3) ?_
  refine eg_aload_n 0 dX11_pansGo_121 rfl rfl ?_
  refine eg_getR dX11_pansGo_122 fl_11_69 rfl rfl (obM_60 z1) ?_
  show eg_W κ gM mtX11_pansGo d (eQV κ gM post) 125 [(0, vR (60, 0)), (1, vI l1), (2, vI l2)] [vR (110, 0), vI (M2.1 (110, 0) (l2 + (5 : Int32)).toNatClampNeg), vI (l2 + (5 : Int32)), vR (110, 0)] M2
  refine eg_iload_n 2 dX11_pansGo_125 rfl rfl ?_
  obtain ⟨g4, h⟩ := h
  refine eg_iaload dX11_pansGo_126 (arM_110 z1 g4) ?_
  have J : ∀ x5 : Int32, x5 = (if (¬ (M2.1 (110, 0) l2.toNatClampNeg) = 0) then (0 : Int32) else (1 : Int32)) → eg_W κ gM mtX11_pansGo d (eQV κ gM post) 135 [(0, vR (60, 0)), (1, vI l1), (2, vI l2)] [vI x5, vI (M2.1 (110, 0) (l2 + (5 : Int32)).toNatClampNeg), vI (l2 + (5 : Int32)), vR (110, 0)] M2 := by
    intro x5 ex5
    have h := h x5 ex5
    refine eg_iadd dX11_pansGo_135 ?_
    refine en_iastore dX11_pansGo_136 (arM_110 z1 g3) (fun M6 eM6 => ?_)
    have h := h M6 eM6
    refine en_iinc (f := fun x7 => [(1, vI x7), (0, vR (60, 0)), (2, vI l2)]) 1 dX11_pansGo_137 rfl rfl (by decide) rfl (fun x7 ex7 => ?_)
    have h := h x7 ex7
    refine eg_goto (tgt := 2) dX11_pansGo_140 rfl ?_
    refine eg_sub [1, 0] rfl ?_
    exact h
  clear h
  refine eg_if_ne (tgt := 134) dX11_pansGo_127 rfl (fun c8 => ?_) (fun c8 => ?_)
  · refine eg_iconst dX11_pansGo_134 ic_0 ?_
    exact J _ (by rw [if_pos c8])
  · have c9 : ¬ (¬ (M2.1 (110, 0) l2.toNatClampNeg) = 0) := fun z => z c8
    refine eg_iconst dX11_pansGo_130 ic_1 ?_
    refine eg_goto (tgt := 135) dX11_pansGo_131 rfl ?_
    exact J _ (by rw [if_neg c9])
theorem dX11_second_0 : decode cX11_second 0 = .ok (.aload_n 0, 1) := by decide +kernel
theorem dX11_second_1 : decode cX11_second 1 = .ok (.getfield 69, 3) := by decide +kernel
theorem dX11_second_4 : decode cX11_second 4 = .ok (.iconst 0, 1) := by decide +kernel
theorem dX11_second_5 : decode cX11_second 5 = .ok (.iaload, 1) := by decide +kernel
theorem dX11_second_6 : decode cX11_second 6 = .ok (.istore_n 1, 1) := by decide +kernel
theorem dX11_second_7 : decode cX11_second 7 = .ok (.iconst 0, 1) := by decide +kernel
theorem dX11_second_8 : decode cX11_second 8 = .ok (.istore_n 2, 1) := by decide +kernel
theorem dX11_second_9 : decode cX11_second 9 = .ok (.iload_n 2, 1) := by decide +kernel
theorem dX11_second_10 : decode cX11_second 10 = .ok (.aload_n 0, 1) := by decide +kernel
theorem dX11_second_11 : decode cX11_second 11 = .ok (.getfield 209, 3) := by decide +kernel
theorem dX11_second_14 : decode cX11_second 14 = .ok (.if_icmp .ge 85, 3) := by decide +kernel
theorem dX11_second_17 : decode cX11_second 17 = .ok (.iload_n 2, 1) := by decide +kernel
theorem dX11_second_18 : decode cX11_second 18 = .ok (.invokestatic 377, 3) := by decide +kernel
theorem dX11_second_21 : decode cX11_second 21 = .ok (.istore_n 3, 1) := by decide +kernel
theorem dX11_second_22 : decode cX11_second 22 = .ok (.aload_n 0, 1) := by decide +kernel
theorem dX11_second_23 : decode cX11_second 23 = .ok (.getfield 69, 3) := by decide +kernel
theorem dX11_second_26 : decode cX11_second 26 = .ok (.iload_n 3, 1) := by decide +kernel
theorem dX11_second_27 : decode cX11_second 27 = .ok (.iconst 2, 1) := by decide +kernel
theorem dX11_second_28 : decode cX11_second 28 = .ok (.iadd, 1) := by decide +kernel
theorem dX11_second_29 : decode cX11_second 29 = .ok (.iaload, 1) := by decide +kernel
theorem dX11_second_30 : decode cX11_second 30 = .ok (.ifCond .lt 63, 3) := by decide +kernel
theorem dX11_second_33 : decode cX11_second 33 = .ok (.aload_n 0, 1) := by decide +kernel
theorem dX11_second_34 : decode cX11_second 34 = .ok (.getfield 69, 3) := by decide +kernel
theorem dX11_second_37 : decode cX11_second 37 = .ok (.iload_n 3, 1) := by decide +kernel
theorem dX11_second_38 : decode cX11_second 38 = .ok (.iconst 2, 1) := by decide +kernel
theorem dX11_second_39 : decode cX11_second 39 = .ok (.iadd, 1) := by decide +kernel
theorem dX11_second_40 : decode cX11_second 40 = .ok (.iaload, 1) := by decide +kernel
theorem dX11_second_41 : decode cX11_second 41 = .ok (.iload_n 1, 1) := by decide +kernel
theorem dX11_second_42 : decode cX11_second 42 = .ok (.if_icmp .le 6, 3) := by decide +kernel
theorem dX11_second_45 : decode cX11_second 45 = .ok (.goto 48, 3) := by decide +kernel
theorem dX11_second_48 : decode cX11_second 48 = .ok (.aload_n 0, 1) := by decide +kernel
theorem dX11_second_49 : decode cX11_second 49 = .ok (.getfield 69, 3) := by decide +kernel
theorem dX11_second_52 : decode cX11_second 52 = .ok (.iload_n 3, 1) := by decide +kernel
theorem dX11_second_53 : decode cX11_second 53 = .ok (.dup2, 1) := by decide +kernel
theorem dX11_second_54 : decode cX11_second 54 = .ok (.iaload, 1) := by decide +kernel
theorem dX11_second_55 : decode cX11_second 55 = .ok (.aload_n 0, 1) := by decide +kernel
theorem dX11_second_56 : decode cX11_second 56 = .ok (.iload_n 2, 1) := by decide +kernel
theorem dX11_second_57 : decode cX11_second 57 = .ok (.invokevirtual 380, 3) := by decide +kernel
theorem dX11_second_60 : decode cX11_second 60 = .ok (.iadd, 1) := by decide +kernel
theorem dX11_second_61 : decode cX11_second 61 = .ok (.iastore, 1) := by decide +kernel
theorem dX11_second_62 : decode cX11_second 62 = .ok (.aload_n 0, 1) := by decide +kernel
theorem dX11_second_63 : decode cX11_second 63 = .ok (.getfield 69, 3) := by decide +kernel
theorem dX11_second_66 : decode cX11_second 66 = .ok (.iload_n 3, 1) := by decide +kernel
theorem dX11_second_67 : decode cX11_second 67 = .ok (.iconst 1, 1) := by decide +kernel
theorem dX11_second_68 : decode cX11_second 68 = .ok (.iadd, 1) := by decide +kernel
theorem dX11_second_69 : decode cX11_second 69 = .ok (.iconst 0, 1) := by decide +kernel
theorem dX11_second_70 : decode cX11_second 70 = .ok (.iastore, 1) := by decide +kernel
theorem dX11_second_71 : decode cX11_second 71 = .ok (.aload_n 0, 1) := by decide +kernel
theorem dX11_second_72 : decode cX11_second 72 = .ok (.getfield 69, 3) := by decide +kernel
theorem dX11_second_75 : decode cX11_second 75 = .ok (.iload_n 3, 1) := by decide +kernel
theorem dX11_second_76 : decode cX11_second 76 = .ok (.iconst 2, 1) := by decide +kernel
theorem dX11_second_77 : decode cX11_second 77 = .ok (.iadd, 1) := by decide +kernel
theorem dX11_second_78 : decode cX11_second 78 = .ok (.iconst (-1), 1) := by decide +kernel
theorem dX11_second_79 : decode cX11_second 79 = .ok (.iastore, 1) := by decide +kernel
theorem dX11_second_80 : decode cX11_second 80 = .ok (.aload_n 0, 1) := by decide +kernel
theorem dX11_second_81 : decode cX11_second 81 = .ok (.getfield 69, 3) := by decide +kernel
theorem dX11_second_84 : decode cX11_second 84 = .ok (.iload_n 3, 1) := by decide +kernel
theorem dX11_second_85 : decode cX11_second 85 = .ok (.bipush 6, 2) := by decide +kernel
theorem dX11_second_87 : decode cX11_second 87 = .ok (.iadd, 1) := by decide +kernel
theorem dX11_second_88 : decode cX11_second 88 = .ok (.dup2, 1) := by decide +kernel
theorem dX11_second_89 : decode cX11_second 89 = .ok (.iaload, 1) := by decide +kernel
theorem dX11_second_90 : decode cX11_second 90 = .ok (.iconst 1, 1) := by decide +kernel
theorem dX11_second_91 : decode cX11_second 91 = .ok (.iadd, 1) := by decide +kernel
theorem dX11_second_92 : decode cX11_second 92 = .ok (.iastore, 1) := by decide +kernel
theorem dX11_second_93 : decode cX11_second 93 = .ok (.iinc 2 1, 3) := by decide +kernel
theorem dX11_second_96 : decode cX11_second 96 = .ok (.goto (-87), 3) := by decide +kernel
theorem dX11_second_99 : decode cX11_second 99 = .ok (.iconst 0, 1) := by decide +kernel
theorem dX11_second_100 : decode cX11_second 100 = .ok (.istore_n 2, 1) := by decide +kernel
theorem dX11_second_101 : decode cX11_second 101 = .ok (.iload_n 2, 1) := by decide +kernel
theorem dX11_second_102 : decode cX11_second 102 = .ok (.aload_n 0, 1) := by decide +kernel
theorem dX11_second_103 : decode cX11_second 103 = .ok (.invokevirtual 369, 3) := by decide +kernel
theorem dX11_second_106 : decode cX11_second 106 = .ok (.if_icmp .ge 49, 3) := by decide +kernel
theorem dX11_second_109 : decode cX11_second 109 = .ok (.aload_n 0, 1) := by decide +kernel
theorem dX11_second_110 : decode cX11_second 110 = .ok (.getfield 69, 3) := by decide +kernel
theorem dX11_second_113 : decode cX11_second 113 = .ok (.iload_n 2, 1) := by decide +kernel
theorem dX11_second_114 : decode cX11_second 114 = .ok (.invokestatic 372, 3) := by decide +kernel
theorem dX11_second_117 : decode cX11_second 117 = .ok (.iaload, 1) := by decide +kernel
theorem dX11_second_118 : decode cX11_second 118 = .ok (.istore_n 3, 1) := by decide +kernel
theorem dX11_second_119 : decode cX11_second 119 = .ok (.iload_n 3, 1) := by decide +kernel
theorem dX11_second_120 : decode cX11_second 120 = .ok (.ifCond .eq 8, 3) := by decide +kernel
theorem dX11_second_123 : decode cX11_second 123 = .ok (.iload_n 3, 1) := by decide +kernel
theorem dX11_second_124 : decode cX11_second 124 = .ok (.iconst 2, 1) := by decide +kernel
theorem dX11_second_125 : decode cX11_second 125 = .ok (.if_icmp .ne 24, 3) := by decide +kernel
theorem dX11_second_128 : decode cX11_second 128 = .ok (.aload_n 0, 1) := by decide +kernel
theorem dX11_second_129 : decode cX11_second 129 = .ok (.getfield 69, 3) := by decide +kernel
theorem dX11_second_132 : decode cX11_second 132 = .ok (.iload_n 2, 1) := by decide +kernel
theorem dX11_second_133 : decode cX11_second 133 = .ok (.invokestatic 372, 3) := by decide +kernel
theorem dX11_second_136 : decode cX11_second 136 = .ok (.bipush 11, 2) := by decide +kernel
theorem dX11_second_138 : decode cX11_second 138 = .ok (.iadd, 1) := by decide +kernel
theorem dX11_second_139 : decode cX11_second 139 = .ok (.iaload, 1) := by decide +kernel
theorem dX11_second_140 : decode cX11_second 140 = .ok (.iload_n 1, 1) := by decide +kernel
theorem dX11_second_141 : decode cX11_second 141 = .ok (.if_icmp .ne 8, 3) := by decide +kernel
theorem dX11_second_144 : decode cX11_second 144 = .ok (.aload_n 0, 1) := by decide +kernel
theorem dX11_second_145 : decode cX11_second 145 = .ok (.iload_n 2, 1) := by decide +kernel
theorem dX11_second_146 : decode cX11_second 146 = .ok (.invokevirtual 459, 3) := by decide +kernel
theorem dX11_second_149 : decode cX11_second 149 = .ok (.iinc 2 1, 3) := by decide +kernel
theorem dX11_second_152 : decode cX11_second 152 = .ok (.goto (-51), 3) := by decide +kernel
theorem dX11_second_155 : decode cX11_second 155 = .ok (.iconst 0, 1) := by decide +kernel
theorem dX11_second_156 : decode cX11_second 156 = .ok (.istore_n 2, 1) := by decide +kernel
theorem dX11_second_157 : decode cX11_second 157 = .ok (.iload_n 2, 1) := by decide +kernel
theorem dX11_second_158 : decode cX11_second 158 = .ok (.aload_n 0, 1) := by decide +kernel
theorem dX11_second_159 : decode cX11_second 159 = .ok (.getfield 69, 3) := by decide +kernel
theorem dX11_second_162 : decode cX11_second 162 = .ok (.iconst 1, 1) := by decide +kernel
theorem dX11_second_163 : decode cX11_second 163 = .ok (.iaload, 1) := by decide +kernel
theorem dX11_second_164 : decode cX11_second 164 = .ok (.if_icmp .ge 53, 3) := by decide +kernel
theorem dX11_second_167 : decode cX11_second 167 = .ok (.aload_n 0, 1) := by decide +kernel
theorem dX11_second_168 : decode cX11_second 168 = .ok (.getfield 69, 3) := by decide +kernel
theorem dX11_second_171 : decode cX11_second 171 = .ok (.aload_n 0, 1) := by decide +kernel
theorem dX11_second_172 : decode cX11_second 172 = .ok (.getfield 69, 3) := by decide +kernel
theorem dX11_second_175 : decode cX11_second 175 = .ok (.iconst 2, 1) := by decide +kernel
theorem dX11_second_176 : decode cX11_second 176 = .ok (.iload_n 2, 1) := by decide +kernel
theorem dX11_second_177 : decode cX11_second 177 = .ok (.iadd, 1) := by decide +kernel
theorem dX11_second_178 : decode cX11_second 178 = .ok (.iaload, 1) := by decide +kernel
theorem dX11_second_179 : decode cX11_second 179 = .ok (.invokestatic 372, 3) := by decide +kernel
theorem dX11_second_182 : decode cX11_second 182 = .ok (.iconst 3, 1) := by decide +kernel
theorem dX11_second_183 : decode cX11_second 183 = .ok (.iadd, 1) := by decide +kernel
theorem dX11_second_184 : decode cX11_second 184 = .ok (.iaload, 1) := by decide +kernel
theorem dX11_second_185 : decode cX11_second 185 = .ok (.ifCond .ne 15, 3) := by decide +kernel
theorem dX11_second_188 : decode cX11_second 188 = .ok (.aload_n 0, 1) := by decide +kernel
theorem dX11_second_189 : decode cX11_second 189 = .ok (.iload_n 2, 1) := by decide +kernel
theorem dX11_second_190 : decode cX11_second 190 = .ok (.invokevirtual 462, 3) := by decide +kernel
theorem dX11_second_193 : decode cX11_second 193 = .ok (.ifCond .eq 7, 3) := by decide +kernel
theorem dX11_second_196 : decode cX11_second 196 = .ok (.iconst 1, 1) := by decide +kernel
theorem dX11_second_197 : decode cX11_second 197 = .ok (.goto 4, 3) := by decide +kernel
theorem dX11_second_200 : decode cX11_second 200 = .ok (.iconst 0, 1) := by decide +kernel
theorem dX11_second_201 : decode cX11_second 201 = .ok (.istore_n 3, 1) := by decide +kernel
theorem dX11_second_202 : decode cX11_second 202 = .ok (.iload_n 2, 1) := by decide +kernel
theorem dX11_second_203 : decode cX11_second 203 = .ok (.iload_n 3, 1) := by decide +kernel
theorem dX11_second_204 : decode cX11_second 204 = .ok (.ifCond .eq 7, 3) := by decide +kernel
theorem dX11_second_207 : decode cX11_second 207 = .ok (.iconst 0, 1) := by decide +kernel
theorem dX11_second_208 : decode cX11_second 208 = .ok (.goto 4, 3) := by decide +kernel
theorem dX11_second_211 : decode cX11_second 211 = .ok (.iconst 1, 1) := by decide +kernel
theorem dX11_second_212 : decode cX11_second 212 = .ok (.iadd, 1) := by decide +kernel
theorem dX11_second_213 : decode cX11_second 213 = .ok (.istore_n 2, 1) := by decide +kernel
theorem dX11_second_214 : decode cX11_second 214 = .ok (.goto (-57), 3) := by decide +kernel
theorem dX11_second_217 : decode cX11_second 217 = .ok (.iconst 0, 1) := by decide +kernel
theorem dX11_second_218 : decode cX11_second 218 = .ok (.istore_n 3, 1) := by decide +kernel
theorem dX11_second_219 : decode cX11_second 219 = .ok (.iload_n 3, 1) := by decide +kernel
theorem dX11_second_220 : decode cX11_second 220 = .ok (.aload_n 0, 1) := by decide +kernel
theorem dX11_second_221 : decode cX11_second 221 = .ok (.getfield 69, 3) := by decide +kernel
theorem dX11_second_224 : decode cX11_second 224 = .ok (.iconst 1, 1) := by decide +kernel
theorem dX11_second_225 : decode cX11_second 225 = .ok (.iaload, 1) := by decide +kernel
theorem dX11_second_226 : decode cX11_second 226 = .ok (.if_icmp .ge 51, 3) := by decide +kernel
theorem dX11_second_229 : decode cX11_second 229 = .ok (.aload_n 0, 1) := by decide +kernel
theorem dX11_second_230 : decode cX11_second 230 = .ok (.getfield 69, 3) := by decide +kernel
theorem dX11_second_233 : decode cX11_second 233 = .ok (.iconst 2, 1) := by decide +kernel
theorem dX11_second_234 : decode cX11_second 234 = .ok (.iload_n 3, 1) := by decide +kernel
theorem dX11_second_235 : decode cX11_second 235 = .ok (.iadd, 1) := by decide +kernel
theorem dX11_second_236 : decode cX11_second 236 = .ok (.iaload, 1) := by decide +kernel
theorem dX11_second_237 : decode cX11_second 237 = .ok (.invokestatic 372, 3) := by decide +kernel
theorem dX11_second_240 : decode cX11_second 240 = .ok (.istore 4, 2) := by decide +kernel
theorem dX11_second_242 : decode cX11_second 242 = .ok (.aload_n 0, 1) := by decide +kernel
theorem dX11_second_243 : decode cX11_second 243 = .ok (.getfield 69, 3) := by decide +kernel
theorem dX11_second_246 : decode cX11_second 246 = .ok (.iload 4, 2) := by decide +kernel
theorem dX11_second_248 : decode cX11_second 248 = .ok (.iconst 3, 1) := by decide +kernel
theorem dX11_second_249 : decode cX11_second 249 = .ok (.iadd, 1) := by decide +kernel
theorem dX11_second_250 : decode cX11_second 250 = .ok (.dup2, 1) := by decide +kernel
theorem dX11_second_251 : decode cX11_second 251 = .ok (.iaload, 1) := by decide +kernel
theorem dX11_second_252 : decode cX11_second 252 = .ok (.aload_n 0, 1) := by decide +kernel
theorem dX11_second_253 : decode cX11_second 253 = .ok (.getfield 69, 3) := by decide +kernel
theorem dX11_second_256 : decode cX11_second 256 = .ok (.iload 4, 2) := by decide +kernel
theorem dX11_second_258 : decode cX11_second 258 = .ok (.iconst 3, 1) := by decide +kernel
theorem dX11_second_259 : decode cX11_second 259 = .ok (.iadd, 1) := by decide +kernel
theorem dX11_second_260 : decode cX11_second 260 = .ok (.iaload, 1) := by decide +kernel
theorem dX11_second_261 : decode cX11_second 261 = .ok (.ifCond .le 7, 3) := by decide +kernel
theorem dX11_second_264 : decode cX11_second 264 = .ok (.iconst 1, 1) := by decide +kernel
theorem dX11_second_265 : decode cX11_second 265 = .ok (.goto 4, 3) := by decide +kernel
theorem dX11_second_268 : decode cX11_second 268 = .ok (.iconst 0, 1) := by decide +kernel
theorem dX11_second_269 : decode cX11_second 269 = .ok (.isub, 1) := by decide +kernel
theorem dX11_second_270 : decode cX11_second 270 = .ok (.iastore, 1) := by decide +kernel
theorem dX11_second_271 : decode cX11_second 271 = .ok (.iinc 3 1, 3) := by decide +kernel
theorem dX11_second_274 : decode cX11_second 274 = .ok (.goto (-55), 3) := by decide +kernel
theorem dX11_second_277 : decode cX11_second 277 = .ok (.aload_n 0, 1) := by decide +kernel
theorem dX11_second_278 : decode cX11_second 278 = .ok (.invokevirtual 465, 3) := by decide +kernel
theorem dX11_second_281 : decode cX11_second 281 = .ok (.aload_n 0, 1) := by decide +kernel
theorem dX11_second_282 : decode cX11_second 282 = .ok (.getfield 69, 3) := by decide +kernel
theorem dX11_second_285 : decode cX11_second 285 = .ok (.iconst 0, 1) := by decide +kernel
theorem dX11_second_286 : decode cX11_second 286 = .ok (.dup2, 1) := by decide +kernel
theorem dX11_second_287 : decode cX11_second 287 = .ok (.iaload, 1) := by decide +kernel
theorem dX11_second_288 : decode cX11_second 288 = .ok (.iconst 1, 1) := by decide +kernel
theorem dX11_second_289 : decode cX11_second 289 = .ok (.iadd, 1) := by decide +kernel
theorem dX11_second_290 : decode cX11_second 290 = .ok (.iastore, 1) := by decide +kernel
theorem dX11_second_291 : decode cX11_second 291 = .ok (.return_, 1) := by decide +kernel
set_option maxRecDepth 10000 in
theorem vX11_second_0 {κ : eg_K} {d : Nat} {post : eg_H → Prop} (M : eg_H)  (h : (vp_in (0 : Int32) 366 ∧ (∀ x2 : Int32, x2 = (M.1 (110, 0) (0 : Int32).toNatClampNeg) → eg_W κ gM mtX11_second d (eQV κ gM post) 9 [(0, vR (60, 0)), (1, vI x2), (2, vI (0 : Int32))] [] M))) : eg_W κ gM mtX11_second d (eQV κ gM post) 0 [(0, vR (60, 0))] [] M := by
  refine eg_aload_n 0 dX11_second_0 rfl rfl ?_
  refine eg_getR dX11_second_1 fl_11_69 rfl rfl (obM_60 z1) ?_
  show eg_W κ gM mtX11_second d (eQV κ gM post) 4 [(0, vR (60, 0))] [vR (110, 0)] M
  refine eg_iconst dX11_second_4 ic_0 ?_
  obtain ⟨g1, h⟩ := h
  refine eg_iaload dX11_second_5 (arM_110 z1 g1) ?_
  refine en_istore_n (f := fun x2 => [(1, vI x2), (0, vR (60, 0))]) dX11_second_6 rfl (by decide) rfl (fun x2 ex2 => ?_)
  have h := h x2 ex2
  refine eg_iconst dX11_second_7 ic_0 ?_
  refine eg_istore_n dX11_second_8 rfl (by decide) (ls1 := [(2, vI (0 : Int32)), (1, vI x2), (0, vR (60, 0))]) rfl ?_
  refine eg_sub [2, 1, 0] rfl ?_
  exact h
set_option maxRecDepth 10000 in
theorem vX11_second_9 {κ : eg_K} {d : Nat} (hd : 1 ≤ d) {post : eg_H → Prop} (M : eg_H) (l1 : Int32) (l2 : Int32) (h : ((M.1 (60, 0) 12) ≤ l2 → eg_W κ gM mtX11_second d (eQV κ gM post) 101 [(0, vR (60, 0)), (1, vI l1), (2, vI (0 : Int32))] [] M) ∧ ((¬ (M.1 (60, 0) 12) ≤ l2) → eCI κ gM mtX11_pan d [vI l2] M (fun x2 M3 => (vp_in (x2 + (2 : Int32)) 366 ∧ ((M3.1 (110, 0) (x2 + (2 : Int32)).toNatClampNeg) < 0 → (∀ x7 : Int32, x7 = (l2 + (1 : Int32)) → eg_W κ gM mtX11_second d (eQV κ gM post) 9 [(0, vR (60, 0)), (1, vI l1), (2, vI x7)] [] M3)) ∧ ((¬ (M3.1 (110, 0) (x2 + (2 : Int32)).toNatClampNeg) < 0) → ((M3.1 (110, 0) (x2 + (2 : Int32)).toNatClampNeg) ≤ l1 → (vp_in x2 366 ∧ eCI κ gM mtX11_portionsOf d [vR (60, 0), vI l2] M3 (fun x10 M11 => (∀ M13 : eg_H, M13 = (sI M11 (110, 0) x2.toNatClampNeg ((M3.1 (110, 0) x2.toNatClampNeg) + x10)) → (vp_in (x2 + (1 : Int32)) 366 ∧ (∀ M15 : eg_H, M15 = (sI M13 (110, 0) (x2 + (1 : Int32)).toNatClampNeg (0 : Int32)) → (∀ M16 : eg_H, M16 = (sI M15 (110, 0) (x2 + (2 : Int32)).toNatClampNeg (-1 : Int32)) → (vp_in (x2 + (6 : Int32)) 366 ∧ (∀ M18 : eg_H, M18 = (sI M16 (110, 0) (x2 + (6 : Int32)).toNatClampNeg ((M16.1 (110, 0) (x2 + (6 : Int32)).toNatClampNeg) + (1 : Int32))) → (∀ x19 : Int32, x19 = (l2 + (1 : Int32)) → eg_W κ gM mtX11_second d (eQV κ gM post) 9 [(0, vR (60, 0)), (1, vI l1), (2, vI x19)] [] M18)))))))))) ∧ ((¬ (M3.1 (110, 0) (x2 + (2 : Int32)).toNatClampNeg) ≤ l1) → (∀ x20 : Int32, x20 = (l2 + (1 : Int32)) → eg_W κ gM mtX11_second d (eQV κ gM post) 9 [(0, vR (60, 0)), (1, vI l1), (2, vI x20)] [] M3))))))) : eg_W κ gM mtX11_second d (eQV κ gM post) 9 [(0, vR (60, 0)), (1, vI l1), (2, vI l2)] [] M := by
  refine eg_iload_n 2 dX11_second_9 rfl rfl ?_
  refine eg_aload_n 0 dX11_second_10 rfl rfl ?_
  refine eg_getI dX11_second_11 fl_11_209 rfl trivial (obM_60 z1) ?_
  refine eg_icmp_ge (tgt := 99) dX11_second_14 rfl (fun c1 => ?_) (fun c1 => ?_)
  · have h := h.1 c1
    refine eg_iconst dX11_second_99 ic_0 ?_
    refine eg_istore_n dX11_second_100 rfl (by decide) (ls1 := [(2, vI (0 : Int32)), (0, vR (60, 0)), (1, vI l1)]) rfl ?_
    refine eg_sub [1, 2, 0] rfl ?_
    exact h
  · have h := h.2 c1
    refine eg_iload_n 2 dX11_second_17 rfl rfl ?_
    obtain ⟨q4, hq4, h⟩ := h
    refine eg_callSI (av := [vI l2]) (st := []) dX11_second_18 ml_11_377 rfl rfl (Nat.le_of_ble_eq_true rfl) (eg_dd hd) hq4 (fun x2 M3 hp => ?_)
    have h := h x2 M3 hp
    refine eg_istore_n dX11_second_21 rfl (by decide) (ls1 := [(3, vI x2), (0, vR (60, 0)), (1, vI l1), (2, vI l2)]) rfl ?_
    refine eg_aload_n 1 dX11_second_22 rfl rfl ?_
    refine eg_getR dX11_second_23 fl_11_69 rfl rfl (obM_60 z1) ?_
    show eg_W κ gM mtX11_second d (eQV κ gM post) 26 [(3, vI x2), (0, vR (60, 0)), (1, vI l1), (2, vI l2)] [vR (110, 0)] M3
    refine eg_iload_n 0 dX11_second_26 rfl rfl ?_
    refine eg_iconst dX11_second_27 ic_2 ?_
    refine eg_iadd dX11_second_28 ?_
    obtain ⟨g5, h⟩ := h
    refine eg_iaload dX11_second_29 (arM_110 z1 g5) ?_
    refine eg_if_lt (tgt := 93) dX11_second_30 rfl (fun c6 => ?_) (fun c6 => ?_)
    · have h := h.1 c6
      refine en_iinc (f := fun x7 => [(2, vI x7), (3, vI x2), (0, vR (60, 0)), (1, vI l1)]) 3 dX11_second_93 rfl rfl (by decide) rfl (fun x7 ex7 => ?_)
      have h := h x7 ex7
      refine eg_goto (tgt := 9) dX11_second_96 rfl ?_
      refine eg_sub [2, 3, 0] rfl ?_
      exact h
    · have h := h.2 c6
      refine eg_aload_n 1 dX11_second_33 rfl rfl ?_
      refine eg_getR dX11_second_34 fl_11_69 rfl rfl (obM_60 z1) ?_
      show eg_W κ gM mtX11_second d (eQV κ gM post) 37 [(3, vI x2), (0, vR (60, 0)), (1, vI l1), (2, vI l2)] [vR (110, 0)] M3
      refine eg_iload_n 0 dX11_second_37 rfl rfl ?_
      refine eg_iconst dX11_second_38 ic_2 ?_
      refine eg_iadd dX11_second_39 ?_
      refine eg_iaload dX11_second_40 (arM_110 z1 g5) ?_
      refine eg_iload_n 2 dX11_second_41 rfl rfl ?_
      refine eg_icmp_le (tgt := 48) dX11_second_42 rfl (fun c8 => ?_) (fun c8 => ?_)
      · have h := h.1 c8
        refine eg_aload_n 1 dX11_second_48 rfl rfl ?_
        refine eg_getR dX11_second_49 fl_11_69 rfl rfl (obM_60 z1) ?_
        show eg_W κ gM mtX11_second d (eQV κ gM post) 52 [(3, vI x2), (0, vR (60, 0)), (1, vI l1), (2, vI l2)] [vR (110, 0)] M3
        refine eg_iload_n 0 dX11_second_52 rfl rfl ?_
        refine eg_dup2 dX11_second_53 rfl rfl ?_
        obtain ⟨g9, h⟩ := h
        refine eg_iaload dX11_second_54 (arM_110 z1 g9) ?_
        refine eg_aload_n 1 dX11_second_55 rfl rfl ?_
        refine eg_iload_n 3 dX11_second_56 rfl rfl ?_
        obtain ⟨q12, hq12, h⟩ := h
        refine eg_callVI (av := [vI l2]) (st := [vI (M3.1 (110, 0) x2.toNatClampNeg), vI x2, vR (110, 0)]) dX11_second_57 ml_11_380 rfl rfl (obM_60 z1) (by decide) rfl (Nat.le_of_ble_eq_true rfl) (eg_dd hd) hq12 (fun x10 M11 hp => ?_)
        have h := h x10 M11 hp
        refine eg_iadd dX11_second_60 ?_
        refine en_iastore dX11_second_61 (arM_110 z1 g9) (fun M13 eM13 => ?_)
        have h := h M13 eM13
        refine eg_aload_n 1 dX11_second_62 rfl rfl ?_
        refine eg_getR dX11_second_63 fl_11_69 rfl rfl (obM_60 z1) ?_
        show eg_W κ gM mtX11_second d (eQV κ gM post) 66 [(3, vI x2), (0, vR (60, 0)), (1, vI l1), (2, vI l2)] [vR (110, 0)] M13
        refine eg_iload_n 0 dX11_second_66 rfl rfl ?_
        refine eg_iconst dX11_second_67 ic_1 ?_
        refine eg_iadd dX11_second_68 ?_
        refine eg_iconst dX11_second_69 ic_0 ?_
        obtain ⟨g14, h⟩ := h
        refine en_iastore dX11_second_70 (arM_110 z1 g14) (fun M15 eM15 => ?_)
        have h := h M15 eM15
        refine eg_aload_n 1 dX11_second_71 rfl rfl ?_
        refine eg_getR dX11_second_72 fl_11_69 rfl rfl (obM_60 z1) ?_
        show eg_W κ gM mtX11_second d (eQV κ gM post) 75 [(3, vI x2), (0, vR (60, 0)), (1, vI l1), (2, vI l2)] [vR (110, 0)] M15
        refine eg_iload_n 0 dX11_second_75 rfl rfl ?_
        refine eg_iconst dX11_second_76 ic_2 ?_
        refine eg_iadd dX11_second_77 ?_
        refine eg_iconst dX11_second_78 ic_m1 ?_
        refine en_iastore dX11_second_79 (arM_110 z1 g5) (fun M16 eM16 => ?_)
        have h := h M16 eM16
        refine eg_aload_n 1 dX11_second_80 rfl rfl ?_
        refine eg_getR dX11_second_81 fl_11_69 rfl rfl (obM_60 z1) ?_
        show eg_W κ gM mtX11_second d (eQV κ gM post) 84 [(3, vI x2), (0, vR (60, 0)), (1, vI l1), (2, vI l2)] [vR (110, 0)] M16
        refine eg_iload_n 0 dX11_second_84 rfl rfl ?_
        refine eg_bipush dX11_second_85 bp_6 ?_
        refine eg_iadd dX11_second_87 ?_
        refine eg_dup2 dX11_second_88 rfl rfl ?_
        obtain ⟨g17, h⟩ := h
        refine eg_iaload dX11_second_89 (arM_110 z1 g17) ?_
        refine eg_iconst dX11_second_90 ic_1 ?_
        refine eg_iadd dX11_second_91 ?_
        refine en_iastore dX11_second_92 (arM_110 z1 g17) (fun M18 eM18 => ?_)
        have h := h M18 eM18
        refine en_iinc (f := fun x19 => [(2, vI x19), (3, vI x2), (0, vR (60, 0)), (1, vI l1)]) 3 dX11_second_93 rfl rfl (by decide) rfl (fun x19 ex19 => ?_)
        have h := h x19 ex19
        refine eg_goto (tgt := 9) dX11_second_96 rfl ?_
        refine eg_sub [2, 3, 0] rfl ?_
        exact h
      · have h := h.2 c8
        refine eg_goto (tgt := 93) dX11_second_45 rfl ?_
        refine en_iinc (f := fun x20 => [(2, vI x20), (3, vI x2), (0, vR (60, 0)), (1, vI l1)]) 3 dX11_second_93 rfl rfl (by decide) rfl (fun x20 ex20 => ?_)
        have h := h x20 ex20
        refine eg_goto (tgt := 9) dX11_second_96 rfl ?_
        refine eg_sub [2, 3, 0] rfl ?_
        exact h
set_option maxRecDepth 10000 in
theorem vX11_second_101 {κ : eg_K} {d : Nat} (hd : 1 ≤ d) {post : eg_H → Prop} (M : eg_H) (l1 : Int32) (l2 : Int32) (h : eCI κ gM mtX11_everybody d [vR (60, 0)] M (fun x1 M2 => (x1 ≤ l2 → eg_W κ gM mtX11_second d (eQV κ gM post) 157 [(0, vR (60, 0)), (2, vI (0 : Int32))] [] M2) ∧ ((¬ x1 ≤ l2) → eCI κ gM mtX11_at d [vI l2] M2 (fun x5 M6 => (vp_in x5 366 ∧ (∀ x9 : Int32, x9 = (M6.1 (110, 0) x5.toNatClampNeg) → (x9 = 0 → eg_W κ gM mtX11_second d (eQV κ gM post) 128 [(0, vR (60, 0)), (1, vI l1), (2, vI l2)] [] M6) ∧ ((¬ x9 = 0) → ((¬ x9 = (2 : Int32)) → (∀ x12 : Int32, x12 = (l2 + (1 : Int32)) → eg_W κ gM mtX11_second d (eQV κ gM post) 101 [(0, vR (60, 0)), (1, vI l1), (2, vI x12)] [] M6)) ∧ (x9 = (2 : Int32) → eg_W κ gM mtX11_second d (eQV κ gM post) 128 [(0, vR (60, 0)), (1, vI l1), (2, vI l2)] [] M6)))))))) : eg_W κ gM mtX11_second d (eQV κ gM post) 101 [(0, vR (60, 0)), (1, vI l1), (2, vI l2)] [] M := by
  refine eg_iload_n 2 dX11_second_101 rfl rfl ?_
  refine eg_aload_n 0 dX11_second_102 rfl rfl ?_
  obtain ⟨q3, hq3, h⟩ := h
  refine eg_callVI (av := []) (st := [vI l2]) dX11_second_103 ml_11_369 rfl rfl (obM_60 z1) (by decide) rfl (Nat.le_of_ble_eq_true rfl) (eg_dd hd) hq3 (fun x1 M2 hp => ?_)
  have h := h x1 M2 hp
  refine eg_icmp_ge (tgt := 155) dX11_second_106 rfl (fun c4 => ?_) (fun c4 => ?_)
  · have h := h.1 c4
    refine eg_iconst dX11_second_155 ic_0 ?_
    refine eg_istore_n dX11_second_156 rfl (by decide) (ls1 := [(2, vI (0 : Int32)), (0, vR (60, 0)), (1, vI l1)]) rfl ?_
    refine eg_sub [1, 0] rfl ?_
    exact h
  · have h := h.2 c4
    refine eg_aload_n 0 dX11_second_109 rfl rfl ?_
    refine eg_getR dX11_second_110 fl_11_69 rfl rfl (obM_60 z1) ?_
    show eg_W κ gM mtX11_second d (eQV κ gM post) 113 [(0, vR (60, 0)), (1, vI l1), (2, vI l2)] [vR (110, 0)] M2
    refine eg_iload_n 2 dX11_second_113 rfl rfl ?_
    obtain ⟨q7, hq7, h⟩ := h
    refine eg_callSI (av := [vI l2]) (st := [vR (110, 0)]) dX11_second_114 ml_11_372 rfl rfl (Nat.le_of_ble_eq_true rfl) (eg_dd hd) hq7 (fun x5 M6 hp => ?_)
    have h := h x5 M6 hp
    obtain ⟨g8, h⟩ := h
    refine eg_iaload dX11_second_117 (arM_110 z1 g8) ?_
    refine en_istore_n (f := fun x9 => [(3, vI x9), (0, vR (60, 0)), (1, vI l1), (2, vI l2)]) dX11_second_118 rfl (by decide) rfl (fun x9 ex9 => ?_)
    have h := h x9 ex9
    refine eg_iload_n 0 dX11_second_119 rfl rfl ?_
    refine eg_if_eq (tgt := 128) dX11_second_120 rfl (fun c10 => ?_) (fun c10 => ?_)
    · have h := h.1 c10
      refine eg_sub [1, 2, 3] rfl ?_
      exact h
    · have h := h.2 c10
      refine eg_iload_n 0 dX11_second_123 rfl rfl ?_
      refine eg_iconst dX11_second_124 ic_2 ?_
      refine eg_icmp_ne (tgt := 149) dX11_second_125 rfl (fun c11 => ?_) (fun c11 => ?_)
      · have h := h.1 c11
        refine en_iinc (f := fun x12 => [(2, vI x12), (3, vI x9), (0, vR (60, 0)), (1, vI l1)]) 3 dX11_second_149 rfl rfl (by decide) rfl (fun x12 ex12 => ?_)
        have h := h x12 ex12
        refine eg_goto (tgt := 101) dX11_second_152 rfl ?_
        refine eg_sub [2, 3, 0] rfl ?_
        exact h
      · have h := h.2 c11
        refine eg_sub [1, 2, 3] rfl ?_
        exact h
set_option maxRecDepth 10000 in
theorem vX11_second_128 {κ : eg_K} {d : Nat} (hd : 1 ≤ d) {post : eg_H → Prop} (M : eg_H) (l1 : Int32) (l2 : Int32) (h : eCI κ gM mtX11_at d [vI l2] M (fun x1 M2 => (vp_in (x1 + (11 : Int32)) 366 ∧ ((¬ (M2.1 (110, 0) (x1 + (11 : Int32)).toNatClampNeg) = l1) → (∀ x6 : Int32, x6 = (l2 + (1 : Int32)) → eg_W κ gM mtX11_second d (eQV κ gM post) 101 [(0, vR (60, 0)), (1, vI l1), (2, vI x6)] [] M2)) ∧ ((M2.1 (110, 0) (x1 + (11 : Int32)).toNatClampNeg) = l1 → eCV κ gM mtX11_comesNow d [vR (60, 0), vI l2] M2 (fun M7 => (∀ x9 : Int32, x9 = (l2 + (1 : Int32)) → eg_W κ gM mtX11_second d (eQV κ gM post) 101 [(0, vR (60, 0)), (1, vI l1), (2, vI x9)] [] M7)))))) : eg_W κ gM mtX11_second d (eQV κ gM post) 128 [(0, vR (60, 0)), (1, vI l1), (2, vI l2)] [] M := by
  refine eg_aload_n 0 dX11_second_128 rfl rfl ?_
  refine eg_getR dX11_second_129 fl_11_69 rfl rfl (obM_60 z1) ?_
  show eg_W κ gM mtX11_second d (eQV κ gM post) 132 [(0, vR (60, 0)), (1, vI l1), (2, vI l2)] [vR (110, 0)] M
  refine eg_iload_n 2 dX11_second_132 rfl rfl ?_
  obtain ⟨q3, hq3, h⟩ := h
  refine eg_callSI (av := [vI l2]) (st := [vR (110, 0)]) dX11_second_133 ml_11_372 rfl rfl (Nat.le_of_ble_eq_true rfl) (eg_dd hd) hq3 (fun x1 M2 hp => ?_)
  have h := h x1 M2 hp
  refine eg_bipush dX11_second_136 bp_11 ?_
  refine eg_iadd dX11_second_138 ?_
  obtain ⟨g4, h⟩ := h
  refine eg_iaload dX11_second_139 (arM_110 z1 g4) ?_
  refine eg_iload_n 1 dX11_second_140 rfl rfl ?_
  refine eg_icmp_ne (tgt := 149) dX11_second_141 rfl (fun c5 => ?_) (fun c5 => ?_)
  · have h := h.1 c5
    refine en_iinc (f := fun x6 => [(2, vI x6), (0, vR (60, 0)), (1, vI l1)]) 2 dX11_second_149 rfl rfl (by decide) rfl (fun x6 ex6 => ?_)
    have h := h x6 ex6
    refine eg_goto (tgt := 101) dX11_second_152 rfl ?_
    refine eg_sub [1, 2, 0] rfl ?_
    exact h
  · have h := h.2 c5
    refine eg_aload_n 0 dX11_second_144 rfl rfl ?_
    refine eg_iload_n 2 dX11_second_145 rfl rfl ?_
    obtain ⟨q8, hq8, h⟩ := h
    refine eg_callVV (av := [vI l2]) (st := []) dX11_second_146 ml_11_459 rfl rfl (obM_60 z1) (by decide) rfl (Nat.le_of_ble_eq_true rfl) (eg_dd hd) hq8 (fun M7 hp => ?_)
    have h := h M7 hp
    refine en_iinc (f := fun x9 => [(2, vI x9), (0, vR (60, 0)), (1, vI l1)]) 2 dX11_second_149 rfl rfl (by decide) rfl (fun x9 ex9 => ?_)
    have h := h x9 ex9
    refine eg_goto (tgt := 101) dX11_second_152 rfl ?_
    refine eg_sub [1, 2, 0] rfl ?_
    exact h
set_option maxRecDepth 10000 in
theorem vX11_second_157 {κ : eg_K} {d : Nat} (hd : 1 ≤ d) {post : eg_H → Prop} (M : eg_H) (l2 : Int32) (h : (vp_in (1 : Int32) 366 ∧ ((M.1 (110, 0) (1 : Int32).toNatClampNeg) ≤ l2 → eg_W κ gM mtX11_second d (eQV κ gM post) 219 [(0, vR (60, 0)), (3, vI (0 : Int32))] [] M) ∧ ((¬ (M.1 (110, 0) (1 : Int32).toNatClampNeg) ≤ l2) → (vp_in ((2 : Int32) + l2) 366 ∧ eCI κ gM mtX11_at d [vI (M.1 (110, 0) ((2 : Int32) + l2).toNatClampNeg)] M (fun x4 M5 => (vp_in (x4 + (3 : Int32)) 366 ∧ ((¬ (M5.1 (110, 0) (x4 + (3 : Int32)).toNatClampNeg) = 0) → (∀ x9 : Int32, x9 = ((if (0 : Int32) = 0 then (1 : Int32) else (0 : Int32))) → (∀ x10 : Int32, x10 = (l2 + x9) → eg_W κ gM mtX11_second d (eQV κ gM post) 157 [(0, vR (60, 0)), (2, vI x10)] [] M5))) ∧ ((M5.1 (110, 0) (x4 + (3 : Int32)).toNatClampNeg) = 0 → eCI κ gM mtX11_goes d [vR (60, 0), vI l2] M5 (fun x12 M13 => (∀ x15 : Int32, x15 = ((if x12 = 0 then (0 : Int32) else (1 : Int32))) → (∀ x16 : Int32, x16 = ((if x15 = 0 then (1 : Int32) else (0 : Int32))) → (∀ x17 : Int32, x17 = (l2 + x16) → eg_W κ gM mtX11_second d (eQV κ gM post) 157 [(0, vR (60, 0)), (2, vI x17)] [] M13))))))))))) : eg_W κ gM mtX11_second d (eQV κ gM post) 157 [(0, vR (60, 0)), (2, vI l2)] [] M := by
  refine eg_iload_n 1 dX11_second_157 rfl rfl ?_
  refine eg_aload_n 0 dX11_second_158 rfl rfl ?_
  refine eg_getR dX11_second_159 fl_11_69 rfl rfl (obM_60 z1) ?_
  show eg_W κ gM mtX11_second d (eQV κ gM post) 162 [(0, vR (60, 0)), (2, vI l2)] [vR (110, 0), vI l2] M
  refine eg_iconst dX11_second_162 ic_1 ?_
  obtain ⟨g1, h⟩ := h
  refine eg_iaload dX11_second_163 (arM_110 z1 g1) ?_
  refine eg_icmp_ge (tgt := 217) dX11_second_164 rfl (fun c2 => ?_) (fun c2 => ?_)
  · have h := h.1 c2
    refine eg_iconst dX11_second_217 ic_0 ?_
    refine eg_istore_n dX11_second_218 rfl (by decide) (ls1 := [(3, vI (0 : Int32)), (0, vR (60, 0)), (2, vI l2)]) rfl ?_
    refine eg_sub [1, 0] rfl ?_
    exact h
  · have h := h.2 c2
    refine eg_aload_n 0 dX11_second_167 rfl rfl ?_
    refine eg_getR dX11_second_168 fl_11_69 rfl rfl (obM_60 z1) ?_
    show eg_W κ gM mtX11_second d (eQV κ gM post) 171 [(0, vR (60, 0)), (2, vI l2)] [vR (110, 0)] M
    refine eg_aload_n 0 dX11_second_171 rfl rfl ?_
    refine eg_getR dX11_second_172 fl_11_69 rfl rfl (obM_60 z1) ?_
    show eg_W κ gM mtX11_second d (eQV κ gM post) 175 [(0, vR (60, 0)), (2, vI l2)] [vR (110, 0), vR (110, 0)] M
    refine eg_iconst dX11_second_175 ic_2 ?_
    refine eg_iload_n 1 dX11_second_176 rfl rfl ?_
    refine eg_iadd dX11_second_177 ?_
    obtain ⟨g3, h⟩ := h
    refine eg_iaload dX11_second_178 (arM_110 z1 g3) ?_
    obtain ⟨q6, hq6, h⟩ := h
    refine eg_callSI (av := [vI (M.1 (110, 0) ((2 : Int32) + l2).toNatClampNeg)]) (st := [vR (110, 0)]) dX11_second_179 ml_11_372 rfl rfl (Nat.le_of_ble_eq_true rfl) (eg_dd hd) hq6 (fun x4 M5 hp => ?_)
    have h := h x4 M5 hp
    refine eg_iconst dX11_second_182 ic_3 ?_
    refine eg_iadd dX11_second_183 ?_
    obtain ⟨g7, h⟩ := h
    refine eg_iaload dX11_second_184 (arM_110 z1 g7) ?_
    refine eg_if_ne (tgt := 200) dX11_second_185 rfl (fun c8 => ?_) (fun c8 => ?_)
    · have h := h.1 c8
      refine eg_iconst dX11_second_200 ic_0 ?_
      refine eg_istore_n dX11_second_201 rfl (by decide) (ls1 := [(3, vI (0 : Int32)), (0, vR (60, 0)), (2, vI l2)]) rfl ?_
      refine eg_iload_n 2 dX11_second_202 rfl rfl ?_
      refine eg_iload_n 0 dX11_second_203 rfl rfl ?_
      have J : ∀ x9 : Int32, x9 = (if (0 : Int32) = 0 then (1 : Int32) else (0 : Int32)) → eg_W κ gM mtX11_second d (eQV κ gM post) 212 [(3, vI (0 : Int32)), (0, vR (60, 0)), (2, vI l2)] [vI x9, vI l2] M5 := by
        intro x9 ex9
        have h := h x9 ex9
        refine eg_iadd dX11_second_212 ?_
        refine en_istore_n (f := fun x10 => [(2, vI x10), (3, vI (0 : Int32)), (0, vR (60, 0))]) dX11_second_213 rfl (by decide) rfl (fun x10 ex10 => ?_)
        have h := h x10 ex10
        refine eg_goto (tgt := 157) dX11_second_214 rfl ?_
        refine eg_sub [2, 0] rfl ?_
        exact h
      clear h
      refine eg_if_eq (tgt := 211) dX11_second_204 rfl (fun c11 => ?_) (fun c11 => ?_)
      · refine eg_iconst dX11_second_211 ic_1 ?_
        exact J _ (by rw [if_pos c11])
      · refine eg_iconst dX11_second_207 ic_0 ?_
        refine eg_goto (tgt := 212) dX11_second_208 rfl ?_
        exact J _ (by rw [if_neg c11])
    · have h := h.2 c8
      refine eg_aload_n 0 dX11_second_188 rfl rfl ?_
      refine eg_iload_n 1 dX11_second_189 rfl rfl ?_
      obtain ⟨q14, hq14, h⟩ := h
      refine eg_callVI (av := [vI l2]) (st := []) dX11_second_190 ml_11_462 rfl rfl (obM_60 z1) (by decide) rfl (Nat.le_of_ble_eq_true rfl) (eg_dd hd) hq14 (fun x12 M13 hp => ?_)
      have h := h x12 M13 hp
      have J : ∀ x15 : Int32, x15 = (if x12 = 0 then (0 : Int32) else (1 : Int32)) → eg_W κ gM mtX11_second d (eQV κ gM post) 201 [(0, vR (60, 0)), (2, vI l2)] [vI x15] M13 := by
        intro x15 ex15
        have h := h x15 ex15
        refine eg_istore_n dX11_second_201 rfl (by decide) (ls1 := [(3, vI x15), (0, vR (60, 0)), (2, vI l2)]) rfl ?_
        refine eg_iload_n 2 dX11_second_202 rfl rfl ?_
        refine eg_iload_n 0 dX11_second_203 rfl rfl ?_
        have J : ∀ x16 : Int32, x16 = (if x15 = 0 then (1 : Int32) else (0 : Int32)) → eg_W κ gM mtX11_second d (eQV κ gM post) 212 [(3, vI x15), (0, vR (60, 0)), (2, vI l2)] [vI x16, vI l2] M13 := by
          intro x16 ex16
          have h := h x16 ex16
          refine eg_iadd dX11_second_212 ?_
          refine en_istore_n (f := fun x17 => [(2, vI x17), (3, vI x15), (0, vR (60, 0))]) dX11_second_213 rfl (by decide) rfl (fun x17 ex17 => ?_)
          have h := h x17 ex17
          refine eg_goto (tgt := 157) dX11_second_214 rfl ?_
          refine eg_sub [2, 0] rfl ?_
          exact h
        clear h
        refine eg_if_eq (tgt := 211) dX11_second_204 rfl (fun c18 => ?_) (fun c18 => ?_)
        · refine eg_iconst dX11_second_211 ic_1 ?_
          exact J _ (by rw [if_pos c18])
        · refine eg_iconst dX11_second_207 ic_0 ?_
          refine eg_goto (tgt := 212) dX11_second_208 rfl ?_
          exact J _ (by rw [if_neg c18])
      clear h
      refine eg_if_eq (tgt := 200) dX11_second_193 rfl (fun c19 => ?_) (fun c19 => ?_)
      · refine eg_iconst dX11_second_200 ic_0 ?_
        exact J _ (by rw [if_pos c19])
      · refine eg_iconst dX11_second_196 ic_1 ?_
        refine eg_goto (tgt := 201) dX11_second_197 rfl ?_
        exact J _ (by rw [if_neg c19])
set_option maxRecDepth 10000 in
theorem vX11_second_219 {κ : eg_K} {d : Nat} (hd : 1 ≤ d) {post : eg_H → Prop} (M : eg_H) (l3 : Int32) (h : (vp_in (1 : Int32) 366 ∧ ((M.1 (110, 0) (1 : Int32).toNatClampNeg) ≤ l3 → eCV κ gM mtX11_pansGo d [vR (60, 0)] M (fun M3 => (vp_in (0 : Int32) 366 ∧ (∀ M6 : eg_H, M6 = (sI M3 (110, 0) (0 : Int32).toNatClampNeg ((M3.1 (110, 0) (0 : Int32).toNatClampNeg) + (1 : Int32))) → post M6)))) ∧ ((¬ (M.1 (110, 0) (1 : Int32).toNatClampNeg) ≤ l3) → (vp_in ((2 : Int32) + l3) 366 ∧ eCI κ gM mtX11_at d [vI (M.1 (110, 0) ((2 : Int32) + l3).toNatClampNeg)] M (fun x8 M9 => (vp_in (x8 + (3 : Int32)) 366 ∧ (∀ x12 : Int32, x12 = ((if (M9.1 (110, 0) (x8 + (3 : Int32)).toNatClampNeg) ≤ 0 then (0 : Int32) else (1 : Int32))) → (∀ M13 : eg_H, M13 = (sI M9 (110, 0) (x8 + (3 : Int32)).toNatClampNeg ((M9.1 (110, 0) (x8 + (3 : Int32)).toNatClampNeg) - x12)) → (∀ x14 : Int32, x14 = (l3 + (1 : Int32)) → eg_W κ gM mtX11_second d (eQV κ gM post) 219 [(0, vR (60, 0)), (3, vI x14)] [] M13))))))))) : eg_W κ gM mtX11_second d (eQV κ gM post) 219 [(0, vR (60, 0)), (3, vI l3)] [] M := by
  refine eg_iload_n 1 dX11_second_219 rfl rfl ?_
  refine eg_aload_n 0 dX11_second_220 rfl rfl ?_
  refine eg_getR dX11_second_221 fl_11_69 rfl rfl (obM_60 z1) ?_
  show eg_W κ gM mtX11_second d (eQV κ gM post) 224 [(0, vR (60, 0)), (3, vI l3)] [vR (110, 0), vI l3] M
  refine eg_iconst dX11_second_224 ic_1 ?_
  obtain ⟨g1, h⟩ := h
  refine eg_iaload dX11_second_225 (arM_110 z1 g1) ?_
  refine eg_icmp_ge (tgt := 277) dX11_second_226 rfl (fun c2 => ?_) (fun c2 => ?_)
  · have h := h.1 c2
    refine eg_aload_n 0 dX11_second_277 rfl rfl ?_
    obtain ⟨q4, hq4, h⟩ := h
    refine eg_callVV (av := []) (st := []) dX11_second_278 ml_11_465 rfl rfl (obM_60 z1) (by decide) rfl (Nat.le_of_ble_eq_true rfl) (eg_dd hd) hq4 (fun M3 hp => ?_)
    have h := h M3 hp
    refine eg_aload_n 0 dX11_second_281 rfl rfl ?_
    refine eg_getR dX11_second_282 fl_11_69 rfl rfl (obM_60 z1) ?_
    show eg_W κ gM mtX11_second d (eQV κ gM post) 285 [(0, vR (60, 0)), (3, vI l3)] [vR (110, 0)] M3
    refine eg_iconst dX11_second_285 ic_0 ?_
    refine eg_dup2 dX11_second_286 rfl rfl ?_
    obtain ⟨g5, h⟩ := h
    refine eg_iaload dX11_second_287 (arM_110 z1 g5) ?_
    refine eg_iconst dX11_second_288 ic_1 ?_
    refine eg_iadd dX11_second_289 ?_
    refine en_iastore dX11_second_290 (arM_110 z1 g5) (fun M6 eM6 => ?_)
    have h := h M6 eM6
    exact eg_vreturn dX11_second_291 rfl h
  · have h := h.2 c2
    refine eg_aload_n 0 dX11_second_229 rfl rfl ?_
    refine eg_getR dX11_second_230 fl_11_69 rfl rfl (obM_60 z1) ?_
    show eg_W κ gM mtX11_second d (eQV κ gM post) 233 [(0, vR (60, 0)), (3, vI l3)] [vR (110, 0)] M
    refine eg_iconst dX11_second_233 ic_2 ?_
    refine eg_iload_n 1 dX11_second_234 rfl rfl ?_
    refine eg_iadd dX11_second_235 ?_
    obtain ⟨g7, h⟩ := h
    refine eg_iaload dX11_second_236 (arM_110 z1 g7) ?_
    obtain ⟨q10, hq10, h⟩ := h
    refine eg_callSI (av := [vI (M.1 (110, 0) ((2 : Int32) + l3).toNatClampNeg)]) (st := []) dX11_second_237 ml_11_372 rfl rfl (Nat.le_of_ble_eq_true rfl) (eg_dd hd) hq10 (fun x8 M9 hp => ?_)
    have h := h x8 M9 hp
    refine eg_istore dX11_second_240 (by decide) (ls1 := [(4, vI x8), (0, vR (60, 0)), (3, vI l3)]) rfl ?_
    refine eg_aload_n 1 dX11_second_242 rfl rfl ?_
    refine eg_getR dX11_second_243 fl_11_69 rfl rfl (obM_60 z1) ?_
    show eg_W κ gM mtX11_second d (eQV κ gM post) 246 [(4, vI x8), (0, vR (60, 0)), (3, vI l3)] [vR (110, 0)] M9
    refine eg_iload 0 dX11_second_246 rfl ?_
    refine eg_iconst dX11_second_248 ic_3 ?_
    refine eg_iadd dX11_second_249 ?_
    refine eg_dup2 dX11_second_250 rfl rfl ?_
    obtain ⟨g11, h⟩ := h
    refine eg_iaload dX11_second_251 (arM_110 z1 g11) ?_
    refine eg_aload_n 1 dX11_second_252 rfl rfl ?_
    refine eg_getR dX11_second_253 fl_11_69 rfl rfl (obM_60 z1) ?_
    show eg_W κ gM mtX11_second d (eQV κ gM post) 256 [(4, vI x8), (0, vR (60, 0)), (3, vI l3)] [vR (110, 0), vI (M9.1 (110, 0) (x8 + (3 : Int32)).toNatClampNeg), vI (x8 + (3 : Int32)), vR (110, 0)] M9
    refine eg_iload 0 dX11_second_256 rfl ?_
    refine eg_iconst dX11_second_258 ic_3 ?_
    refine eg_iadd dX11_second_259 ?_
    refine eg_iaload dX11_second_260 (arM_110 z1 g11) ?_
    have J : ∀ x12 : Int32, x12 = (if (M9.1 (110, 0) (x8 + (3 : Int32)).toNatClampNeg) ≤ 0 then (0 : Int32) else (1 : Int32)) → eg_W κ gM mtX11_second d (eQV κ gM post) 269 [(4, vI x8), (0, vR (60, 0)), (3, vI l3)] [vI x12, vI (M9.1 (110, 0) (x8 + (3 : Int32)).toNatClampNeg), vI (x8 + (3 : Int32)), vR (110, 0)] M9 := by
      intro x12 ex12
      have h := h x12 ex12
      refine eg_isub dX11_second_269 ?_
      refine en_iastore dX11_second_270 (arM_110 z1 g11) (fun M13 eM13 => ?_)
      have h := h M13 eM13
      refine en_iinc (f := fun x14 => [(3, vI x14), (4, vI x8), (0, vR (60, 0))]) 2 dX11_second_271 rfl rfl (by decide) rfl (fun x14 ex14 => ?_)
      have h := h x14 ex14
      refine eg_goto (tgt := 219) dX11_second_274 rfl ?_
      refine eg_sub [2, 0] rfl ?_
      exact h
    clear h
    refine eg_if_le (tgt := 268) dX11_second_261 rfl (fun c15 => ?_) (fun c15 => ?_)
    · refine eg_iconst dX11_second_268 ic_0 ?_
      exact J _ (by rw [if_pos c15])
    · refine eg_iconst dX11_second_264 ic_1 ?_
      refine eg_goto (tgt := 269) dX11_second_265 rfl ?_
      exact J _ (by rw [if_neg c15])
theorem dX11_runs_0 : decode cX11_runs 0 = .ok (.aload_n 0, 1) := by decide +kernel
theorem dX11_runs_1 : decode cX11_runs 1 = .ok (.invokevirtual 246, 3) := by decide +kernel
theorem dX11_runs_4 : decode cX11_runs 4 = .ok (.aload_n 0, 1) := by decide +kernel
theorem dX11_runs_5 : decode cX11_runs 5 = .ok (.getfield 69, 3) := by decide +kernel
theorem dX11_runs_8 : decode cX11_runs 8 = .ok (.iconst 0, 1) := by decide +kernel
theorem dX11_runs_9 : decode cX11_runs 9 = .ok (.iaload, 1) := by decide +kernel
theorem dX11_runs_10 : decode cX11_runs 10 = .ok (.iload_n 1, 1) := by decide +kernel
theorem dX11_runs_11 : decode cX11_runs 11 = .ok (.if_icmp .ge 10, 3) := by decide +kernel
theorem dX11_runs_14 : decode cX11_runs 14 = .ok (.aload_n 0, 1) := by decide +kernel
theorem dX11_runs_15 : decode cX11_runs 15 = .ok (.invokevirtual 468, 3) := by decide +kernel
theorem dX11_runs_18 : decode cX11_runs 18 = .ok (.goto (-14), 3) := by decide +kernel
theorem dX11_runs_21 : decode cX11_runs 21 = .ok (.return_, 1) := by decide +kernel
set_option maxRecDepth 10000 in
theorem vX11_runs_0 {κ : eg_K} {d : Nat} (hd : 1 ≤ d) {post : eg_H → Prop} (M : eg_H) (l1 : Int32) (h : eCV κ gM mtX11_begins d [vR (60, 0)] M (fun M1 => eg_W κ gM mtX11_runs d (eQV κ gM post) 4 [(0, vR (60, 0)), (1, vI l1)] [] M1)) : eg_W κ gM mtX11_runs d (eQV κ gM post) 0 [(0, vR (60, 0)), (1, vI l1)] [] M := by
  refine eg_aload_n 0 dX11_runs_0 rfl rfl ?_
  obtain ⟨q2, hq2, h⟩ := h
  refine eg_callVV (av := []) (st := []) dX11_runs_1 ml_11_246 rfl rfl (obM_60 z1) (by decide) rfl (Nat.le_of_ble_eq_true rfl) (eg_dd hd) hq2 (fun M1 hp => ?_)
  have h := h M1 hp
  exact h
set_option maxRecDepth 10000 in
theorem vX11_runs_4 {κ : eg_K} {d : Nat} (hd : 1 ≤ d) {post : eg_H → Prop} (M : eg_H) (l1 : Int32) (h : (vp_in (0 : Int32) 366 ∧ (l1 ≤ (M.1 (110, 0) (0 : Int32).toNatClampNeg) → post M) ∧ ((¬ l1 ≤ (M.1 (110, 0) (0 : Int32).toNatClampNeg)) → eCV κ gM mtX11_second d [vR (60, 0)] M (fun M3 => eg_W κ gM mtX11_runs d (eQV κ gM post) 4 [(0, vR (60, 0)), (1, vI l1)] [] M3)))) : eg_W κ gM mtX11_runs d (eQV κ gM post) 4 [(0, vR (60, 0)), (1, vI l1)] [] M := by
  refine eg_aload_n 0 dX11_runs_4 rfl rfl ?_
  refine eg_getR dX11_runs_5 fl_11_69 rfl rfl (obM_60 z1) ?_
  show eg_W κ gM mtX11_runs d (eQV κ gM post) 8 [(0, vR (60, 0)), (1, vI l1)] [vR (110, 0)] M
  refine eg_iconst dX11_runs_8 ic_0 ?_
  obtain ⟨g1, h⟩ := h
  refine eg_iaload dX11_runs_9 (arM_110 z1 g1) ?_
  refine eg_iload_n 1 dX11_runs_10 rfl rfl ?_
  refine eg_icmp_ge (tgt := 21) dX11_runs_11 rfl (fun c2 => ?_) (fun c2 => ?_)
  · have h := h.1 c2
    exact eg_vreturn dX11_runs_21 rfl h
  · have h := h.2 c2
    refine eg_aload_n 0 dX11_runs_14 rfl rfl ?_
    obtain ⟨q4, hq4, h⟩ := h
    refine eg_callVV (av := []) (st := []) dX11_runs_15 ml_11_468 rfl rfl (obM_60 z1) (by decide) rfl (Nat.le_of_ble_eq_true rfl) (eg_dd hd) hq4 (fun M3 hp => ?_)
    have h := h M3 hp
    refine eg_goto (tgt := 4) dX11_runs_18 rfl ?_
    exact h
theorem dX11_waitedOf_0 : decode cX11_waitedOf 0 = .ok (.iconst 0, 1) := by decide +kernel
theorem dX11_waitedOf_1 : decode cX11_waitedOf 1 = .ok (.istore_n 2, 1) := by decide +kernel
theorem dX11_waitedOf_2 : decode cX11_waitedOf 2 = .ok (.iconst 0, 1) := by decide +kernel
theorem dX11_waitedOf_3 : decode cX11_waitedOf 3 = .ok (.istore_n 3, 1) := by decide +kernel
theorem dX11_waitedOf_4 : decode cX11_waitedOf 4 = .ok (.iload_n 3, 1) := by decide +kernel
theorem dX11_waitedOf_5 : decode cX11_waitedOf 5 = .ok (.aload_n 0, 1) := by decide +kernel
theorem dX11_waitedOf_6 : decode cX11_waitedOf 6 = .ok (.invokevirtual 369, 3) := by decide +kernel
theorem dX11_waitedOf_9 : decode cX11_waitedOf 9 = .ok (.if_icmp .ge 32, 3) := by decide +kernel
theorem dX11_waitedOf_12 : decode cX11_waitedOf 12 = .ok (.iload_n 2, 1) := by decide +kernel
theorem dX11_waitedOf_13 : decode cX11_waitedOf 13 = .ok (.iload_n 3, 1) := by decide +kernel
theorem dX11_waitedOf_14 : decode cX11_waitedOf 14 = .ok (.iload_n 1, 1) := by decide +kernel
theorem dX11_waitedOf_15 : decode cX11_waitedOf 15 = .ok (.if_icmp .ne 7, 3) := by decide +kernel
theorem dX11_waitedOf_18 : decode cX11_waitedOf 18 = .ok (.iconst 0, 1) := by decide +kernel
theorem dX11_waitedOf_19 : decode cX11_waitedOf 19 = .ok (.goto 14, 3) := by decide +kernel
theorem dX11_waitedOf_22 : decode cX11_waitedOf 22 = .ok (.aload_n 0, 1) := by decide +kernel
theorem dX11_waitedOf_23 : decode cX11_waitedOf 23 = .ok (.getfield 69, 3) := by decide +kernel
theorem dX11_waitedOf_26 : decode cX11_waitedOf 26 = .ok (.iload_n 3, 1) := by decide +kernel
theorem dX11_waitedOf_27 : decode cX11_waitedOf 27 = .ok (.invokestatic 372, 3) := by decide +kernel
theorem dX11_waitedOf_30 : decode cX11_waitedOf 30 = .ok (.iconst 4, 1) := by decide +kernel
theorem dX11_waitedOf_31 : decode cX11_waitedOf 31 = .ok (.iadd, 1) := by decide +kernel
theorem dX11_waitedOf_32 : decode cX11_waitedOf 32 = .ok (.iaload, 1) := by decide +kernel
theorem dX11_waitedOf_33 : decode cX11_waitedOf 33 = .ok (.iadd, 1) := by decide +kernel
theorem dX11_waitedOf_34 : decode cX11_waitedOf 34 = .ok (.istore_n 2, 1) := by decide +kernel
theorem dX11_waitedOf_35 : decode cX11_waitedOf 35 = .ok (.iinc 3 1, 3) := by decide +kernel
theorem dX11_waitedOf_38 : decode cX11_waitedOf 38 = .ok (.goto (-34), 3) := by decide +kernel
theorem dX11_waitedOf_41 : decode cX11_waitedOf 41 = .ok (.iload_n 2, 1) := by decide +kernel
theorem dX11_waitedOf_42 : decode cX11_waitedOf 42 = .ok (.ireturn, 1) := by decide +kernel
set_option maxRecDepth 10000 in
theorem vX11_waitedOf_0 {κ : eg_K} {d : Nat} {post : Int32 → eg_H → Prop} (M : eg_H) (l1 : Int32) (h : eg_W κ gM mtX11_waitedOf d (eQI κ gM post) 4 [(0, vR (60, 0)), (1, vI l1), (2, vI (0 : Int32)), (3, vI (0 : Int32))] [] M) : eg_W κ gM mtX11_waitedOf d (eQI κ gM post) 0 [(0, vR (60, 0)), (1, vI l1)] [] M := by
  refine eg_iconst dX11_waitedOf_0 ic_0 ?_
  refine eg_istore_n dX11_waitedOf_1 rfl (by decide) (ls1 := [(2, vI (0 : Int32)), (0, vR (60, 0)), (1, vI l1)]) rfl ?_
  refine eg_iconst dX11_waitedOf_2 ic_0 ?_
  refine eg_istore_n dX11_waitedOf_3 rfl (by decide) (ls1 := [(3, vI (0 : Int32)), (2, vI (0 : Int32)), (0, vR (60, 0)), (1, vI l1)]) rfl ?_
  refine eg_sub [2, 3, 1, 0] rfl ?_
  exact h
set_option maxRecDepth 10000 in
theorem vX11_waitedOf_4 {κ : eg_K} {d : Nat} (hd : 1 ≤ d) {post : Int32 → eg_H → Prop} (M : eg_H) (l1 : Int32) (l2 : Int32) (l3 : Int32) (h : eCI κ gM mtX11_everybody d [vR (60, 0)] M (fun x1 M2 => (x1 ≤ l3 → post l2 M2) ∧ ((¬ x1 ≤ l3) → ((¬ l3 = l1) → eCI κ gM mtX11_at d [vI l3] M2 (fun x6 M7 => (vp_in (x6 + (4 : Int32)) 366 ∧ (∀ x10 : Int32, x10 = (l2 + (M7.1 (110, 0) (x6 + (4 : Int32)).toNatClampNeg)) → (∀ x11 : Int32, x11 = (l3 + (1 : Int32)) → eg_W κ gM mtX11_waitedOf d (eQI κ gM post) 4 [(0, vR (60, 0)), (1, vI l1), (2, vI x10), (3, vI x11)] [] M7))))) ∧ (l3 = l1 → (∀ x12 : Int32, x12 = (l2 + (0 : Int32)) → (∀ x13 : Int32, x13 = (l3 + (1 : Int32)) → eg_W κ gM mtX11_waitedOf d (eQI κ gM post) 4 [(0, vR (60, 0)), (1, vI l1), (2, vI x12), (3, vI x13)] [] M2)))))) : eg_W κ gM mtX11_waitedOf d (eQI κ gM post) 4 [(0, vR (60, 0)), (1, vI l1), (2, vI l2), (3, vI l3)] [] M := by
  refine eg_iload_n 3 dX11_waitedOf_4 rfl rfl ?_
  refine eg_aload_n 0 dX11_waitedOf_5 rfl rfl ?_
  obtain ⟨q3, hq3, h⟩ := h
  refine eg_callVI (av := []) (st := [vI l3]) dX11_waitedOf_6 ml_11_369 rfl rfl (obM_60 z1) (by decide) rfl (Nat.le_of_ble_eq_true rfl) (eg_dd hd) hq3 (fun x1 M2 hp => ?_)
  have h := h x1 M2 hp
  refine eg_icmp_ge (tgt := 41) dX11_waitedOf_9 rfl (fun c4 => ?_) (fun c4 => ?_)
  · have h := h.1 c4
    refine eg_iload_n 2 dX11_waitedOf_41 rfl rfl ?_
    exact eg_ireturn dX11_waitedOf_42 rfl h
  · have h := h.2 c4
    refine eg_iload_n 2 dX11_waitedOf_12 rfl rfl ?_
    refine eg_iload_n 3 dX11_waitedOf_13 rfl rfl ?_
    refine eg_iload_n 1 dX11_waitedOf_14 rfl rfl ?_
    refine eg_icmp_ne (tgt := 22) dX11_waitedOf_15 rfl (fun c5 => ?_) (fun c5 => ?_)
    · have h := h.1 c5
      refine eg_aload_n 0 dX11_waitedOf_22 rfl rfl ?_
      refine eg_getR dX11_waitedOf_23 fl_11_69 rfl rfl (obM_60 z1) ?_
      show eg_W κ gM mtX11_waitedOf d (eQI κ gM post) 26 [(0, vR (60, 0)), (1, vI l1), (2, vI l2), (3, vI l3)] [vR (110, 0), vI l2] M2
      refine eg_iload_n 3 dX11_waitedOf_26 rfl rfl ?_
      obtain ⟨q8, hq8, h⟩ := h
      refine eg_callSI (av := [vI l3]) (st := [vR (110, 0), vI l2]) dX11_waitedOf_27 ml_11_372 rfl rfl (Nat.le_of_ble_eq_true rfl) (eg_dd hd) hq8 (fun x6 M7 hp => ?_)
      have h := h x6 M7 hp
      refine eg_iconst dX11_waitedOf_30 ic_4 ?_
      refine eg_iadd dX11_waitedOf_31 ?_
      obtain ⟨g9, h⟩ := h
      refine eg_iaload dX11_waitedOf_32 (arM_110 z1 g9) ?_
      refine eg_iadd dX11_waitedOf_33 ?_
      refine en_istore_n (f := fun x10 => [(2, vI x10), (0, vR (60, 0)), (1, vI l1), (3, vI l3)]) dX11_waitedOf_34 rfl (by decide) rfl (fun x10 ex10 => ?_)
      have h := h x10 ex10
      refine en_iinc (f := fun x11 => [(3, vI x11), (2, vI x10), (0, vR (60, 0)), (1, vI l1)]) 3 dX11_waitedOf_35 rfl rfl (by decide) rfl (fun x11 ex11 => ?_)
      have h := h x11 ex11
      refine eg_goto (tgt := 4) dX11_waitedOf_38 rfl ?_
      refine eg_sub [2, 3, 1, 0] rfl ?_
      exact h
    · have h := h.2 c5
      refine eg_iconst dX11_waitedOf_18 ic_0 ?_
      refine eg_goto (tgt := 33) dX11_waitedOf_19 rfl ?_
      refine eg_iadd dX11_waitedOf_33 ?_
      refine en_istore_n (f := fun x12 => [(2, vI x12), (0, vR (60, 0)), (1, vI l1), (3, vI l3)]) dX11_waitedOf_34 rfl (by decide) rfl (fun x12 ex12 => ?_)
      have h := h x12 ex12
      refine en_iinc (f := fun x13 => [(3, vI x13), (2, vI x12), (0, vR (60, 0)), (1, vI l1)]) 3 dX11_waitedOf_35 rfl rfl (by decide) rfl (fun x13 ex13 => ?_)
      have h := h x13 ex13
      refine eg_goto (tgt := 4) dX11_waitedOf_38 rfl ?_
      refine eg_sub [2, 3, 1, 0] rfl ?_
      exact h
theorem dX11_isStation_0 : decode cX11_isStation 0 = .ok (.iload_n 1, 1) := by decide +kernel
theorem dX11_isStation_1 : decode cX11_isStation 1 = .ok (.ifCond .lt 15, 3) := by decide +kernel
theorem dX11_isStation_4 : decode cX11_isStation 4 = .ok (.iload_n 1, 1) := by decide +kernel
theorem dX11_isStation_5 : decode cX11_isStation 5 = .ok (.aload_n 0, 1) := by decide +kernel
theorem dX11_isStation_6 : decode cX11_isStation 6 = .ok (.getfield 209, 3) := by decide +kernel
theorem dX11_isStation_9 : decode cX11_isStation 9 = .ok (.if_icmp .ge 7, 3) := by decide +kernel
theorem dX11_isStation_12 : decode cX11_isStation 12 = .ok (.iconst 1, 1) := by decide +kernel
theorem dX11_isStation_13 : decode cX11_isStation 13 = .ok (.goto 4, 3) := by decide +kernel
theorem dX11_isStation_16 : decode cX11_isStation 16 = .ok (.iconst 0, 1) := by decide +kernel
theorem dX11_isStation_17 : decode cX11_isStation 17 = .ok (.ireturn, 1) := by decide +kernel
set_option maxRecDepth 10000 in
theorem vX11_isStation_0 {κ : eg_K} {d : Nat} {post : Int32 → eg_H → Prop} (M : eg_H) (l1 : Int32) (h : (∀ x1 : Int32, x1 = ((if l1 < 0 then (0 : Int32) else (if (M.1 (60, 0) 12) ≤ l1 then (0 : Int32) else (1 : Int32)))) → ((x1 = 0 ∨ x1 = 1) ∧ post x1 M))) : eg_W κ gM mtX11_isStation d (eQI κ gM post) 0 [(0, vR (60, 0)), (1, vI l1)] [] M := by
  refine eg_iload_n 1 dX11_isStation_0 rfl rfl ?_
  have J : ∀ x1 : Int32, x1 = (if l1 < 0 then (0 : Int32) else (if (M.1 (60, 0) 12) ≤ l1 then (0 : Int32) else (1 : Int32))) → eg_W κ gM mtX11_isStation d (eQI κ gM post) 17 [(0, vR (60, 0)), (1, vI l1)] [vI x1] M := by
    intro x1 ex1
    have h := h x1 ex1
    obtain ⟨g2, h⟩ := h
    exact eg_zreturn dX11_isStation_17 rfl g2 h
  clear h
  refine eg_if_lt (tgt := 16) dX11_isStation_1 rfl (fun c3 => ?_) (fun c3 => ?_)
  · refine eg_iconst dX11_isStation_16 ic_0 ?_
    exact J _ (by rw [if_pos c3])
  · refine eg_iload_n 1 dX11_isStation_4 rfl rfl ?_
    refine eg_aload_n 0 dX11_isStation_5 rfl rfl ?_
    refine eg_getI dX11_isStation_6 fl_11_209 rfl trivial (obM_60 z1) ?_
    refine eg_icmp_ge (tgt := 16) dX11_isStation_9 rfl (fun c4 => ?_) (fun c4 => ?_)
    · refine eg_iconst dX11_isStation_16 ic_0 ?_
      exact J _ (by rw [if_neg c3, if_pos c4])
    · refine eg_iconst dX11_isStation_12 ic_1 ?_
      refine eg_goto (tgt := 17) dX11_isStation_13 rfl ?_
      exact J _ (by rw [if_neg c3, if_neg c4])
theorem dX11_isGuest_0 : decode cX11_isGuest 0 = .ok (.iload_n 1, 1) := by decide +kernel
theorem dX11_isGuest_1 : decode cX11_isGuest 1 = .ok (.ifCond .lt 15, 3) := by decide +kernel
theorem dX11_isGuest_4 : decode cX11_isGuest 4 = .ok (.iload_n 1, 1) := by decide +kernel
theorem dX11_isGuest_5 : decode cX11_isGuest 5 = .ok (.aload_n 0, 1) := by decide +kernel
theorem dX11_isGuest_6 : decode cX11_isGuest 6 = .ok (.getfield 212, 3) := by decide +kernel
theorem dX11_isGuest_9 : decode cX11_isGuest 9 = .ok (.if_icmp .ge 7, 3) := by decide +kernel
theorem dX11_isGuest_12 : decode cX11_isGuest 12 = .ok (.iconst 1, 1) := by decide +kernel
theorem dX11_isGuest_13 : decode cX11_isGuest 13 = .ok (.goto 4, 3) := by decide +kernel
theorem dX11_isGuest_16 : decode cX11_isGuest 16 = .ok (.iconst 0, 1) := by decide +kernel
theorem dX11_isGuest_17 : decode cX11_isGuest 17 = .ok (.ireturn, 1) := by decide +kernel
set_option maxRecDepth 10000 in
theorem vX11_isGuest_0 {κ : eg_K} {d : Nat} {post : Int32 → eg_H → Prop} (M : eg_H) (l1 : Int32) (h : (∀ x1 : Int32, x1 = ((if l1 < 0 then (0 : Int32) else (if (M.1 (60, 0) 13) ≤ l1 then (0 : Int32) else (1 : Int32)))) → ((x1 = 0 ∨ x1 = 1) ∧ post x1 M))) : eg_W κ gM mtX11_isGuest d (eQI κ gM post) 0 [(0, vR (60, 0)), (1, vI l1)] [] M := by
  refine eg_iload_n 1 dX11_isGuest_0 rfl rfl ?_
  have J : ∀ x1 : Int32, x1 = (if l1 < 0 then (0 : Int32) else (if (M.1 (60, 0) 13) ≤ l1 then (0 : Int32) else (1 : Int32))) → eg_W κ gM mtX11_isGuest d (eQI κ gM post) 17 [(0, vR (60, 0)), (1, vI l1)] [vI x1] M := by
    intro x1 ex1
    have h := h x1 ex1
    obtain ⟨g2, h⟩ := h
    exact eg_zreturn dX11_isGuest_17 rfl g2 h
  clear h
  refine eg_if_lt (tgt := 16) dX11_isGuest_1 rfl (fun c3 => ?_) (fun c3 => ?_)
  · refine eg_iconst dX11_isGuest_16 ic_0 ?_
    exact J _ (by rw [if_pos c3])
  · refine eg_iload_n 1 dX11_isGuest_4 rfl rfl ?_
    refine eg_aload_n 0 dX11_isGuest_5 rfl rfl ?_
    refine eg_getI dX11_isGuest_6 fl_11_212 rfl trivial (obM_60 z1) ?_
    refine eg_icmp_ge (tgt := 16) dX11_isGuest_9 rfl (fun c4 => ?_) (fun c4 => ?_)
    · refine eg_iconst dX11_isGuest_16 ic_0 ?_
      exact J _ (by rw [if_neg c3, if_pos c4])
    · refine eg_iconst dX11_isGuest_12 ic_1 ?_
      refine eg_goto (tgt := 17) dX11_isGuest_13 rfl ?_
      exact J _ (by rw [if_neg c3, if_neg c4])
theorem dX11_isTime_0 : decode cX11_isTime 0 = .ok (.iload_n 0, 1) := by decide +kernel
theorem dX11_isTime_1 : decode cX11_isTime 1 = .ok (.iconst 0, 1) := by decide +kernel
theorem dX11_isTime_2 : decode cX11_isTime 2 = .ok (.sipush 3600, 3) := by decide +kernel
theorem dX11_isTime_5 : decode cX11_isTime 5 = .ok (.invokestatic 171, 3) := by decide +kernel
theorem dX11_isTime_8 : decode cX11_isTime 8 = .ok (.ireturn, 1) := by decide +kernel
set_option maxRecDepth 10000 in
theorem vX11_isTime_0 {κ : eg_K} {d : Nat} (hd : 1 ≤ d) {post : Int32 → eg_H → Prop} (M : eg_H) (l0 : Int32) (h : eCI κ gM mtX11_isIn d [vI l0, vI (0 : Int32), vI (3600 : Int32)] M (fun x1 M2 => ((x1 = 0 ∨ x1 = 1) ∧ post x1 M2))) : eg_W κ gM mtX11_isTime d (eQI κ gM post) 0 [(0, vI l0)] [] M := by
  refine eg_iload_n 0 dX11_isTime_0 rfl rfl ?_
  refine eg_iconst dX11_isTime_1 ic_0 ?_
  refine eg_sipush dX11_isTime_2 sp_3600 ?_
  obtain ⟨q3, hq3, h⟩ := h
  refine eg_callSI (av := [vI l0, vI (0 : Int32), vI (3600 : Int32)]) (st := []) dX11_isTime_5 ml_11_171 rfl rfl (Nat.le_of_ble_eq_true rfl) (eg_dd hd) hq3 (fun x1 M2 hp => ?_)
  have h := h x1 M2 hp
  obtain ⟨g4, h⟩ := h
  exact eg_zreturn dX11_isTime_8 rfl g4 h
theorem dX11_isBound_0 : decode cX11_isBound 0 = .ok (.iload_n 0, 1) := by decide +kernel
theorem dX11_isBound_1 : decode cX11_isBound 1 = .ok (.iconst 0, 1) := by decide +kernel
theorem dX11_isBound_2 : decode cX11_isBound 2 = .ok (.ldc_w 471, 3) := by decide +kernel
theorem dX11_isBound_5 : decode cX11_isBound 5 = .ok (.invokestatic 171, 3) := by decide +kernel
theorem dX11_isBound_8 : decode cX11_isBound 8 = .ok (.ireturn, 1) := by decide +kernel
set_option maxRecDepth 10000 in
theorem vX11_isBound_0 {κ : eg_K} {d : Nat} (hd : 1 ≤ d) {post : Int32 → eg_H → Prop} (M : eg_H) (l0 : Int32) (h : eCI κ gM mtX11_isIn d [vI l0, vI (0 : Int32), vI (99999 : Int32)] M (fun x1 M2 => ((x1 = 0 ∨ x1 = 1) ∧ post x1 M2))) : eg_W κ gM mtX11_isBound d (eQI κ gM post) 0 [(0, vI l0)] [] M := by
  refine eg_iload_n 0 dX11_isBound_0 rfl rfl ?_
  refine eg_iconst dX11_isBound_1 ic_0 ?_
  refine eg_ldcw dX11_isBound_2 kc_11_471 ?_
  obtain ⟨q3, hq3, h⟩ := h
  refine eg_callSI (av := [vI l0, vI (0 : Int32), vI (99999 : Int32)]) (st := []) dX11_isBound_5 ml_11_171 rfl rfl (Nat.le_of_ble_eq_true rfl) (eg_dd hd) hq3 (fun x1 M2 hp => ?_)
  have h := h x1 M2 hp
  obtain ⟨g4, h⟩ := h
  exact eg_zreturn dX11_isBound_8 rfl g4 h
theorem dX11_fails_0 : decode cX11_fails 0 = .ok (.aload_n 0, 1) := by decide +kernel
theorem dX11_fails_1 : decode cX11_fails 1 = .ok (.iload_n 1, 1) := by decide +kernel
theorem dX11_fails_2 : decode cX11_fails 2 = .ok (.putfield 127, 3) := by decide +kernel
theorem dX11_fails_5 : decode cX11_fails 5 = .ok (.iconst 0, 1) := by decide +kernel
theorem dX11_fails_6 : decode cX11_fails 6 = .ok (.ireturn, 1) := by decide +kernel
set_option maxRecDepth 10000 in
theorem vX11_fails_0 {κ : eg_K} {d : Nat} {post : Int32 → eg_H → Prop} (M : eg_H) (l1 : Int32) (h : (∀ M1 : eg_H, M1 = (sI M (60, 0) 2 l1) → post (0 : Int32) M1)) : eg_W κ gM mtX11_fails d (eQI κ gM post) 0 [(0, vR (60, 0)), (1, vI l1)] [] M := by
  refine eg_aload_n 0 dX11_fails_0 rfl rfl ?_
  refine eg_iload_n 1 dX11_fails_1 rfl rfl ?_
  refine en_putI dX11_fails_2 fl_11_127 rfl rfl (obM_60 z1) (fun M1 eM1 => ?_)
  have h := h M1 eM1
  refine eg_iconst dX11_fails_5 ic_0 ?_
  exact eg_ireturn dX11_fails_6 rfl h
theorem dX11_look_0 : decode cX11_look 0 = .ok (.aload_n 0, 1) := by decide +kernel
theorem dX11_look_1 : decode cX11_look 1 = .ok (.iconst 0, 1) := by decide +kernel
theorem dX11_look_2 : decode cX11_look 2 = .ok (.putfield 127, 3) := by decide +kernel
theorem dX11_look_5 : decode cX11_look 5 = .ok (.aload_n 0, 1) := by decide +kernel
theorem dX11_look_6 : decode cX11_look 6 = .ok (.iload_n 1, 1) := by decide +kernel
theorem dX11_look_7 : decode cX11_look 7 = .ok (.invokevirtual 472, 3) := by decide +kernel
theorem dX11_look_10 : decode cX11_look 10 = .ok (.ifCond .ne 9, 3) := by decide +kernel
theorem dX11_look_13 : decode cX11_look 13 = .ok (.aload_n 0, 1) := by decide +kernel
theorem dX11_look_14 : decode cX11_look 14 = .ok (.iconst 1, 1) := by decide +kernel
theorem dX11_look_15 : decode cX11_look 15 = .ok (.invokevirtual 475, 3) := by decide +kernel
theorem dX11_look_18 : decode cX11_look 18 = .ok (.ireturn, 1) := by decide +kernel
theorem dX11_look_19 : decode cX11_look 19 = .ok (.iload_n 1, 1) := by decide +kernel
theorem dX11_look_20 : decode cX11_look 20 = .ok (.invokestatic 372, 3) := by decide +kernel
theorem dX11_look_23 : decode cX11_look 23 = .ok (.istore_n 3, 1) := by decide +kernel
theorem dX11_look_24 : decode cX11_look 24 = .ok (.iconst 0, 1) := by decide +kernel
theorem dX11_look_25 : decode cX11_look 25 = .ok (.istore 4, 2) := by decide +kernel
theorem dX11_look_27 : decode cX11_look 27 = .ok (.iload_n 2, 1) := by decide +kernel
theorem dX11_look_28 : decode cX11_look 28 = .ok (.tableswitch 187 0 10 #[60, 67, 76, 85, 120, 129, 138, 147, 157, 167, 177], 60) := by decide +kernel
theorem dX11_look_88 : decode cX11_look 88 = .ok (.aload_n 0, 1) := by decide +kernel
theorem dX11_look_89 : decode cX11_look 89 = .ok (.getfield 72, 3) := by decide +kernel
theorem dX11_look_92 : decode cX11_look 92 = .ok (.iload_n 3, 1) := by decide +kernel
theorem dX11_look_93 : decode cX11_look 93 = .ok (.iaload, 1) := by decide +kernel
theorem dX11_look_94 : decode cX11_look 94 = .ok (.ireturn, 1) := by decide +kernel
theorem dX11_look_95 : decode cX11_look 95 = .ok (.aload_n 0, 1) := by decide +kernel
theorem dX11_look_96 : decode cX11_look 96 = .ok (.getfield 72, 3) := by decide +kernel
theorem dX11_look_99 : decode cX11_look 99 = .ok (.iload_n 3, 1) := by decide +kernel
theorem dX11_look_100 : decode cX11_look 100 = .ok (.iconst 1, 1) := by decide +kernel
theorem dX11_look_101 : decode cX11_look 101 = .ok (.iadd, 1) := by decide +kernel
theorem dX11_look_102 : decode cX11_look 102 = .ok (.iaload, 1) := by decide +kernel
theorem dX11_look_103 : decode cX11_look 103 = .ok (.ireturn, 1) := by decide +kernel
theorem dX11_look_104 : decode cX11_look 104 = .ok (.aload_n 0, 1) := by decide +kernel
theorem dX11_look_105 : decode cX11_look 105 = .ok (.getfield 72, 3) := by decide +kernel
theorem dX11_look_108 : decode cX11_look 108 = .ok (.iload_n 3, 1) := by decide +kernel
theorem dX11_look_109 : decode cX11_look 109 = .ok (.iconst 2, 1) := by decide +kernel
theorem dX11_look_110 : decode cX11_look 110 = .ok (.iadd, 1) := by decide +kernel
theorem dX11_look_111 : decode cX11_look 111 = .ok (.iaload, 1) := by decide +kernel
theorem dX11_look_112 : decode cX11_look 112 = .ok (.ireturn, 1) := by decide +kernel
theorem dX11_look_113 : decode cX11_look 113 = .ok (.iconst 0, 1) := by decide +kernel
theorem dX11_look_114 : decode cX11_look 114 = .ok (.istore 5, 2) := by decide +kernel
theorem dX11_look_116 : decode cX11_look 116 = .ok (.iload 5, 2) := by decide +kernel
theorem dX11_look_118 : decode cX11_look 118 = .ok (.iconst 5, 1) := by decide +kernel
theorem dX11_look_119 : decode cX11_look 119 = .ok (.if_icmp .ge 26, 3) := by decide +kernel
theorem dX11_look_122 : decode cX11_look 122 = .ok (.iload 4, 2) := by decide +kernel
theorem dX11_look_124 : decode cX11_look 124 = .ok (.aload_n 0, 1) := by decide +kernel
theorem dX11_look_125 : decode cX11_look 125 = .ok (.getfield 72, 3) := by decide +kernel
theorem dX11_look_128 : decode cX11_look 128 = .ok (.iload_n 3, 1) := by decide +kernel
theorem dX11_look_129 : decode cX11_look 129 = .ok (.bipush 14, 2) := by decide +kernel
theorem dX11_look_131 : decode cX11_look 131 = .ok (.iadd, 1) := by decide +kernel
theorem dX11_look_132 : decode cX11_look 132 = .ok (.iload 5, 2) := by decide +kernel
theorem dX11_look_134 : decode cX11_look 134 = .ok (.iadd, 1) := by decide +kernel
theorem dX11_look_135 : decode cX11_look 135 = .ok (.iaload, 1) := by decide +kernel
theorem dX11_look_136 : decode cX11_look 136 = .ok (.iadd, 1) := by decide +kernel
theorem dX11_look_137 : decode cX11_look 137 = .ok (.istore 4, 2) := by decide +kernel
theorem dX11_look_139 : decode cX11_look 139 = .ok (.iinc 5 1, 3) := by decide +kernel
theorem dX11_look_142 : decode cX11_look 142 = .ok (.goto (-26), 3) := by decide +kernel
theorem dX11_look_145 : decode cX11_look 145 = .ok (.iload 4, 2) := by decide +kernel
theorem dX11_look_147 : decode cX11_look 147 = .ok (.ireturn, 1) := by decide +kernel
theorem dX11_look_148 : decode cX11_look 148 = .ok (.aload_n 0, 1) := by decide +kernel
theorem dX11_look_149 : decode cX11_look 149 = .ok (.getfield 72, 3) := by decide +kernel
theorem dX11_look_152 : decode cX11_look 152 = .ok (.iload_n 3, 1) := by decide +kernel
theorem dX11_look_153 : decode cX11_look 153 = .ok (.iconst 3, 1) := by decide +kernel
theorem dX11_look_154 : decode cX11_look 154 = .ok (.iadd, 1) := by decide +kernel
theorem dX11_look_155 : decode cX11_look 155 = .ok (.iaload, 1) := by decide +kernel
theorem dX11_look_156 : decode cX11_look 156 = .ok (.ireturn, 1) := by decide +kernel
theorem dX11_look_157 : decode cX11_look 157 = .ok (.aload_n 0, 1) := by decide +kernel
theorem dX11_look_158 : decode cX11_look 158 = .ok (.getfield 72, 3) := by decide +kernel
theorem dX11_look_161 : decode cX11_look 161 = .ok (.iload_n 3, 1) := by decide +kernel
theorem dX11_look_162 : decode cX11_look 162 = .ok (.iconst 4, 1) := by decide +kernel
theorem dX11_look_163 : decode cX11_look 163 = .ok (.iadd, 1) := by decide +kernel
theorem dX11_look_164 : decode cX11_look 164 = .ok (.iaload, 1) := by decide +kernel
theorem dX11_look_165 : decode cX11_look 165 = .ok (.ireturn, 1) := by decide +kernel
theorem dX11_look_166 : decode cX11_look 166 = .ok (.aload_n 0, 1) := by decide +kernel
theorem dX11_look_167 : decode cX11_look 167 = .ok (.getfield 72, 3) := by decide +kernel
theorem dX11_look_170 : decode cX11_look 170 = .ok (.iload_n 3, 1) := by decide +kernel
theorem dX11_look_171 : decode cX11_look 171 = .ok (.iconst 5, 1) := by decide +kernel
theorem dX11_look_172 : decode cX11_look 172 = .ok (.iadd, 1) := by decide +kernel
theorem dX11_look_173 : decode cX11_look 173 = .ok (.iaload, 1) := by decide +kernel
theorem dX11_look_174 : decode cX11_look 174 = .ok (.ireturn, 1) := by decide +kernel
theorem dX11_look_175 : decode cX11_look 175 = .ok (.aload_n 0, 1) := by decide +kernel
theorem dX11_look_176 : decode cX11_look 176 = .ok (.getfield 72, 3) := by decide +kernel
theorem dX11_look_179 : decode cX11_look 179 = .ok (.iload_n 3, 1) := by decide +kernel
theorem dX11_look_180 : decode cX11_look 180 = .ok (.bipush 6, 2) := by decide +kernel
theorem dX11_look_182 : decode cX11_look 182 = .ok (.iadd, 1) := by decide +kernel
theorem dX11_look_183 : decode cX11_look 183 = .ok (.iaload, 1) := by decide +kernel
theorem dX11_look_184 : decode cX11_look 184 = .ok (.ireturn, 1) := by decide +kernel
theorem dX11_look_185 : decode cX11_look 185 = .ok (.aload_n 0, 1) := by decide +kernel
theorem dX11_look_186 : decode cX11_look 186 = .ok (.getfield 72, 3) := by decide +kernel
theorem dX11_look_189 : decode cX11_look 189 = .ok (.iload_n 3, 1) := by decide +kernel
theorem dX11_look_190 : decode cX11_look 190 = .ok (.bipush 7, 2) := by decide +kernel
theorem dX11_look_192 : decode cX11_look 192 = .ok (.iadd, 1) := by decide +kernel
theorem dX11_look_193 : decode cX11_look 193 = .ok (.iaload, 1) := by decide +kernel
theorem dX11_look_194 : decode cX11_look 194 = .ok (.ireturn, 1) := by decide +kernel
theorem dX11_look_195 : decode cX11_look 195 = .ok (.aload_n 0, 1) := by decide +kernel
theorem dX11_look_196 : decode cX11_look 196 = .ok (.getfield 72, 3) := by decide +kernel
theorem dX11_look_199 : decode cX11_look 199 = .ok (.iload_n 3, 1) := by decide +kernel
theorem dX11_look_200 : decode cX11_look 200 = .ok (.bipush 8, 2) := by decide +kernel
theorem dX11_look_202 : decode cX11_look 202 = .ok (.iadd, 1) := by decide +kernel
theorem dX11_look_203 : decode cX11_look 203 = .ok (.iaload, 1) := by decide +kernel
theorem dX11_look_204 : decode cX11_look 204 = .ok (.ireturn, 1) := by decide +kernel
theorem dX11_look_205 : decode cX11_look 205 = .ok (.aload_n 0, 1) := by decide +kernel
theorem dX11_look_206 : decode cX11_look 206 = .ok (.getfield 72, 3) := by decide +kernel
theorem dX11_look_209 : decode cX11_look 209 = .ok (.iload_n 3, 1) := by decide +kernel
theorem dX11_look_210 : decode cX11_look 210 = .ok (.bipush 9, 2) := by decide +kernel
theorem dX11_look_212 : decode cX11_look 212 = .ok (.iadd, 1) := by decide +kernel
theorem dX11_look_213 : decode cX11_look 213 = .ok (.iaload, 1) := by decide +kernel
theorem dX11_look_214 : decode cX11_look 214 = .ok (.ireturn, 1) := by decide +kernel
theorem dX11_look_215 : decode cX11_look 215 = .ok (.aload_n 0, 1) := by decide +kernel
theorem dX11_look_216 : decode cX11_look 216 = .ok (.iconst 2, 1) := by decide +kernel
theorem dX11_look_217 : decode cX11_look 217 = .ok (.invokevirtual 475, 3) := by decide +kernel
theorem dX11_look_220 : decode cX11_look 220 = .ok (.ireturn, 1) := by decide +kernel
set_option maxRecDepth 10000 in
theorem vX11_look_0 {κ : eg_K} {d : Nat} (hd : 1 ≤ d) {post : Int32 → eg_H → Prop} (M : eg_H) (l1 : Int32) (l2 : Int32) (h : (∀ M1 : eg_H, M1 = (sI M (60, 0) 2 (0 : Int32)) → eCI κ gM mtX11_isGuest d [vR (60, 0), vI l1] M1 (fun x2 M3 => ((¬ x2 = 0) → eCI κ gM mtX11_at d [vI l1] M3 (fun x6 M7 => ((¬ l2 = (0 : Int32)) → (¬ l2 = (1 : Int32)) → (¬ l2 = (2 : Int32)) → (¬ l2 = (3 : Int32)) → (¬ l2 = (4 : Int32)) → (¬ l2 = (5 : Int32)) → (¬ l2 = (6 : Int32)) → (¬ l2 = (7 : Int32)) → (¬ l2 = (8 : Int32)) → (¬ l2 = (9 : Int32)) → (¬ l2 = (10 : Int32)) → eCI κ gM mtX11_fails d [vR (60, 0), vI (2 : Int32)] M7 (fun x9 M10 => post x9 M10)) ∧ (l2 = (0 : Int32) → (vp_in x6 366 ∧ post (M7.1 (111, 0) x6.toNatClampNeg) M7)) ∧ (l2 = (1 : Int32) → (vp_in (x6 + (1 : Int32)) 366 ∧ post (M7.1 (111, 0) (x6 + (1 : Int32)).toNatClampNeg) M7)) ∧ (l2 = (2 : Int32) → (vp_in (x6 + (2 : Int32)) 366 ∧ post (M7.1 (111, 0) (x6 + (2 : Int32)).toNatClampNeg) M7)) ∧ (l2 = (3 : Int32) → eg_W κ gM mtX11_look d (eQI κ gM post) 116 [(0, vR (60, 0)), (3, vI x6), (4, vI (0 : Int32)), (5, vI (0 : Int32))] [] M7) ∧ (l2 = (4 : Int32) → (vp_in (x6 + (3 : Int32)) 366 ∧ post (M7.1 (111, 0) (x6 + (3 : Int32)).toNatClampNeg) M7)) ∧ (l2 = (5 : Int32) → (vp_in (x6 + (4 : Int32)) 366 ∧ post (M7.1 (111, 0) (x6 + (4 : Int32)).toNatClampNeg) M7)) ∧ (l2 = (6 : Int32) → (vp_in (x6 + (5 : Int32)) 366 ∧ post (M7.1 (111, 0) (x6 + (5 : Int32)).toNatClampNeg) M7)) ∧ (l2 = (7 : Int32) → (vp_in (x6 + (6 : Int32)) 366 ∧ post (M7.1 (111, 0) (x6 + (6 : Int32)).toNatClampNeg) M7)) ∧ (l2 = (8 : Int32) → (vp_in (x6 + (7 : Int32)) 366 ∧ post (M7.1 (111, 0) (x6 + (7 : Int32)).toNatClampNeg) M7)) ∧ (l2 = (9 : Int32) → (vp_in (x6 + (8 : Int32)) 366 ∧ post (M7.1 (111, 0) (x6 + (8 : Int32)).toNatClampNeg) M7)) ∧ (l2 = (10 : Int32) → (vp_in (x6 + (9 : Int32)) 366 ∧ post (M7.1 (111, 0) (x6 + (9 : Int32)).toNatClampNeg) M7)))) ∧ (x2 = 0 → eCI κ gM mtX11_fails d [vR (60, 0), vI (1 : Int32)] M3 (fun x22 M23 => post x22 M23))))) : eg_W κ gM mtX11_look d (eQI κ gM post) 0 [(0, vR (60, 0)), (1, vI l1), (2, vI l2)] [] M := by
  refine eg_aload_n 0 dX11_look_0 rfl rfl ?_
  refine eg_iconst dX11_look_1 ic_0 ?_
  refine en_putI dX11_look_2 fl_11_127 rfl rfl (obM_60 z1) (fun M1 eM1 => ?_)
  have h := h M1 eM1
  refine eg_aload_n 0 dX11_look_5 rfl rfl ?_
  refine eg_iload_n 1 dX11_look_6 rfl rfl ?_
  obtain ⟨q4, hq4, h⟩ := h
  refine eg_callVI (av := [vI l1]) (st := []) dX11_look_7 ml_11_472 rfl rfl (obM_60 z1) (by decide) rfl (Nat.le_of_ble_eq_true rfl) (eg_dd hd) hq4 (fun x2 M3 hp => ?_)
  have h := h x2 M3 hp
  refine eg_if_ne (tgt := 19) dX11_look_10 rfl (fun c5 => ?_) (fun c5 => ?_)
  · have h := h.1 c5
    refine eg_iload_n 1 dX11_look_19 rfl rfl ?_
    obtain ⟨q8, hq8, h⟩ := h
    refine eg_callSI (av := [vI l1]) (st := []) dX11_look_20 ml_11_372 rfl rfl (Nat.le_of_ble_eq_true rfl) (eg_dd hd) hq8 (fun x6 M7 hp => ?_)
    have h := h x6 M7 hp
    refine eg_istore_n dX11_look_23 rfl (by decide) (ls1 := [(3, vI x6), (0, vR (60, 0)), (1, vI l1), (2, vI l2)]) rfl ?_
    refine eg_iconst dX11_look_24 ic_0 ?_
    refine eg_istore dX11_look_25 (by decide) (ls1 := [(4, vI (0 : Int32)), (3, vI x6), (0, vR (60, 0)), (1, vI l1), (2, vI l2)]) rfl ?_
    refine eg_iload_n 4 dX11_look_27 rfl rfl ?_
    have J : (¬ l2 = (0 : Int32)) → (¬ l2 = (1 : Int32)) → (¬ l2 = (2 : Int32)) → (¬ l2 = (3 : Int32)) → (¬ l2 = (4 : Int32)) → (¬ l2 = (5 : Int32)) → (¬ l2 = (6 : Int32)) → (¬ l2 = (7 : Int32)) → (¬ l2 = (8 : Int32)) → (¬ l2 = (9 : Int32)) → (¬ l2 = (10 : Int32)) → eg_W κ gM mtX11_look d (eQI κ gM post) 215 [(4, vI (0 : Int32)), (3, vI x6), (0, vR (60, 0)), (1, vI l1), (2, vI l2)] [] M7 := by
      intro c0_ c1_ c2_ c3_ c4_ c5_ c6_ c7_ c8_ c9_ c10_
      have h := h.1 c0_ c1_ c2_ c3_ c4_ c5_ c6_ c7_ c8_ c9_ c10_
      refine eg_aload_n 2 dX11_look_215 rfl rfl ?_
      refine eg_iconst dX11_look_216 ic_2 ?_
      obtain ⟨q11, hq11, h⟩ := h
      refine eg_callVI (av := [vI (2 : Int32)]) (st := []) dX11_look_217 ml_11_475 rfl rfl (obM_60 z1) (by decide) rfl (Nat.le_of_ble_eq_true rfl) (eg_dd hd) hq11 (fun x9 M10 hp => ?_)
      have h := h x9 M10 hp
      exact eg_ireturn dX11_look_220 rfl h
    by_cases c0_ : l2 = (0 : Int32)
    · refine eg_tabI (tgt := 88) dX11_look_28 (by rw [c0_]; decide) (by rw [c0_]; decide) (off := 60) (by rw [c0_]; rfl) rfl ?_
      have h := h.2.1 c0_
      refine eg_aload_n 2 dX11_look_88 rfl rfl ?_
      refine eg_getR dX11_look_89 fl_11_72 rfl rfl (obM_60 z1) ?_
      show eg_W κ gM mtX11_look d (eQI κ gM post) 92 [(4, vI (0 : Int32)), (3, vI x6), (0, vR (60, 0)), (1, vI l1), (2, vI l2)] [vR (111, 0)] M7
      refine eg_iload_n 1 dX11_look_92 rfl rfl ?_
      obtain ⟨g12, h⟩ := h
      refine eg_iaload dX11_look_93 (arM_111 z1 g12) ?_
      exact eg_ireturn dX11_look_94 rfl h
    by_cases c1_ : l2 = (1 : Int32)
    · refine eg_tabI (tgt := 95) dX11_look_28 (by rw [c1_]; decide) (by rw [c1_]; decide) (off := 67) (by rw [c1_]; rfl) rfl ?_
      have h := h.2.2.1 c1_
      refine eg_aload_n 2 dX11_look_95 rfl rfl ?_
      refine eg_getR dX11_look_96 fl_11_72 rfl rfl (obM_60 z1) ?_
      show eg_W κ gM mtX11_look d (eQI κ gM post) 99 [(4, vI (0 : Int32)), (3, vI x6), (0, vR (60, 0)), (1, vI l1), (2, vI l2)] [vR (111, 0)] M7
      refine eg_iload_n 1 dX11_look_99 rfl rfl ?_
      refine eg_iconst dX11_look_100 ic_1 ?_
      refine eg_iadd dX11_look_101 ?_
      obtain ⟨g13, h⟩ := h
      refine eg_iaload dX11_look_102 (arM_111 z1 g13) ?_
      exact eg_ireturn dX11_look_103 rfl h
    by_cases c2_ : l2 = (2 : Int32)
    · refine eg_tabI (tgt := 104) dX11_look_28 (by rw [c2_]; decide) (by rw [c2_]; decide) (off := 76) (by rw [c2_]; rfl) rfl ?_
      have h := h.2.2.2.1 c2_
      refine eg_aload_n 2 dX11_look_104 rfl rfl ?_
      refine eg_getR dX11_look_105 fl_11_72 rfl rfl (obM_60 z1) ?_
      show eg_W κ gM mtX11_look d (eQI κ gM post) 108 [(4, vI (0 : Int32)), (3, vI x6), (0, vR (60, 0)), (1, vI l1), (2, vI l2)] [vR (111, 0)] M7
      refine eg_iload_n 1 dX11_look_108 rfl rfl ?_
      refine eg_iconst dX11_look_109 ic_2 ?_
      refine eg_iadd dX11_look_110 ?_
      obtain ⟨g14, h⟩ := h
      refine eg_iaload dX11_look_111 (arM_111 z1 g14) ?_
      exact eg_ireturn dX11_look_112 rfl h
    by_cases c3_ : l2 = (3 : Int32)
    · refine eg_tabI (tgt := 113) dX11_look_28 (by rw [c3_]; decide) (by rw [c3_]; decide) (off := 85) (by rw [c3_]; rfl) rfl ?_
      have h := h.2.2.2.2.1 c3_
      refine eg_iconst dX11_look_113 ic_0 ?_
      refine eg_istore dX11_look_114 (by decide) (ls1 := [(5, vI (0 : Int32)), (4, vI (0 : Int32)), (3, vI x6), (0, vR (60, 0)), (1, vI l1), (2, vI l2)]) rfl ?_
      refine eg_sub [3, 2, 1, 0] rfl ?_
      exact h
    by_cases c4_ : l2 = (4 : Int32)
    · refine eg_tabI (tgt := 148) dX11_look_28 (by rw [c4_]; decide) (by rw [c4_]; decide) (off := 120) (by rw [c4_]; rfl) rfl ?_
      have h := h.2.2.2.2.2.1 c4_
      refine eg_aload_n 2 dX11_look_148 rfl rfl ?_
      refine eg_getR dX11_look_149 fl_11_72 rfl rfl (obM_60 z1) ?_
      show eg_W κ gM mtX11_look d (eQI κ gM post) 152 [(4, vI (0 : Int32)), (3, vI x6), (0, vR (60, 0)), (1, vI l1), (2, vI l2)] [vR (111, 0)] M7
      refine eg_iload_n 1 dX11_look_152 rfl rfl ?_
      refine eg_iconst dX11_look_153 ic_3 ?_
      refine eg_iadd dX11_look_154 ?_
      obtain ⟨g15, h⟩ := h
      refine eg_iaload dX11_look_155 (arM_111 z1 g15) ?_
      exact eg_ireturn dX11_look_156 rfl h
    by_cases c5_ : l2 = (5 : Int32)
    · refine eg_tabI (tgt := 157) dX11_look_28 (by rw [c5_]; decide) (by rw [c5_]; decide) (off := 129) (by rw [c5_]; rfl) rfl ?_
      have h := h.2.2.2.2.2.2.1 c5_
      refine eg_aload_n 2 dX11_look_157 rfl rfl ?_
      refine eg_getR dX11_look_158 fl_11_72 rfl rfl (obM_60 z1) ?_
      show eg_W κ gM mtX11_look d (eQI κ gM post) 161 [(4, vI (0 : Int32)), (3, vI x6), (0, vR (60, 0)), (1, vI l1), (2, vI l2)] [vR (111, 0)] M7
      refine eg_iload_n 1 dX11_look_161 rfl rfl ?_
      refine eg_iconst dX11_look_162 ic_4 ?_
      refine eg_iadd dX11_look_163 ?_
      obtain ⟨g16, h⟩ := h
      refine eg_iaload dX11_look_164 (arM_111 z1 g16) ?_
      exact eg_ireturn dX11_look_165 rfl h
    by_cases c6_ : l2 = (6 : Int32)
    · refine eg_tabI (tgt := 166) dX11_look_28 (by rw [c6_]; decide) (by rw [c6_]; decide) (off := 138) (by rw [c6_]; rfl) rfl ?_
      have h := h.2.2.2.2.2.2.2.1 c6_
      refine eg_aload_n 2 dX11_look_166 rfl rfl ?_
      refine eg_getR dX11_look_167 fl_11_72 rfl rfl (obM_60 z1) ?_
      show eg_W κ gM mtX11_look d (eQI κ gM post) 170 [(4, vI (0 : Int32)), (3, vI x6), (0, vR (60, 0)), (1, vI l1), (2, vI l2)] [vR (111, 0)] M7
      refine eg_iload_n 1 dX11_look_170 rfl rfl ?_
      refine eg_iconst dX11_look_171 ic_5 ?_
      refine eg_iadd dX11_look_172 ?_
      obtain ⟨g17, h⟩ := h
      refine eg_iaload dX11_look_173 (arM_111 z1 g17) ?_
      exact eg_ireturn dX11_look_174 rfl h
    by_cases c7_ : l2 = (7 : Int32)
    · refine eg_tabI (tgt := 175) dX11_look_28 (by rw [c7_]; decide) (by rw [c7_]; decide) (off := 147) (by rw [c7_]; rfl) rfl ?_
      have h := h.2.2.2.2.2.2.2.2.1 c7_
      refine eg_aload_n 2 dX11_look_175 rfl rfl ?_
      refine eg_getR dX11_look_176 fl_11_72 rfl rfl (obM_60 z1) ?_
      show eg_W κ gM mtX11_look d (eQI κ gM post) 179 [(4, vI (0 : Int32)), (3, vI x6), (0, vR (60, 0)), (1, vI l1), (2, vI l2)] [vR (111, 0)] M7
      refine eg_iload_n 1 dX11_look_179 rfl rfl ?_
      refine eg_bipush dX11_look_180 bp_6 ?_
      refine eg_iadd dX11_look_182 ?_
      obtain ⟨g18, h⟩ := h
      refine eg_iaload dX11_look_183 (arM_111 z1 g18) ?_
      exact eg_ireturn dX11_look_184 rfl h
    by_cases c8_ : l2 = (8 : Int32)
    · refine eg_tabI (tgt := 185) dX11_look_28 (by rw [c8_]; decide) (by rw [c8_]; decide) (off := 157) (by rw [c8_]; rfl) rfl ?_
      have h := h.2.2.2.2.2.2.2.2.2.1 c8_
      refine eg_aload_n 2 dX11_look_185 rfl rfl ?_
      refine eg_getR dX11_look_186 fl_11_72 rfl rfl (obM_60 z1) ?_
      show eg_W κ gM mtX11_look d (eQI κ gM post) 189 [(4, vI (0 : Int32)), (3, vI x6), (0, vR (60, 0)), (1, vI l1), (2, vI l2)] [vR (111, 0)] M7
      refine eg_iload_n 1 dX11_look_189 rfl rfl ?_
      refine eg_bipush dX11_look_190 bp_7 ?_
      refine eg_iadd dX11_look_192 ?_
      obtain ⟨g19, h⟩ := h
      refine eg_iaload dX11_look_193 (arM_111 z1 g19) ?_
      exact eg_ireturn dX11_look_194 rfl h
    by_cases c9_ : l2 = (9 : Int32)
    · refine eg_tabI (tgt := 195) dX11_look_28 (by rw [c9_]; decide) (by rw [c9_]; decide) (off := 167) (by rw [c9_]; rfl) rfl ?_
      have h := h.2.2.2.2.2.2.2.2.2.2.1 c9_
      refine eg_aload_n 2 dX11_look_195 rfl rfl ?_
      refine eg_getR dX11_look_196 fl_11_72 rfl rfl (obM_60 z1) ?_
      show eg_W κ gM mtX11_look d (eQI κ gM post) 199 [(4, vI (0 : Int32)), (3, vI x6), (0, vR (60, 0)), (1, vI l1), (2, vI l2)] [vR (111, 0)] M7
      refine eg_iload_n 1 dX11_look_199 rfl rfl ?_
      refine eg_bipush dX11_look_200 bp_8 ?_
      refine eg_iadd dX11_look_202 ?_
      obtain ⟨g20, h⟩ := h
      refine eg_iaload dX11_look_203 (arM_111 z1 g20) ?_
      exact eg_ireturn dX11_look_204 rfl h
    by_cases c10_ : l2 = (10 : Int32)
    · refine eg_tabI (tgt := 205) dX11_look_28 (by rw [c10_]; decide) (by rw [c10_]; decide) (off := 177) (by rw [c10_]; rfl) rfl ?_
      have h := h.2.2.2.2.2.2.2.2.2.2.2 c10_
      refine eg_aload_n 2 dX11_look_205 rfl rfl ?_
      refine eg_getR dX11_look_206 fl_11_72 rfl rfl (obM_60 z1) ?_
      show eg_W κ gM mtX11_look d (eQI κ gM post) 209 [(4, vI (0 : Int32)), (3, vI x6), (0, vR (60, 0)), (1, vI l1), (2, vI l2)] [vR (111, 0)] M7
      refine eg_iload_n 1 dX11_look_209 rfl rfl ?_
      refine eg_bipush dX11_look_210 bp_9 ?_
      refine eg_iadd dX11_look_212 ?_
      obtain ⟨g21, h⟩ := h
      refine eg_iaload dX11_look_213 (arM_111 z1 g21) ?_
      exact eg_ireturn dX11_look_214 rfl h
    refine eg_tabO (tgt := 215) dX11_look_28 ?_ rfl (J c0_ c1_ c2_ c3_ c4_ c5_ c6_ c7_ c8_ c9_ c10_)
    have t0_ := eg_ti 0 (by decide) c0_
    have t1_ := eg_ti 1 (by decide) c1_
    have t2_ := eg_ti 2 (by decide) c2_
    have t3_ := eg_ti 3 (by decide) c3_
    have t4_ := eg_ti 4 (by decide) c4_
    have t5_ := eg_ti 5 (by decide) c5_
    have t6_ := eg_ti 6 (by decide) c6_
    have t7_ := eg_ti 7 (by decide) c7_
    have t8_ := eg_ti 8 (by decide) c8_
    have t9_ := eg_ti 9 (by decide) c9_
    have t10_ := eg_ti 10 (by decide) c10_
    omega
  · have h := h.2 c5
    refine eg_aload_n 0 dX11_look_13 rfl rfl ?_
    refine eg_iconst dX11_look_14 ic_1 ?_
    obtain ⟨q24, hq24, h⟩ := h
    refine eg_callVI (av := [vI (1 : Int32)]) (st := []) dX11_look_15 ml_11_475 rfl rfl (obM_60 z1) (by decide) rfl (Nat.le_of_ble_eq_true rfl) (eg_dd hd) hq24 (fun x22 M23 hp => ?_)
    have h := h x22 M23 hp
    exact eg_ireturn dX11_look_18 rfl h
set_option maxRecDepth 10000 in
theorem vX11_look_116 {κ : eg_K} {d : Nat} {post : Int32 → eg_H → Prop} (M : eg_H) (l3 : Int32) (l4 : Int32) (l5 : Int32) (h : ((5 : Int32) ≤ l5 → post l4 M) ∧ ((¬ (5 : Int32) ≤ l5) → (vp_in ((l3 + (14 : Int32)) + l5) 366 ∧ (∀ x3 : Int32, x3 = (l4 + (M.1 (111, 0) ((l3 + (14 : Int32)) + l5).toNatClampNeg)) → (∀ x4 : Int32, x4 = (l5 + (1 : Int32)) → eg_W κ gM mtX11_look d (eQI κ gM post) 116 [(0, vR (60, 0)), (3, vI l3), (4, vI x3), (5, vI x4)] [] M))))) : eg_W κ gM mtX11_look d (eQI κ gM post) 116 [(0, vR (60, 0)), (3, vI l3), (4, vI l4), (5, vI l5)] [] M := by
  refine eg_iload 3 dX11_look_116 rfl ?_
  refine eg_iconst dX11_look_118 ic_5 ?_
  refine eg_icmp_ge (tgt := 145) dX11_look_119 rfl (fun c1 => ?_) (fun c1 => ?_)
  · have h := h.1 c1
    refine eg_iload 2 dX11_look_145 rfl ?_
    exact eg_ireturn dX11_look_147 rfl h
  · have h := h.2 c1
    refine eg_iload 2 dX11_look_122 rfl ?_
    refine eg_aload_n 0 dX11_look_124 rfl rfl ?_
    refine eg_getR dX11_look_125 fl_11_72 rfl rfl (obM_60 z1) ?_
    show eg_W κ gM mtX11_look d (eQI κ gM post) 128 [(0, vR (60, 0)), (3, vI l3), (4, vI l4), (5, vI l5)] [vR (111, 0), vI l4] M
    refine eg_iload_n 1 dX11_look_128 rfl rfl ?_
    refine eg_bipush dX11_look_129 bp_14 ?_
    refine eg_iadd dX11_look_131 ?_
    refine eg_iload 3 dX11_look_132 rfl ?_
    refine eg_iadd dX11_look_134 ?_
    obtain ⟨g2, h⟩ := h
    refine eg_iaload dX11_look_135 (arM_111 z1 g2) ?_
    refine eg_iadd dX11_look_136 ?_
    refine en_istore (f := fun x3 => [(4, vI x3), (0, vR (60, 0)), (3, vI l3), (5, vI l5)]) dX11_look_137 (by decide) rfl (fun x3 ex3 => ?_)
    have h := h x3 ex3
    refine en_iinc (f := fun x4 => [(5, vI x4), (4, vI x3), (0, vR (60, 0)), (3, vI l3)]) 3 dX11_look_139 rfl rfl (by decide) rfl (fun x4 ex4 => ?_)
    have h := h x4 ex4
    refine eg_goto (tgt := 116) dX11_look_142 rfl ?_
    refine eg_sub [2, 3, 1, 0] rfl ?_
    exact h
theorem dX11_station_0 : decode cX11_station 0 = .ok (.aload_n 0, 1) := by decide +kernel
theorem dX11_station_1 : decode cX11_station 1 = .ok (.iconst 0, 1) := by decide +kernel
theorem dX11_station_2 : decode cX11_station 2 = .ok (.putfield 127, 3) := by decide +kernel
theorem dX11_station_5 : decode cX11_station 5 = .ok (.aload_n 0, 1) := by decide +kernel
theorem dX11_station_6 : decode cX11_station 6 = .ok (.iload_n 1, 1) := by decide +kernel
theorem dX11_station_7 : decode cX11_station 7 = .ok (.invokevirtual 478, 3) := by decide +kernel
theorem dX11_station_10 : decode cX11_station 10 = .ok (.ifCond .eq 13, 3) := by decide +kernel
theorem dX11_station_13 : decode cX11_station 13 = .ok (.iload_n 2, 1) := by decide +kernel
theorem dX11_station_14 : decode cX11_station 14 = .ok (.iconst 0, 1) := by decide +kernel
theorem dX11_station_15 : decode cX11_station 15 = .ok (.bipush 9, 2) := by decide +kernel
theorem dX11_station_17 : decode cX11_station 17 = .ok (.invokestatic 171, 3) := by decide +kernel
theorem dX11_station_20 : decode cX11_station 20 = .ok (.ifCond .ne 5, 3) := by decide +kernel
theorem dX11_station_23 : decode cX11_station 23 = .ok (.iconst (-1), 1) := by decide +kernel
theorem dX11_station_24 : decode cX11_station 24 = .ok (.ireturn, 1) := by decide +kernel
theorem dX11_station_25 : decode cX11_station 25 = .ok (.iload_n 2, 1) := by decide +kernel
theorem dX11_station_26 : decode cX11_station 26 = .ok (.iconst 2, 1) := by decide +kernel
theorem dX11_station_27 : decode cX11_station 27 = .ok (.if_icmp .ge 10, 3) := by decide +kernel
theorem dX11_station_30 : decode cX11_station 30 = .ok (.aload_n 0, 1) := by decide +kernel
theorem dX11_station_31 : decode cX11_station 31 = .ok (.iload_n 1, 1) := by decide +kernel
theorem dX11_station_32 : decode cX11_station 32 = .ok (.iload_n 2, 1) := by decide +kernel
theorem dX11_station_33 : decode cX11_station 33 = .ok (.invokevirtual 366, 3) := by decide +kernel
theorem dX11_station_36 : decode cX11_station 36 = .ok (.ireturn, 1) := by decide +kernel
theorem dX11_station_37 : decode cX11_station 37 = .ok (.iload_n 2, 1) := by decide +kernel
theorem dX11_station_38 : decode cX11_station 38 = .ok (.iconst 2, 1) := by decide +kernel
theorem dX11_station_39 : decode cX11_station 39 = .ok (.if_icmp .ne 25, 3) := by decide +kernel
theorem dX11_station_42 : decode cX11_station 42 = .ok (.aload_n 0, 1) := by decide +kernel
theorem dX11_station_43 : decode cX11_station 43 = .ok (.iload_n 1, 1) := by decide +kernel
theorem dX11_station_44 : decode cX11_station 44 = .ok (.invokevirtual 415, 3) := by decide +kernel
theorem dX11_station_47 : decode cX11_station 47 = .ok (.ifCond .eq 15, 3) := by decide +kernel
theorem dX11_station_50 : decode cX11_station 50 = .ok (.aload_n 0, 1) := by decide +kernel
theorem dX11_station_51 : decode cX11_station 51 = .ok (.getfield 72, 3) := by decide +kernel
theorem dX11_station_54 : decode cX11_station 54 = .ok (.iload_n 1, 1) := by decide +kernel
theorem dX11_station_55 : decode cX11_station 55 = .ok (.invokestatic 377, 3) := by decide +kernel
theorem dX11_station_58 : decode cX11_station 58 = .ok (.iaload, 1) := by decide +kernel
theorem dX11_station_59 : decode cX11_station 59 = .ok (.goto 4, 3) := by decide +kernel
theorem dX11_station_62 : decode cX11_station 62 = .ok (.iconst (-1), 1) := by decide +kernel
theorem dX11_station_63 : decode cX11_station 63 = .ok (.ireturn, 1) := by decide +kernel
theorem dX11_station_64 : decode cX11_station 64 = .ok (.iload_n 2, 1) := by decide +kernel
theorem dX11_station_65 : decode cX11_station 65 = .ok (.bipush 9, 2) := by decide +kernel
theorem dX11_station_67 : decode cX11_station 67 = .ok (.if_icmp .ge 17, 3) := by decide +kernel
theorem dX11_station_70 : decode cX11_station 70 = .ok (.aload_n 0, 1) := by decide +kernel
theorem dX11_station_71 : decode cX11_station 71 = .ok (.getfield 72, 3) := by decide +kernel
theorem dX11_station_74 : decode cX11_station 74 = .ok (.iload_n 1, 1) := by decide +kernel
theorem dX11_station_75 : decode cX11_station 75 = .ok (.invokestatic 377, 3) := by decide +kernel
theorem dX11_station_78 : decode cX11_station 78 = .ok (.iload_n 2, 1) := by decide +kernel
theorem dX11_station_79 : decode cX11_station 79 = .ok (.iadd, 1) := by decide +kernel
theorem dX11_station_80 : decode cX11_station 80 = .ok (.iconst 2, 1) := by decide +kernel
theorem dX11_station_81 : decode cX11_station 81 = .ok (.isub, 1) := by decide +kernel
theorem dX11_station_82 : decode cX11_station 82 = .ok (.iaload, 1) := by decide +kernel
theorem dX11_station_83 : decode cX11_station 83 = .ok (.ireturn, 1) := by decide +kernel
theorem dX11_station_84 : decode cX11_station 84 = .ok (.iconst 0, 1) := by decide +kernel
theorem dX11_station_85 : decode cX11_station 85 = .ok (.istore_n 3, 1) := by decide +kernel
theorem dX11_station_86 : decode cX11_station 86 = .ok (.aload_n 0, 1) := by decide +kernel
theorem dX11_station_87 : decode cX11_station 87 = .ok (.getfield 72, 3) := by decide +kernel
theorem dX11_station_90 : decode cX11_station 90 = .ok (.sipush 360, 3) := by decide +kernel
theorem dX11_station_93 : decode cX11_station 93 = .ok (.iload_n 3, 1) := by decide +kernel
theorem dX11_station_94 : decode cX11_station 94 = .ok (.iadd, 1) := by decide +kernel
theorem dX11_station_95 : decode cX11_station 95 = .ok (.iaload, 1) := by decide +kernel
theorem dX11_station_96 : decode cX11_station 96 = .ok (.iload_n 1, 1) := by decide +kernel
theorem dX11_station_97 : decode cX11_station 97 = .ok (.if_icmp .eq 9, 3) := by decide +kernel
theorem dX11_station_100 : decode cX11_station 100 = .ok (.iinc 3 1, 3) := by decide +kernel
theorem dX11_station_103 : decode cX11_station 103 = .ok (.goto (-17), 3) := by decide +kernel
theorem dX11_station_106 : decode cX11_station 106 = .ok (.iload_n 3, 1) := by decide +kernel
theorem dX11_station_107 : decode cX11_station 107 = .ok (.ireturn, 1) := by decide +kernel
set_option maxRecDepth 10000 in
theorem vX11_station_0 {κ : eg_K} {d : Nat} (hd : 1 ≤ d) {post : Int32 → eg_H → Prop} (M : eg_H) (l1 : Int32) (l2 : Int32) (h : (∀ M1 : eg_H, M1 = (sI M (60, 0) 2 (0 : Int32)) → eCI κ gM mtX11_isStation d [vR (60, 0), vI l1] M1 (fun x2 M3 => (x2 = 0 → post (-1 : Int32) M3) ∧ ((¬ x2 = 0) → eCI κ gM mtX11_isIn d [vI l2, vI (0 : Int32), vI (9 : Int32)] M3 (fun x6 M7 => ((¬ x6 = 0) → ((2 : Int32) ≤ l2 → ((¬ l2 = (2 : Int32)) → ((9 : Int32) ≤ l2 → eg_W κ gM mtX11_station d (eQI κ gM post) 86 [(0, vR (60, 0)), (1, vI l1), (3, vI (0 : Int32))] [] M7) ∧ ((¬ (9 : Int32) ≤ l2) → eCI κ gM mtX11_pan d [vI l1] M7 (fun x13 M14 => (vp_in ((x13 + l2) - (2 : Int32)) 366 ∧ post (M14.1 (111, 0) ((x13 + l2) - (2 : Int32)).toNatClampNeg) M14)))) ∧ (l2 = (2 : Int32) → eCI κ gM mtX11_hasPan d [vR (60, 0), vI l1] M7 (fun x17 M18 => (x17 = 0 → post (-1 : Int32) M18) ∧ ((¬ x17 = 0) → eCI κ gM mtX11_pan d [vI l1] M18 (fun x21 M22 => (vp_in x21 366 ∧ post (M22.1 (111, 0) x21.toNatClampNeg) M22)))))) ∧ ((¬ (2 : Int32) ≤ l2) → eCI κ gM mtX11_has d [vR (60, 0), vI l1, vI l2] M7 (fun x25 M26 => post x25 M26))) ∧ (x6 = 0 → post (-1 : Int32) M7)))))) : eg_W κ gM mtX11_station d (eQI κ gM post) 0 [(0, vR (60, 0)), (1, vI l1), (2, vI l2)] [] M := by
  refine eg_aload_n 0 dX11_station_0 rfl rfl ?_
  refine eg_iconst dX11_station_1 ic_0 ?_
  refine en_putI dX11_station_2 fl_11_127 rfl rfl (obM_60 z1) (fun M1 eM1 => ?_)
  have h := h M1 eM1
  refine eg_aload_n 0 dX11_station_5 rfl rfl ?_
  refine eg_iload_n 1 dX11_station_6 rfl rfl ?_
  obtain ⟨q4, hq4, h⟩ := h
  refine eg_callVI (av := [vI l1]) (st := []) dX11_station_7 ml_11_478 rfl rfl (obM_60 z1) (by decide) rfl (Nat.le_of_ble_eq_true rfl) (eg_dd hd) hq4 (fun x2 M3 hp => ?_)
  have h := h x2 M3 hp
  refine eg_if_eq (tgt := 23) dX11_station_10 rfl (fun c5 => ?_) (fun c5 => ?_)
  · have h := h.1 c5
    refine eg_iconst dX11_station_23 ic_m1 ?_
    exact eg_ireturn dX11_station_24 rfl h
  · have h := h.2 c5
    refine eg_iload_n 2 dX11_station_13 rfl rfl ?_
    refine eg_iconst dX11_station_14 ic_0 ?_
    refine eg_bipush dX11_station_15 bp_9 ?_
    obtain ⟨q8, hq8, h⟩ := h
    refine eg_callSI (av := [vI l2, vI (0 : Int32), vI (9 : Int32)]) (st := []) dX11_station_17 ml_11_171 rfl rfl (Nat.le_of_ble_eq_true rfl) (eg_dd hd) hq8 (fun x6 M7 hp => ?_)
    have h := h x6 M7 hp
    refine eg_if_ne (tgt := 25) dX11_station_20 rfl (fun c9 => ?_) (fun c9 => ?_)
    · have h := h.1 c9
      refine eg_iload_n 2 dX11_station_25 rfl rfl ?_
      refine eg_iconst dX11_station_26 ic_2 ?_
      refine eg_icmp_ge (tgt := 37) dX11_station_27 rfl (fun c10 => ?_) (fun c10 => ?_)
      · have h := h.1 c10
        refine eg_iload_n 2 dX11_station_37 rfl rfl ?_
        refine eg_iconst dX11_station_38 ic_2 ?_
        refine eg_icmp_ne (tgt := 64) dX11_station_39 rfl (fun c11 => ?_) (fun c11 => ?_)
        · have h := h.1 c11
          refine eg_iload_n 2 dX11_station_64 rfl rfl ?_
          refine eg_bipush dX11_station_65 bp_9 ?_
          refine eg_icmp_ge (tgt := 84) dX11_station_67 rfl (fun c12 => ?_) (fun c12 => ?_)
          · have h := h.1 c12
            refine eg_iconst dX11_station_84 ic_0 ?_
            refine eg_istore_n dX11_station_85 rfl (by decide) (ls1 := [(3, vI (0 : Int32)), (0, vR (60, 0)), (1, vI l1), (2, vI l2)]) rfl ?_
            refine eg_sub [1, 2, 0] rfl ?_
            exact h
          · have h := h.2 c12
            refine eg_aload_n 0 dX11_station_70 rfl rfl ?_
            refine eg_getR dX11_station_71 fl_11_72 rfl rfl (obM_60 z1) ?_
            show eg_W κ gM mtX11_station d (eQI κ gM post) 74 [(0, vR (60, 0)), (1, vI l1), (2, vI l2)] [vR (111, 0)] M7
            refine eg_iload_n 1 dX11_station_74 rfl rfl ?_
            obtain ⟨q15, hq15, h⟩ := h
            refine eg_callSI (av := [vI l1]) (st := [vR (111, 0)]) dX11_station_75 ml_11_377 rfl rfl (Nat.le_of_ble_eq_true rfl) (eg_dd hd) hq15 (fun x13 M14 hp => ?_)
            have h := h x13 M14 hp
            refine eg_iload_n 2 dX11_station_78 rfl rfl ?_
            refine eg_iadd dX11_station_79 ?_
            refine eg_iconst dX11_station_80 ic_2 ?_
            refine eg_isub dX11_station_81 ?_
            obtain ⟨g16, h⟩ := h
            refine eg_iaload dX11_station_82 (arM_111 z1 g16) ?_
            exact eg_ireturn dX11_station_83 rfl h
        · have h := h.2 c11
          refine eg_aload_n 0 dX11_station_42 rfl rfl ?_
          refine eg_iload_n 1 dX11_station_43 rfl rfl ?_
          obtain ⟨q19, hq19, h⟩ := h
          refine eg_callVI (av := [vI l1]) (st := []) dX11_station_44 ml_11_415 rfl rfl (obM_60 z1) (by decide) rfl (Nat.le_of_ble_eq_true rfl) (eg_dd hd) hq19 (fun x17 M18 hp => ?_)
          have h := h x17 M18 hp
          refine eg_if_eq (tgt := 62) dX11_station_47 rfl (fun c20 => ?_) (fun c20 => ?_)
          · have h := h.1 c20
            refine eg_iconst dX11_station_62 ic_m1 ?_
            exact eg_ireturn dX11_station_63 rfl h
          · have h := h.2 c20
            refine eg_aload_n 0 dX11_station_50 rfl rfl ?_
            refine eg_getR dX11_station_51 fl_11_72 rfl rfl (obM_60 z1) ?_
            show eg_W κ gM mtX11_station d (eQI κ gM post) 54 [(0, vR (60, 0)), (1, vI l1), (2, vI l2)] [vR (111, 0)] M18
            refine eg_iload_n 1 dX11_station_54 rfl rfl ?_
            obtain ⟨q23, hq23, h⟩ := h
            refine eg_callSI (av := [vI l1]) (st := [vR (111, 0)]) dX11_station_55 ml_11_377 rfl rfl (Nat.le_of_ble_eq_true rfl) (eg_dd hd) hq23 (fun x21 M22 hp => ?_)
            have h := h x21 M22 hp
            obtain ⟨g24, h⟩ := h
            refine eg_iaload dX11_station_58 (arM_111 z1 g24) ?_
            refine eg_goto (tgt := 63) dX11_station_59 rfl ?_
            exact eg_ireturn dX11_station_63 rfl h
      · have h := h.2 c10
        refine eg_aload_n 0 dX11_station_30 rfl rfl ?_
        refine eg_iload_n 1 dX11_station_31 rfl rfl ?_
        refine eg_iload_n 2 dX11_station_32 rfl rfl ?_
        obtain ⟨q27, hq27, h⟩ := h
        refine eg_callVI (av := [vI l1, vI l2]) (st := []) dX11_station_33 ml_11_366 rfl rfl (obM_60 z1) (by decide) rfl (Nat.le_of_ble_eq_true rfl) (eg_dd hd) hq27 (fun x25 M26 hp => ?_)
        have h := h x25 M26 hp
        exact eg_ireturn dX11_station_36 rfl h
    · have h := h.2 c9
      refine eg_iconst dX11_station_23 ic_m1 ?_
      exact eg_ireturn dX11_station_24 rfl h
set_option maxRecDepth 10000 in
theorem vX11_station_86 {κ : eg_K} {d : Nat} {post : Int32 → eg_H → Prop} (M : eg_H) (l1 : Int32) (l3 : Int32) (h : (vp_in ((360 : Int32) + l3) 366 ∧ ((M.1 (111, 0) ((360 : Int32) + l3).toNatClampNeg) = l1 → post l3 M) ∧ ((¬ (M.1 (111, 0) ((360 : Int32) + l3).toNatClampNeg) = l1) → (∀ x3 : Int32, x3 = (l3 + (1 : Int32)) → eg_W κ gM mtX11_station d (eQI κ gM post) 86 [(0, vR (60, 0)), (1, vI l1), (3, vI x3)] [] M)))) : eg_W κ gM mtX11_station d (eQI κ gM post) 86 [(0, vR (60, 0)), (1, vI l1), (3, vI l3)] [] M := by
  refine eg_aload_n 0 dX11_station_86 rfl rfl ?_
  refine eg_getR dX11_station_87 fl_11_72 rfl rfl (obM_60 z1) ?_
  show eg_W κ gM mtX11_station d (eQI κ gM post) 90 [(0, vR (60, 0)), (1, vI l1), (3, vI l3)] [vR (111, 0)] M
  refine eg_sipush dX11_station_90 sp_360 ?_
  refine eg_iload_n 2 dX11_station_93 rfl rfl ?_
  refine eg_iadd dX11_station_94 ?_
  obtain ⟨g1, h⟩ := h
  refine eg_iaload dX11_station_95 (arM_111 z1 g1) ?_
  refine eg_iload_n 1 dX11_station_96 rfl rfl ?_
  refine eg_icmp_eq (tgt := 106) dX11_station_97 rfl (fun c2 => ?_) (fun c2 => ?_)
  · have h := h.1 c2
    refine eg_iload_n 2 dX11_station_106 rfl rfl ?_
    exact eg_ireturn dX11_station_107 rfl h
  · have h := h.2 c2
    refine en_iinc (f := fun x3 => [(3, vI x3), (0, vR (60, 0)), (1, vI l1)]) 2 dX11_station_100 rfl rfl (by decide) rfl (fun x3 ex3 => ?_)
    have h := h x3 ex3
    refine eg_goto (tgt := 86) dX11_station_103 rfl ?_
    refine eg_sub [1, 2, 0] rfl ?_
    exact h
theorem dX11_row_0 : decode cX11_row 0 = .ok (.aload_n 0, 1) := by decide +kernel
theorem dX11_row_1 : decode cX11_row 1 = .ok (.iconst 0, 1) := by decide +kernel
theorem dX11_row_2 : decode cX11_row 2 = .ok (.putfield 127, 3) := by decide +kernel
theorem dX11_row_5 : decode cX11_row 5 = .ok (.aload_n 0, 1) := by decide +kernel
theorem dX11_row_6 : decode cX11_row 6 = .ok (.iload_n 1, 1) := by decide +kernel
theorem dX11_row_7 : decode cX11_row 7 = .ok (.invokevirtual 478, 3) := by decide +kernel
theorem dX11_row_10 : decode cX11_row 10 = .ok (.ifCond .eq 16, 3) := by decide +kernel
theorem dX11_row_13 : decode cX11_row 13 = .ok (.aload_n 0, 1) := by decide +kernel
theorem dX11_row_14 : decode cX11_row 14 = .ok (.getfield 72, 3) := by decide +kernel
theorem dX11_row_17 : decode cX11_row 17 = .ok (.sipush 360, 3) := by decide +kernel
theorem dX11_row_20 : decode cX11_row 20 = .ok (.iload_n 1, 1) := by decide +kernel
theorem dX11_row_21 : decode cX11_row 21 = .ok (.iadd, 1) := by decide +kernel
theorem dX11_row_22 : decode cX11_row 22 = .ok (.iaload, 1) := by decide +kernel
theorem dX11_row_23 : decode cX11_row 23 = .ok (.goto 4, 3) := by decide +kernel
theorem dX11_row_26 : decode cX11_row 26 = .ok (.iconst (-1), 1) := by decide +kernel
theorem dX11_row_27 : decode cX11_row 27 = .ok (.ireturn, 1) := by decide +kernel
set_option maxRecDepth 10000 in
theorem vX11_row_0 {κ : eg_K} {d : Nat} (hd : 1 ≤ d) {post : Int32 → eg_H → Prop} (M : eg_H) (l1 : Int32) (h : (∀ M1 : eg_H, M1 = (sI M (60, 0) 2 (0 : Int32)) → eCI κ gM mtX11_isStation d [vR (60, 0), vI l1] M1 (fun x2 M3 => (((¬ x2 = 0) → vp_in ((360 : Int32) + l1) 366) ∧ (∀ x6 : Int32, x6 = ((if x2 = 0 then (-1 : Int32) else (M3.1 (111, 0) ((360 : Int32) + l1).toNatClampNeg))) → post x6 M3))))) : eg_W κ gM mtX11_row d (eQI κ gM post) 0 [(0, vR (60, 0)), (1, vI l1)] [] M := by
  refine eg_aload_n 0 dX11_row_0 rfl rfl ?_
  refine eg_iconst dX11_row_1 ic_0 ?_
  refine en_putI dX11_row_2 fl_11_127 rfl rfl (obM_60 z1) (fun M1 eM1 => ?_)
  have h := h M1 eM1
  refine eg_aload_n 0 dX11_row_5 rfl rfl ?_
  refine eg_iload_n 1 dX11_row_6 rfl rfl ?_
  obtain ⟨q4, hq4, h⟩ := h
  refine eg_callVI (av := [vI l1]) (st := []) dX11_row_7 ml_11_478 rfl rfl (obM_60 z1) (by decide) rfl (Nat.le_of_ble_eq_true rfl) (eg_dd hd) hq4 (fun x2 M3 hp => ?_)
  have h := h x2 M3 hp
  obtain ⟨g5, h⟩ := h
  have J : ∀ x6 : Int32, x6 = (if x2 = 0 then (-1 : Int32) else (M3.1 (111, 0) ((360 : Int32) + l1).toNatClampNeg)) → eg_W κ gM mtX11_row d (eQI κ gM post) 27 [(0, vR (60, 0)), (1, vI l1)] [vI x6] M3 := by
    intro x6 ex6
    have h := h x6 ex6
    exact eg_ireturn dX11_row_27 rfl h
  clear h
  refine eg_if_eq (tgt := 26) dX11_row_10 rfl (fun c7 => ?_) (fun c7 => ?_)
  · refine eg_iconst dX11_row_26 ic_m1 ?_
    exact J _ (by rw [if_pos c7])
  · refine eg_aload_n 0 dX11_row_13 rfl rfl ?_
    refine eg_getR dX11_row_14 fl_11_72 rfl rfl (obM_60 z1) ?_
    show eg_W κ gM mtX11_row d (eQI κ gM post) 17 [(0, vR (60, 0)), (1, vI l1)] [vR (111, 0)] M3
    refine eg_sipush dX11_row_17 sp_360 ?_
    refine eg_iload_n 1 dX11_row_20 rfl rfl ?_
    refine eg_iadd dX11_row_21 ?_
    refine eg_iaload dX11_row_22 (arM_111 z1 (g5 (show (¬ x2 = 0) from by first | exact c7 | exact Classical.not_not.mp c7))) ?_
    refine eg_goto (tgt := 27) dX11_row_23 rfl ?_
    exact J _ (by rw [if_neg c7])
theorem dX11_line_0 : decode cX11_line 0 = .ok (.aload_n 0, 1) := by decide +kernel
theorem dX11_line_1 : decode cX11_line 1 = .ok (.iconst 0, 1) := by decide +kernel
theorem dX11_line_2 : decode cX11_line 2 = .ok (.putfield 127, 3) := by decide +kernel
theorem dX11_line_5 : decode cX11_line 5 = .ok (.iload_n 1, 1) := by decide +kernel
theorem dX11_line_6 : decode cX11_line 6 = .ok (.ifCond .lt 24, 3) := by decide +kernel
theorem dX11_line_9 : decode cX11_line 9 = .ok (.iload_n 1, 1) := by decide +kernel
theorem dX11_line_10 : decode cX11_line 10 = .ok (.aload_n 0, 1) := by decide +kernel
theorem dX11_line_11 : decode cX11_line 11 = .ok (.getfield 72, 3) := by decide +kernel
theorem dX11_line_14 : decode cX11_line 14 = .ok (.iconst 1, 1) := by decide +kernel
theorem dX11_line_15 : decode cX11_line 15 = .ok (.iaload, 1) := by decide +kernel
theorem dX11_line_16 : decode cX11_line 16 = .ok (.if_icmp .ge 14, 3) := by decide +kernel
theorem dX11_line_19 : decode cX11_line 19 = .ok (.aload_n 0, 1) := by decide +kernel
theorem dX11_line_20 : decode cX11_line 20 = .ok (.getfield 72, 3) := by decide +kernel
theorem dX11_line_23 : decode cX11_line 23 = .ok (.iconst 2, 1) := by decide +kernel
theorem dX11_line_24 : decode cX11_line 24 = .ok (.iload_n 1, 1) := by decide +kernel
theorem dX11_line_25 : decode cX11_line 25 = .ok (.iadd, 1) := by decide +kernel
theorem dX11_line_26 : decode cX11_line 26 = .ok (.iaload, 1) := by decide +kernel
theorem dX11_line_27 : decode cX11_line 27 = .ok (.goto 4, 3) := by decide +kernel
theorem dX11_line_30 : decode cX11_line 30 = .ok (.iconst (-1), 1) := by decide +kernel
theorem dX11_line_31 : decode cX11_line 31 = .ok (.ireturn, 1) := by decide +kernel
set_option maxRecDepth 10000 in
theorem vX11_line_0 {κ : eg_K} {d : Nat} {post : Int32 → eg_H → Prop} (M : eg_H) (l1 : Int32) (h : (∀ M1 : eg_H, M1 = (sI M (60, 0) 2 (0 : Int32)) → (((¬ l1 < 0) → vp_in (1 : Int32) 366) ∧ (((¬ l1 < 0) → (¬ (M1.1 (111, 0) (1 : Int32).toNatClampNeg) ≤ l1) → vp_in ((2 : Int32) + l1) 366) ∧ (∀ x4 : Int32, x4 = ((if l1 < 0 then (-1 : Int32) else (if (M1.1 (111, 0) (1 : Int32).toNatClampNeg) ≤ l1 then (-1 : Int32) else (M1.1 (111, 0) ((2 : Int32) + l1).toNatClampNeg)))) → post x4 M1))))) : eg_W κ gM mtX11_line d (eQI κ gM post) 0 [(0, vR (60, 0)), (1, vI l1)] [] M := by
  refine eg_aload_n 0 dX11_line_0 rfl rfl ?_
  refine eg_iconst dX11_line_1 ic_0 ?_
  refine en_putI dX11_line_2 fl_11_127 rfl rfl (obM_60 z1) (fun M1 eM1 => ?_)
  have h := h M1 eM1
  refine eg_iload_n 1 dX11_line_5 rfl rfl ?_
  obtain ⟨g2, h⟩ := h
  obtain ⟨g3, h⟩ := h
  have J : ∀ x4 : Int32, x4 = (if l1 < 0 then (-1 : Int32) else (if (M1.1 (111, 0) (1 : Int32).toNatClampNeg) ≤ l1 then (-1 : Int32) else (M1.1 (111, 0) ((2 : Int32) + l1).toNatClampNeg))) → eg_W κ gM mtX11_line d (eQI κ gM post) 31 [(0, vR (60, 0)), (1, vI l1)] [vI x4] M1 := by
    intro x4 ex4
    have h := h x4 ex4
    exact eg_ireturn dX11_line_31 rfl h
  clear h
  refine eg_if_lt (tgt := 30) dX11_line_6 rfl (fun c5 => ?_) (fun c5 => ?_)
  · refine eg_iconst dX11_line_30 ic_m1 ?_
    exact J _ (by rw [if_pos c5])
  · refine eg_iload_n 1 dX11_line_9 rfl rfl ?_
    refine eg_aload_n 0 dX11_line_10 rfl rfl ?_
    refine eg_getR dX11_line_11 fl_11_72 rfl rfl (obM_60 z1) ?_
    show eg_W κ gM mtX11_line d (eQI κ gM post) 14 [(0, vR (60, 0)), (1, vI l1)] [vR (111, 0), vI l1] M1
    refine eg_iconst dX11_line_14 ic_1 ?_
    refine eg_iaload dX11_line_15 (arM_111 z1 (g2 (show (¬ l1 < 0) from by first | exact c5 | exact Classical.not_not.mp c5))) ?_
    refine eg_icmp_ge (tgt := 30) dX11_line_16 rfl (fun c6 => ?_) (fun c6 => ?_)
    · refine eg_iconst dX11_line_30 ic_m1 ?_
      exact J _ (by rw [if_neg c5, if_pos c6])
    · refine eg_aload_n 0 dX11_line_19 rfl rfl ?_
      refine eg_getR dX11_line_20 fl_11_72 rfl rfl (obM_60 z1) ?_
      show eg_W κ gM mtX11_line d (eQI κ gM post) 23 [(0, vR (60, 0)), (1, vI l1)] [vR (111, 0)] M1
      refine eg_iconst dX11_line_23 ic_2 ?_
      refine eg_iload_n 1 dX11_line_24 rfl rfl ?_
      refine eg_iadd dX11_line_25 ?_
      refine eg_iaload dX11_line_26 (arM_111 z1 (g3 (show (¬ l1 < 0) from by first | exact c5 | exact Classical.not_not.mp c5) (show (¬ (M1.1 (111, 0) (1 : Int32).toNatClampNeg) ≤ l1) from by first | exact c6 | exact Classical.not_not.mp c6))) ?_
      refine eg_goto (tgt := 31) dX11_line_27 rfl ?_
      exact J _ (by rw [if_neg c5, if_neg c6])
theorem dX11_seconds_0 : decode cX11_seconds 0 = .ok (.aload_n 0, 1) := by decide +kernel
theorem dX11_seconds_1 : decode cX11_seconds 1 = .ok (.iconst 0, 1) := by decide +kernel
theorem dX11_seconds_2 : decode cX11_seconds 2 = .ok (.putfield 127, 3) := by decide +kernel
theorem dX11_seconds_5 : decode cX11_seconds 5 = .ok (.iload_n 1, 1) := by decide +kernel
theorem dX11_seconds_6 : decode cX11_seconds 6 = .ok (.iconst 0, 1) := by decide +kernel
theorem dX11_seconds_7 : decode cX11_seconds 7 = .ok (.sipush 900, 3) := by decide +kernel
theorem dX11_seconds_10 : decode cX11_seconds 10 = .ok (.invokestatic 171, 3) := by decide +kernel
theorem dX11_seconds_13 : decode cX11_seconds 13 = .ok (.ifCond .eq 17, 3) := by decide +kernel
theorem dX11_seconds_16 : decode cX11_seconds 16 = .ok (.aload_n 0, 1) := by decide +kernel
theorem dX11_seconds_17 : decode cX11_seconds 17 = .ok (.getfield 72, 3) := by decide +kernel
theorem dX11_seconds_20 : decode cX11_seconds 20 = .ok (.iconst 0, 1) := by decide +kernel
theorem dX11_seconds_21 : decode cX11_seconds 21 = .ok (.iaload, 1) := by decide +kernel
theorem dX11_seconds_22 : decode cX11_seconds 22 = .ok (.iload_n 1, 1) := by decide +kernel
theorem dX11_seconds_23 : decode cX11_seconds 23 = .ok (.iadd, 1) := by decide +kernel
theorem dX11_seconds_24 : decode cX11_seconds 24 = .ok (.sipush 3600, 3) := by decide +kernel
theorem dX11_seconds_27 : decode cX11_seconds 27 = .ok (.if_icmp .le 5, 3) := by decide +kernel
theorem dX11_seconds_30 : decode cX11_seconds 30 = .ok (.iconst (-1), 1) := by decide +kernel
theorem dX11_seconds_31 : decode cX11_seconds 31 = .ok (.ireturn, 1) := by decide +kernel
theorem dX11_seconds_32 : decode cX11_seconds 32 = .ok (.iload_n 1, 1) := by decide +kernel
theorem dX11_seconds_33 : decode cX11_seconds 33 = .ok (.ifCond .le 8, 3) := by decide +kernel
theorem dX11_seconds_36 : decode cX11_seconds 36 = .ok (.aload_n 0, 1) := by decide +kernel
theorem dX11_seconds_37 : decode cX11_seconds 37 = .ok (.iconst 0, 1) := by decide +kernel
theorem dX11_seconds_38 : decode cX11_seconds 38 = .ok (.putfield 237, 3) := by decide +kernel
theorem dX11_seconds_41 : decode cX11_seconds 41 = .ok (.aload_n 0, 1) := by decide +kernel
theorem dX11_seconds_42 : decode cX11_seconds 42 = .ok (.invokevirtual 243, 3) := by decide +kernel
theorem dX11_seconds_45 : decode cX11_seconds 45 = .ok (.aload_n 0, 1) := by decide +kernel
theorem dX11_seconds_46 : decode cX11_seconds 46 = .ok (.getfield 69, 3) := by decide +kernel
theorem dX11_seconds_49 : decode cX11_seconds 49 = .ok (.aload_n 0, 1) := by decide +kernel
theorem dX11_seconds_50 : decode cX11_seconds 50 = .ok (.getfield 72, 3) := by decide +kernel
theorem dX11_seconds_53 : decode cX11_seconds 53 = .ok (.invokestatic 249, 3) := by decide +kernel
theorem dX11_seconds_56 : decode cX11_seconds 56 = .ok (.iconst 0, 1) := by decide +kernel
theorem dX11_seconds_57 : decode cX11_seconds 57 = .ok (.istore_n 2, 1) := by decide +kernel
theorem dX11_seconds_58 : decode cX11_seconds 58 = .ok (.iload_n 2, 1) := by decide +kernel
theorem dX11_seconds_59 : decode cX11_seconds 59 = .ok (.iload_n 1, 1) := by decide +kernel
theorem dX11_seconds_60 : decode cX11_seconds 60 = .ok (.if_icmp .ge 13, 3) := by decide +kernel
theorem dX11_seconds_63 : decode cX11_seconds 63 = .ok (.aload_n 0, 1) := by decide +kernel
theorem dX11_seconds_64 : decode cX11_seconds 64 = .ok (.invokevirtual 468, 3) := by decide +kernel
theorem dX11_seconds_67 : decode cX11_seconds 67 = .ok (.iinc 2 1, 3) := by decide +kernel
theorem dX11_seconds_70 : decode cX11_seconds 70 = .ok (.goto (-12), 3) := by decide +kernel
theorem dX11_seconds_73 : decode cX11_seconds 73 = .ok (.aload_n 0, 1) := by decide +kernel
theorem dX11_seconds_74 : decode cX11_seconds 74 = .ok (.getfield 72, 3) := by decide +kernel
theorem dX11_seconds_77 : decode cX11_seconds 77 = .ok (.aload_n 0, 1) := by decide +kernel
theorem dX11_seconds_78 : decode cX11_seconds 78 = .ok (.getfield 69, 3) := by decide +kernel
theorem dX11_seconds_81 : decode cX11_seconds 81 = .ok (.invokestatic 249, 3) := by decide +kernel
theorem dX11_seconds_84 : decode cX11_seconds 84 = .ok (.aload_n 0, 1) := by decide +kernel
theorem dX11_seconds_85 : decode cX11_seconds 85 = .ok (.getfield 72, 3) := by decide +kernel
theorem dX11_seconds_88 : decode cX11_seconds 88 = .ok (.iconst 0, 1) := by decide +kernel
theorem dX11_seconds_89 : decode cX11_seconds 89 = .ok (.iaload, 1) := by decide +kernel
theorem dX11_seconds_90 : decode cX11_seconds 90 = .ok (.ireturn, 1) := by decide +kernel
set_option maxRecDepth 10000 in
theorem vX11_seconds_0 {κ : eg_K} {d : Nat} (hd : 1 ≤ d) {post : Int32 → eg_H → Prop} (M : eg_H) (l1 : Int32) (h : (∀ M1 : eg_H, M1 = (sI M (60, 0) 2 (0 : Int32)) → eCI κ gM mtX11_isIn d [vI l1, vI (0 : Int32), vI (900 : Int32)] M1 (fun x2 M3 => (x2 = 0 → post (-1 : Int32) M3) ∧ ((¬ x2 = 0) → (vp_in (0 : Int32) 366 ∧ (((M3.1 (111, 0) (0 : Int32).toNatClampNeg) + l1) ≤ (3600 : Int32) → (l1 ≤ 0 → eCV κ gM mtX11_clears d [vR (60, 0)] M3 (fun M9 => eCV κ gM mtX11_lays d [vR (110, 0), vR (111, 0)] M9 (fun M11 => eg_W κ gM mtX11_seconds d (eQI κ gM post) 58 [(0, vR (60, 0)), (1, vI l1), (2, vI (0 : Int32))] [] M11))) ∧ ((¬ l1 ≤ 0) → (∀ M13 : eg_H, M13 = (sI M3 (60, 0) 69 (0 : Int32)) → eCV κ gM mtX11_clears d [vR (60, 0)] M13 (fun M14 => eCV κ gM mtX11_lays d [vR (110, 0), vR (111, 0)] M14 (fun M16 => eg_W κ gM mtX11_seconds d (eQI κ gM post) 58 [(0, vR (60, 0)), (1, vI l1), (2, vI (0 : Int32))] [] M16))))) ∧ ((¬ ((M3.1 (111, 0) (0 : Int32).toNatClampNeg) + l1) ≤ (3600 : Int32)) → post (-1 : Int32) M3)))))) : eg_W κ gM mtX11_seconds d (eQI κ gM post) 0 [(0, vR (60, 0)), (1, vI l1)] [] M := by
  refine eg_aload_n 0 dX11_seconds_0 rfl rfl ?_
  refine eg_iconst dX11_seconds_1 ic_0 ?_
  refine en_putI dX11_seconds_2 fl_11_127 rfl rfl (obM_60 z1) (fun M1 eM1 => ?_)
  have h := h M1 eM1
  refine eg_iload_n 1 dX11_seconds_5 rfl rfl ?_
  refine eg_iconst dX11_seconds_6 ic_0 ?_
  refine eg_sipush dX11_seconds_7 sp_900 ?_
  obtain ⟨q4, hq4, h⟩ := h
  refine eg_callSI (av := [vI l1, vI (0 : Int32), vI (900 : Int32)]) (st := []) dX11_seconds_10 ml_11_171 rfl rfl (Nat.le_of_ble_eq_true rfl) (eg_dd hd) hq4 (fun x2 M3 hp => ?_)
  have h := h x2 M3 hp
  refine eg_if_eq (tgt := 30) dX11_seconds_13 rfl (fun c5 => ?_) (fun c5 => ?_)
  · have h := h.1 c5
    refine eg_iconst dX11_seconds_30 ic_m1 ?_
    exact eg_ireturn dX11_seconds_31 rfl h
  · have h := h.2 c5
    refine eg_aload_n 0 dX11_seconds_16 rfl rfl ?_
    refine eg_getR dX11_seconds_17 fl_11_72 rfl rfl (obM_60 z1) ?_
    show eg_W κ gM mtX11_seconds d (eQI κ gM post) 20 [(0, vR (60, 0)), (1, vI l1)] [vR (111, 0)] M3
    refine eg_iconst dX11_seconds_20 ic_0 ?_
    obtain ⟨g6, h⟩ := h
    refine eg_iaload dX11_seconds_21 (arM_111 z1 g6) ?_
    refine eg_iload_n 1 dX11_seconds_22 rfl rfl ?_
    refine eg_iadd dX11_seconds_23 ?_
    refine eg_sipush dX11_seconds_24 sp_3600 ?_
    refine eg_icmp_le (tgt := 32) dX11_seconds_27 rfl (fun c7 => ?_) (fun c7 => ?_)
    · have h := h.1 c7
      refine eg_iload_n 1 dX11_seconds_32 rfl rfl ?_
      refine eg_if_le (tgt := 41) dX11_seconds_33 rfl (fun c8 => ?_) (fun c8 => ?_)
      · have h := h.1 c8
        refine eg_aload_n 0 dX11_seconds_41 rfl rfl ?_
        obtain ⟨q10, hq10, h⟩ := h
        refine eg_callVV (av := []) (st := []) dX11_seconds_42 ml_11_243 rfl rfl (obM_60 z1) (by decide) rfl (Nat.le_of_ble_eq_true rfl) (eg_dd hd) hq10 (fun M9 hp => ?_)
        have h := h M9 hp
        refine eg_aload_n 0 dX11_seconds_45 rfl rfl ?_
        refine eg_getR dX11_seconds_46 fl_11_69 rfl rfl (obM_60 z1) ?_
        show eg_W κ gM mtX11_seconds d (eQI κ gM post) 49 [(0, vR (60, 0)), (1, vI l1)] [vR (110, 0)] M9
        refine eg_aload_n 0 dX11_seconds_49 rfl rfl ?_
        refine eg_getR dX11_seconds_50 fl_11_72 rfl rfl (obM_60 z1) ?_
        show eg_W κ gM mtX11_seconds d (eQI κ gM post) 53 [(0, vR (60, 0)), (1, vI l1)] [vR (111, 0), vR (110, 0)] M9
        obtain ⟨q12, hq12, h⟩ := h
        refine eg_callSV (av := [vR (110, 0), vR (111, 0)]) (st := []) dX11_seconds_53 ml_11_249 rfl rfl (Nat.le_of_ble_eq_true rfl) (eg_dd hd) hq12 (fun M11 hp => ?_)
        have h := h M11 hp
        refine eg_iconst dX11_seconds_56 ic_0 ?_
        refine eg_istore_n dX11_seconds_57 rfl (by decide) (ls1 := [(2, vI (0 : Int32)), (0, vR (60, 0)), (1, vI l1)]) rfl ?_
        refine eg_sub [1, 2, 0] rfl ?_
        exact h
      · have h := h.2 c8
        refine eg_aload_n 0 dX11_seconds_36 rfl rfl ?_
        refine eg_iconst dX11_seconds_37 ic_0 ?_
        refine en_putI dX11_seconds_38 fl_11_237 rfl rfl (obM_60 z1) (fun M13 eM13 => ?_)
        have h := h M13 eM13
        refine eg_aload_n 0 dX11_seconds_41 rfl rfl ?_
        obtain ⟨q15, hq15, h⟩ := h
        refine eg_callVV (av := []) (st := []) dX11_seconds_42 ml_11_243 rfl rfl (obM_60 z1) (by decide) rfl (Nat.le_of_ble_eq_true rfl) (eg_dd hd) hq15 (fun M14 hp => ?_)
        have h := h M14 hp
        refine eg_aload_n 0 dX11_seconds_45 rfl rfl ?_
        refine eg_getR dX11_seconds_46 fl_11_69 rfl rfl (obM_60 z1) ?_
        show eg_W κ gM mtX11_seconds d (eQI κ gM post) 49 [(0, vR (60, 0)), (1, vI l1)] [vR (110, 0)] M14
        refine eg_aload_n 0 dX11_seconds_49 rfl rfl ?_
        refine eg_getR dX11_seconds_50 fl_11_72 rfl rfl (obM_60 z1) ?_
        show eg_W κ gM mtX11_seconds d (eQI κ gM post) 53 [(0, vR (60, 0)), (1, vI l1)] [vR (111, 0), vR (110, 0)] M14
        obtain ⟨q17, hq17, h⟩ := h
        refine eg_callSV (av := [vR (110, 0), vR (111, 0)]) (st := []) dX11_seconds_53 ml_11_249 rfl rfl (Nat.le_of_ble_eq_true rfl) (eg_dd hd) hq17 (fun M16 hp => ?_)
        have h := h M16 hp
        refine eg_iconst dX11_seconds_56 ic_0 ?_
        refine eg_istore_n dX11_seconds_57 rfl (by decide) (ls1 := [(2, vI (0 : Int32)), (0, vR (60, 0)), (1, vI l1)]) rfl ?_
        refine eg_sub [1, 2, 0] rfl ?_
        exact h
    · have h := h.2 c7
      refine eg_iconst dX11_seconds_30 ic_m1 ?_
      exact eg_ireturn dX11_seconds_31 rfl h
set_option maxRecDepth 10000 in
theorem vX11_seconds_58 {κ : eg_K} {d : Nat} (hd : 1 ≤ d) {post : Int32 → eg_H → Prop} (M : eg_H) (l1 : Int32) (l2 : Int32) (h : (l1 ≤ l2 → eCV κ gM mtX11_lays d [vR (111, 0), vR (110, 0)] M (fun M2 => (vp_in (0 : Int32) 366 ∧ post (M2.1 (111, 0) (0 : Int32).toNatClampNeg) M2))) ∧ ((¬ l1 ≤ l2) → eCV κ gM mtX11_second d [vR (60, 0)] M (fun M5 => (∀ x7 : Int32, x7 = (l2 + (1 : Int32)) → eg_W κ gM mtX11_seconds d (eQI κ gM post) 58 [(0, vR (60, 0)), (1, vI l1), (2, vI x7)] [] M5)))) : eg_W κ gM mtX11_seconds d (eQI κ gM post) 58 [(0, vR (60, 0)), (1, vI l1), (2, vI l2)] [] M := by
  refine eg_iload_n 2 dX11_seconds_58 rfl rfl ?_
  refine eg_iload_n 1 dX11_seconds_59 rfl rfl ?_
  refine eg_icmp_ge (tgt := 73) dX11_seconds_60 rfl (fun c1 => ?_) (fun c1 => ?_)
  · have h := h.1 c1
    refine eg_aload_n 0 dX11_seconds_73 rfl rfl ?_
    refine eg_getR dX11_seconds_74 fl_11_72 rfl rfl (obM_60 z1) ?_
    show eg_W κ gM mtX11_seconds d (eQI κ gM post) 77 [(0, vR (60, 0)), (1, vI l1), (2, vI l2)] [vR (111, 0)] M
    refine eg_aload_n 0 dX11_seconds_77 rfl rfl ?_
    refine eg_getR dX11_seconds_78 fl_11_69 rfl rfl (obM_60 z1) ?_
    show eg_W κ gM mtX11_seconds d (eQI κ gM post) 81 [(0, vR (60, 0)), (1, vI l1), (2, vI l2)] [vR (110, 0), vR (111, 0)] M
    obtain ⟨q3, hq3, h⟩ := h
    refine eg_callSV (av := [vR (111, 0), vR (110, 0)]) (st := []) dX11_seconds_81 ml_11_249 rfl rfl (Nat.le_of_ble_eq_true rfl) (eg_dd hd) hq3 (fun M2 hp => ?_)
    have h := h M2 hp
    refine eg_aload_n 0 dX11_seconds_84 rfl rfl ?_
    refine eg_getR dX11_seconds_85 fl_11_72 rfl rfl (obM_60 z1) ?_
    show eg_W κ gM mtX11_seconds d (eQI κ gM post) 88 [(0, vR (60, 0)), (1, vI l1), (2, vI l2)] [vR (111, 0)] M2
    refine eg_iconst dX11_seconds_88 ic_0 ?_
    obtain ⟨g4, h⟩ := h
    refine eg_iaload dX11_seconds_89 (arM_111 z1 g4) ?_
    exact eg_ireturn dX11_seconds_90 rfl h
  · have h := h.2 c1
    refine eg_aload_n 0 dX11_seconds_63 rfl rfl ?_
    obtain ⟨q6, hq6, h⟩ := h
    refine eg_callVV (av := []) (st := []) dX11_seconds_64 ml_11_468 rfl rfl (obM_60 z1) (by decide) rfl (Nat.le_of_ble_eq_true rfl) (eg_dd hd) hq6 (fun M5 hp => ?_)
    have h := h M5 hp
    refine en_iinc (f := fun x7 => [(2, vI x7), (0, vR (60, 0)), (1, vI l1)]) 2 dX11_seconds_67 rfl rfl (by decide) rfl (fun x7 ex7 => ?_)
    have h := h x7 ex7
    refine eg_goto (tgt := 58) dX11_seconds_70 rfl ?_
    refine eg_sub [1, 2, 0] rfl ?_
    exact h
theorem dX11_remembers_0 : decode cX11_remembers 0 = .ok (.aload_n 0, 1) := by decide +kernel
theorem dX11_remembers_1 : decode cX11_remembers 1 = .ok (.getfield 237, 3) := by decide +kernel
theorem dX11_remembers_4 : decode cX11_remembers 4 = .ok (.bipush 20, 2) := by decide +kernel
theorem dX11_remembers_6 : decode cX11_remembers 6 = .ok (.if_icmp .ne 44, 3) := by decide +kernel
theorem dX11_remembers_9 : decode cX11_remembers 9 = .ok (.iconst 0, 1) := by decide +kernel
theorem dX11_remembers_10 : decode cX11_remembers 10 = .ok (.istore_n 1, 1) := by decide +kernel
theorem dX11_remembers_11 : decode cX11_remembers 11 = .ok (.iload_n 1, 1) := by decide +kernel
theorem dX11_remembers_12 : decode cX11_remembers 12 = .ok (.sipush 6954, 3) := by decide +kernel
theorem dX11_remembers_15 : decode cX11_remembers 15 = .ok (.if_icmp .ge 25, 3) := by decide +kernel
theorem dX11_remembers_18 : decode cX11_remembers 18 = .ok (.aload_n 0, 1) := by decide +kernel
theorem dX11_remembers_19 : decode cX11_remembers 19 = .ok (.getfield 91, 3) := by decide +kernel
theorem dX11_remembers_22 : decode cX11_remembers 22 = .ok (.iload_n 1, 1) := by decide +kernel
theorem dX11_remembers_23 : decode cX11_remembers 23 = .ok (.aload_n 0, 1) := by decide +kernel
theorem dX11_remembers_24 : decode cX11_remembers 24 = .ok (.getfield 91, 3) := by decide +kernel
theorem dX11_remembers_27 : decode cX11_remembers 27 = .ok (.iload_n 1, 1) := by decide +kernel
theorem dX11_remembers_28 : decode cX11_remembers 28 = .ok (.sipush 366, 3) := by decide +kernel
theorem dX11_remembers_31 : decode cX11_remembers 31 = .ok (.iadd, 1) := by decide +kernel
theorem dX11_remembers_32 : decode cX11_remembers 32 = .ok (.iaload, 1) := by decide +kernel
theorem dX11_remembers_33 : decode cX11_remembers 33 = .ok (.iastore, 1) := by decide +kernel
theorem dX11_remembers_34 : decode cX11_remembers 34 = .ok (.iinc 1 1, 3) := by decide +kernel
theorem dX11_remembers_37 : decode cX11_remembers 37 = .ok (.goto (-26), 3) := by decide +kernel
theorem dX11_remembers_40 : decode cX11_remembers 40 = .ok (.aload_n 0, 1) := by decide +kernel
theorem dX11_remembers_41 : decode cX11_remembers 41 = .ok (.dup, 1) := by decide +kernel
theorem dX11_remembers_42 : decode cX11_remembers 42 = .ok (.getfield 237, 3) := by decide +kernel
theorem dX11_remembers_45 : decode cX11_remembers 45 = .ok (.iconst 1, 1) := by decide +kernel
theorem dX11_remembers_46 : decode cX11_remembers 46 = .ok (.isub, 1) := by decide +kernel
theorem dX11_remembers_47 : decode cX11_remembers 47 = .ok (.putfield 237, 3) := by decide +kernel
theorem dX11_remembers_50 : decode cX11_remembers 50 = .ok (.iconst 0, 1) := by decide +kernel
theorem dX11_remembers_51 : decode cX11_remembers 51 = .ok (.istore_n 1, 1) := by decide +kernel
theorem dX11_remembers_52 : decode cX11_remembers 52 = .ok (.iload_n 1, 1) := by decide +kernel
theorem dX11_remembers_53 : decode cX11_remembers 53 = .ok (.sipush 366, 3) := by decide +kernel
theorem dX11_remembers_56 : decode cX11_remembers 56 = .ok (.if_icmp .ge 30, 3) := by decide +kernel
theorem dX11_remembers_59 : decode cX11_remembers 59 = .ok (.aload_n 0, 1) := by decide +kernel
theorem dX11_remembers_60 : decode cX11_remembers 60 = .ok (.getfield 91, 3) := by decide +kernel
theorem dX11_remembers_63 : decode cX11_remembers 63 = .ok (.sipush 366, 3) := by decide +kernel
theorem dX11_remembers_66 : decode cX11_remembers 66 = .ok (.aload_n 0, 1) := by decide +kernel
theorem dX11_remembers_67 : decode cX11_remembers 67 = .ok (.getfield 237, 3) := by decide +kernel
theorem dX11_remembers_70 : decode cX11_remembers 70 = .ok (.imul, 1) := by decide +kernel
theorem dX11_remembers_71 : decode cX11_remembers 71 = .ok (.iload_n 1, 1) := by decide +kernel
theorem dX11_remembers_72 : decode cX11_remembers 72 = .ok (.iadd, 1) := by decide +kernel
theorem dX11_remembers_73 : decode cX11_remembers 73 = .ok (.aload_n 0, 1) := by decide +kernel
theorem dX11_remembers_74 : decode cX11_remembers 74 = .ok (.getfield 72, 3) := by decide +kernel
theorem dX11_remembers_77 : decode cX11_remembers 77 = .ok (.iload_n 1, 1) := by decide +kernel
theorem dX11_remembers_78 : decode cX11_remembers 78 = .ok (.iaload, 1) := by decide +kernel
theorem dX11_remembers_79 : decode cX11_remembers 79 = .ok (.iastore, 1) := by decide +kernel
theorem dX11_remembers_80 : decode cX11_remembers 80 = .ok (.iinc 1 1, 3) := by decide +kernel
theorem dX11_remembers_83 : decode cX11_remembers 83 = .ok (.goto (-31), 3) := by decide +kernel
theorem dX11_remembers_86 : decode cX11_remembers 86 = .ok (.aload_n 0, 1) := by decide +kernel
theorem dX11_remembers_87 : decode cX11_remembers 87 = .ok (.dup, 1) := by decide +kernel
theorem dX11_remembers_88 : decode cX11_remembers 88 = .ok (.getfield 237, 3) := by decide +kernel
theorem dX11_remembers_91 : decode cX11_remembers 91 = .ok (.iconst 1, 1) := by decide +kernel
theorem dX11_remembers_92 : decode cX11_remembers 92 = .ok (.iadd, 1) := by decide +kernel
theorem dX11_remembers_93 : decode cX11_remembers 93 = .ok (.putfield 237, 3) := by decide +kernel
theorem dX11_remembers_96 : decode cX11_remembers 96 = .ok (.return_, 1) := by decide +kernel
set_option maxRecDepth 10000 in
theorem vX11_remembers_0 {κ : eg_K} {d : Nat} {post : eg_H → Prop} (M : eg_H)  (h : ((¬ (M.1 (60, 0) 69) = (20 : Int32)) → eg_W κ gM mtX11_remembers d (eQV κ gM post) 52 [(0, vR (60, 0)), (1, vI (0 : Int32))] [] M) ∧ ((M.1 (60, 0) 69) = (20 : Int32) → eg_W κ gM mtX11_remembers d (eQV κ gM post) 11 [(0, vR (60, 0)), (1, vI (0 : Int32))] [] M)) : eg_W κ gM mtX11_remembers d (eQV κ gM post) 0 [(0, vR (60, 0))] [] M := by
  refine eg_aload_n 0 dX11_remembers_0 rfl rfl ?_
  refine eg_getI dX11_remembers_1 fl_11_237 rfl trivial (obM_60 z1) ?_
  refine eg_bipush dX11_remembers_4 bp_20 ?_
  refine eg_icmp_ne (tgt := 50) dX11_remembers_6 rfl (fun c1 => ?_) (fun c1 => ?_)
  · have h := h.1 c1
    refine eg_iconst dX11_remembers_50 ic_0 ?_
    refine eg_istore_n dX11_remembers_51 rfl (by decide) (ls1 := [(1, vI (0 : Int32)), (0, vR (60, 0))]) rfl ?_
    refine eg_sub [1, 0] rfl ?_
    exact h
  · have h := h.2 c1
    refine eg_iconst dX11_remembers_9 ic_0 ?_
    refine eg_istore_n dX11_remembers_10 rfl (by decide) (ls1 := [(1, vI (0 : Int32)), (0, vR (60, 0))]) rfl ?_
    refine eg_sub [1, 0] rfl ?_
    exact h
set_option maxRecDepth 10000 in
theorem vX11_remembers_11 {κ : eg_K} {d : Nat} {post : eg_H → Prop} (M : eg_H) (l1 : Int32) (h : ((6954 : Int32) ≤ l1 → (∀ M2 : eg_H, M2 = (sI M (60, 0) 69 ((M.1 (60, 0) 69) - (1 : Int32))) → eg_W κ gM mtX11_remembers d (eQV κ gM post) 52 [(0, vR (60, 0)), (1, vI (0 : Int32))] [] M2)) ∧ ((¬ (6954 : Int32) ≤ l1) → (vp_in (l1 + (366 : Int32)) 7320 ∧ (vp_in l1 7320 ∧ (∀ M5 : eg_H, M5 = (sI M (131, 0) l1.toNatClampNeg (M.1 (131, 0) (l1 + (366 : Int32)).toNatClampNeg)) → (∀ x6 : Int32, x6 = (l1 + (1 : Int32)) → eg_W κ gM mtX11_remembers d (eQV κ gM post) 11 [(0, vR (60, 0)), (1, vI x6)] [] M5)))))) : eg_W κ gM mtX11_remembers d (eQV κ gM post) 11 [(0, vR (60, 0)), (1, vI l1)] [] M := by
  refine eg_iload_n 1 dX11_remembers_11 rfl rfl ?_
  refine eg_sipush dX11_remembers_12 sp_6954 ?_
  refine eg_icmp_ge (tgt := 40) dX11_remembers_15 rfl (fun c1 => ?_) (fun c1 => ?_)
  · have h := h.1 c1
    refine eg_aload_n 0 dX11_remembers_40 rfl rfl ?_
    refine eg_dup dX11_remembers_41 rfl ?_
    refine eg_getI dX11_remembers_42 fl_11_237 rfl trivial (obM_60 z1) ?_
    refine eg_iconst dX11_remembers_45 ic_1 ?_
    refine eg_isub dX11_remembers_46 ?_
    refine en_putI dX11_remembers_47 fl_11_237 rfl rfl (obM_60 z1) (fun M2 eM2 => ?_)
    have h := h M2 eM2
    refine eg_iconst dX11_remembers_50 ic_0 ?_
    refine eg_istore_n dX11_remembers_51 rfl (by decide) (ls1 := [(1, vI (0 : Int32)), (0, vR (60, 0))]) rfl ?_
    refine eg_sub [1, 0] rfl ?_
    exact h
  · have h := h.2 c1
    refine eg_aload_n 0 dX11_remembers_18 rfl rfl ?_
    refine eg_getR dX11_remembers_19 fl_11_91 rfl rfl (obM_60 z1) ?_
    show eg_W κ gM mtX11_remembers d (eQV κ gM post) 22 [(0, vR (60, 0)), (1, vI l1)] [vR (131, 0)] M
    refine eg_iload_n 1 dX11_remembers_22 rfl rfl ?_
    refine eg_aload_n 0 dX11_remembers_23 rfl rfl ?_
    refine eg_getR dX11_remembers_24 fl_11_91 rfl rfl (obM_60 z1) ?_
    show eg_W κ gM mtX11_remembers d (eQV κ gM post) 27 [(0, vR (60, 0)), (1, vI l1)] [vR (131, 0), vI l1, vR (131, 0)] M
    refine eg_iload_n 1 dX11_remembers_27 rfl rfl ?_
    refine eg_sipush dX11_remembers_28 sp_366 ?_
    refine eg_iadd dX11_remembers_31 ?_
    obtain ⟨g3, h⟩ := h
    refine eg_iaload dX11_remembers_32 (arM_131 z1 g3) ?_
    obtain ⟨g4, h⟩ := h
    refine en_iastore dX11_remembers_33 (arM_131 z1 g4) (fun M5 eM5 => ?_)
    have h := h M5 eM5
    refine en_iinc (f := fun x6 => [(1, vI x6), (0, vR (60, 0))]) 1 dX11_remembers_34 rfl rfl (by decide) rfl (fun x6 ex6 => ?_)
    have h := h x6 ex6
    refine eg_goto (tgt := 11) dX11_remembers_37 rfl ?_
    refine eg_sub [1, 0] rfl ?_
    exact h
set_option maxRecDepth 10000 in
theorem vX11_remembers_52 {κ : eg_K} {d : Nat} {post : eg_H → Prop} (M : eg_H) (l1 : Int32) (h : ((366 : Int32) ≤ l1 → (∀ M2 : eg_H, M2 = (sI M (60, 0) 69 ((M.1 (60, 0) 69) + (1 : Int32))) → post M2)) ∧ ((¬ (366 : Int32) ≤ l1) → (vp_in l1 366 ∧ (vp_in (((366 : Int32) * (M.1 (60, 0) 69)) + l1) 7320 ∧ (∀ M5 : eg_H, M5 = (sI M (131, 0) (((366 : Int32) * (M.1 (60, 0) 69)) + l1).toNatClampNeg (M.1 (111, 0) l1.toNatClampNeg)) → (∀ x6 : Int32, x6 = (l1 + (1 : Int32)) → eg_W κ gM mtX11_remembers d (eQV κ gM post) 52 [(0, vR (60, 0)), (1, vI x6)] [] M5)))))) : eg_W κ gM mtX11_remembers d (eQV κ gM post) 52 [(0, vR (60, 0)), (1, vI l1)] [] M := by
  refine eg_iload_n 1 dX11_remembers_52 rfl rfl ?_
  refine eg_sipush dX11_remembers_53 sp_366 ?_
  refine eg_icmp_ge (tgt := 86) dX11_remembers_56 rfl (fun c1 => ?_) (fun c1 => ?_)
  · have h := h.1 c1
    refine eg_aload_n 0 dX11_remembers_86 rfl rfl ?_
    refine eg_dup dX11_remembers_87 rfl ?_
    refine eg_getI dX11_remembers_88 fl_11_237 rfl trivial (obM_60 z1) ?_
    refine eg_iconst dX11_remembers_91 ic_1 ?_
    refine eg_iadd dX11_remembers_92 ?_
    refine en_putI dX11_remembers_93 fl_11_237 rfl rfl (obM_60 z1) (fun M2 eM2 => ?_)
    have h := h M2 eM2
    exact eg_vreturn dX11_remembers_96 rfl h
  · have h := h.2 c1
    refine eg_aload_n 0 dX11_remembers_59 rfl rfl ?_
    refine eg_getR dX11_remembers_60 fl_11_91 rfl rfl (obM_60 z1) ?_
    show eg_W κ gM mtX11_remembers d (eQV κ gM post) 63 [(0, vR (60, 0)), (1, vI l1)] [vR (131, 0)] M
    refine eg_sipush dX11_remembers_63 sp_366 ?_
    refine eg_aload_n 0 dX11_remembers_66 rfl rfl ?_
    refine eg_getI dX11_remembers_67 fl_11_237 rfl trivial (obM_60 z1) ?_
    refine eg_imul dX11_remembers_70 ?_
    refine eg_iload_n 1 dX11_remembers_71 rfl rfl ?_
    refine eg_iadd dX11_remembers_72 ?_
    refine eg_aload_n 0 dX11_remembers_73 rfl rfl ?_
    refine eg_getR dX11_remembers_74 fl_11_72 rfl rfl (obM_60 z1) ?_
    show eg_W κ gM mtX11_remembers d (eQV κ gM post) 77 [(0, vR (60, 0)), (1, vI l1)] [vR (111, 0), vI (((366 : Int32) * (M.1 (60, 0) 69)) + l1), vR (131, 0)] M
    refine eg_iload_n 1 dX11_remembers_77 rfl rfl ?_
    obtain ⟨g3, h⟩ := h
    refine eg_iaload dX11_remembers_78 (arM_111 z1 g3) ?_
    obtain ⟨g4, h⟩ := h
    refine en_iastore dX11_remembers_79 (arM_131 z1 g4) (fun M5 eM5 => ?_)
    have h := h M5 eM5
    refine en_iinc (f := fun x6 => [(1, vI x6), (0, vR (60, 0))]) 1 dX11_remembers_80 rfl rfl (by decide) rfl (fun x6 ex6 => ?_)
    have h := h x6 ex6
    refine eg_goto (tgt := 52) dX11_remembers_83 rfl ?_
    refine eg_sub [1, 0] rfl ?_
    exact h
theorem dX11_layRow_0 : decode cX11_layRow 0 = .ok (.iconst 0, 1) := by decide +kernel
theorem dX11_layRow_1 : decode cX11_layRow 1 = .ok (.istore_n 1, 1) := by decide +kernel
theorem dX11_layRow_2 : decode cX11_layRow 2 = .ok (.iload_n 1, 1) := by decide +kernel
theorem dX11_layRow_3 : decode cX11_layRow 3 = .ok (.iconst 5, 1) := by decide +kernel
theorem dX11_layRow_4 : decode cX11_layRow 4 = .ok (.if_icmp .ge 25, 3) := by decide +kernel
theorem dX11_layRow_7 : decode cX11_layRow 7 = .ok (.aload_n 0, 1) := by decide +kernel
theorem dX11_layRow_8 : decode cX11_layRow 8 = .ok (.getfield 75, 3) := by decide +kernel
theorem dX11_layRow_11 : decode cX11_layRow 11 = .ok (.iload_n 1, 1) := by decide +kernel
theorem dX11_layRow_12 : decode cX11_layRow 12 = .ok (.aload_n 0, 1) := by decide +kernel
theorem dX11_layRow_13 : decode cX11_layRow 13 = .ok (.getfield 72, 3) := by decide +kernel
theorem dX11_layRow_16 : decode cX11_layRow 16 = .ok (.sipush 360, 3) := by decide +kernel
theorem dX11_layRow_19 : decode cX11_layRow 19 = .ok (.iload_n 1, 1) := by decide +kernel
theorem dX11_layRow_20 : decode cX11_layRow 20 = .ok (.iadd, 1) := by decide +kernel
theorem dX11_layRow_21 : decode cX11_layRow 21 = .ok (.iaload, 1) := by decide +kernel
theorem dX11_layRow_22 : decode cX11_layRow 22 = .ok (.iastore, 1) := by decide +kernel
theorem dX11_layRow_23 : decode cX11_layRow 23 = .ok (.iinc 1 1, 3) := by decide +kernel
theorem dX11_layRow_26 : decode cX11_layRow 26 = .ok (.goto (-24), 3) := by decide +kernel
theorem dX11_layRow_29 : decode cX11_layRow 29 = .ok (.return_, 1) := by decide +kernel
set_option maxRecDepth 10000 in
theorem vX11_layRow_0 {κ : eg_K} {d : Nat} {post : eg_H → Prop} (M : eg_H)  (h : eg_W κ gM mtX11_layRow d (eQV κ gM post) 2 [(0, vR (60, 0)), (1, vI (0 : Int32))] [] M) : eg_W κ gM mtX11_layRow d (eQV κ gM post) 0 [(0, vR (60, 0))] [] M := by
  refine eg_iconst dX11_layRow_0 ic_0 ?_
  refine eg_istore_n dX11_layRow_1 rfl (by decide) (ls1 := [(1, vI (0 : Int32)), (0, vR (60, 0))]) rfl ?_
  refine eg_sub [1, 0] rfl ?_
  exact h
set_option maxRecDepth 10000 in
theorem vX11_layRow_2 {κ : eg_K} {d : Nat} {post : eg_H → Prop} (M : eg_H) (l1 : Int32) (h : ((5 : Int32) ≤ l1 → post M) ∧ ((¬ (5 : Int32) ≤ l1) → (vp_in ((360 : Int32) + l1) 366 ∧ (vp_in l1 5 ∧ (∀ M4 : eg_H, M4 = (sI M (112, 0) l1.toNatClampNeg (M.1 (111, 0) ((360 : Int32) + l1).toNatClampNeg)) → (∀ x5 : Int32, x5 = (l1 + (1 : Int32)) → eg_W κ gM mtX11_layRow d (eQV κ gM post) 2 [(0, vR (60, 0)), (1, vI x5)] [] M4)))))) : eg_W κ gM mtX11_layRow d (eQV κ gM post) 2 [(0, vR (60, 0)), (1, vI l1)] [] M := by
  refine eg_iload_n 1 dX11_layRow_2 rfl rfl ?_
  refine eg_iconst dX11_layRow_3 ic_5 ?_
  refine eg_icmp_ge (tgt := 29) dX11_layRow_4 rfl (fun c1 => ?_) (fun c1 => ?_)
  · have h := h.1 c1
    exact eg_vreturn dX11_layRow_29 rfl h
  · have h := h.2 c1
    refine eg_aload_n 0 dX11_layRow_7 rfl rfl ?_
    refine eg_getR dX11_layRow_8 fl_11_75 rfl rfl (obM_60 z1) ?_
    show eg_W κ gM mtX11_layRow d (eQV κ gM post) 11 [(0, vR (60, 0)), (1, vI l1)] [vR (112, 0)] M
    refine eg_iload_n 1 dX11_layRow_11 rfl rfl ?_
    refine eg_aload_n 0 dX11_layRow_12 rfl rfl ?_
    refine eg_getR dX11_layRow_13 fl_11_72 rfl rfl (obM_60 z1) ?_
    show eg_W κ gM mtX11_layRow d (eQV κ gM post) 16 [(0, vR (60, 0)), (1, vI l1)] [vR (111, 0), vI l1, vR (112, 0)] M
    refine eg_sipush dX11_layRow_16 sp_360 ?_
    refine eg_iload_n 1 dX11_layRow_19 rfl rfl ?_
    refine eg_iadd dX11_layRow_20 ?_
    obtain ⟨g2, h⟩ := h
    refine eg_iaload dX11_layRow_21 (arM_111 z1 g2) ?_
    obtain ⟨g3, h⟩ := h
    refine en_iastore dX11_layRow_22 (arM_112 z1 g3) (fun M4 eM4 => ?_)
    have h := h M4 eM4
    refine en_iinc (f := fun x5 => [(1, vI x5), (0, vR (60, 0))]) 1 dX11_layRow_23 rfl rfl (by decide) rfl (fun x5 ex5 => ?_)
    have h := h x5 ex5
    refine eg_goto (tgt := 2) dX11_layRow_26 rfl ?_
    refine eg_sub [1, 0] rfl ?_
    exact h
theorem dX11_put_0 : decode cX11_put 0 = .ok (.aload_n 0, 1) := by decide +kernel
theorem dX11_put_1 : decode cX11_put 1 = .ok (.iconst 0, 1) := by decide +kernel
theorem dX11_put_2 : decode cX11_put 2 = .ok (.putfield 127, 3) := by decide +kernel
theorem dX11_put_5 : decode cX11_put 5 = .ok (.aload_n 0, 1) := by decide +kernel
theorem dX11_put_6 : decode cX11_put 6 = .ok (.iload_n 1, 1) := by decide +kernel
theorem dX11_put_7 : decode cX11_put 7 = .ok (.invokevirtual 478, 3) := by decide +kernel
theorem dX11_put_10 : decode cX11_put 10 = .ok (.ifCond .eq 11, 3) := by decide +kernel
theorem dX11_put_13 : decode cX11_put 13 = .ok (.aload_n 0, 1) := by decide +kernel
theorem dX11_put_14 : decode cX11_put 14 = .ok (.iload_n 1, 1) := by decide +kernel
theorem dX11_put_15 : decode cX11_put 15 = .ok (.invokevirtual 415, 3) := by decide +kernel
theorem dX11_put_18 : decode cX11_put 18 = .ok (.ifCond .ne 5, 3) := by decide +kernel
theorem dX11_put_21 : decode cX11_put 21 = .ok (.iconst (-1), 1) := by decide +kernel
theorem dX11_put_22 : decode cX11_put 22 = .ok (.ireturn, 1) := by decide +kernel
theorem dX11_put_23 : decode cX11_put 23 = .ok (.aload_n 0, 1) := by decide +kernel
theorem dX11_put_24 : decode cX11_put 24 = .ok (.invokevirtual 481, 3) := by decide +kernel
theorem dX11_put_27 : decode cX11_put 27 = .ok (.aload_n 0, 1) := by decide +kernel
theorem dX11_put_28 : decode cX11_put 28 = .ok (.getfield 72, 3) := by decide +kernel
theorem dX11_put_31 : decode cX11_put 31 = .ok (.iload_n 1, 1) := by decide +kernel
theorem dX11_put_32 : decode cX11_put 32 = .ok (.invokestatic 377, 3) := by decide +kernel
theorem dX11_put_35 : decode cX11_put 35 = .ok (.dup2, 1) := by decide +kernel
theorem dX11_put_36 : decode cX11_put 36 = .ok (.iaload, 1) := by decide +kernel
theorem dX11_put_37 : decode cX11_put 37 = .ok (.aload_n 0, 1) := by decide +kernel
theorem dX11_put_38 : decode cX11_put 38 = .ok (.iload_n 1, 1) := by decide +kernel
theorem dX11_put_39 : decode cX11_put 39 = .ok (.iconst 2, 1) := by decide +kernel
theorem dX11_put_40 : decode cX11_put 40 = .ok (.invokevirtual 366, 3) := by decide +kernel
theorem dX11_put_43 : decode cX11_put 43 = .ok (.iadd, 1) := by decide +kernel
theorem dX11_put_44 : decode cX11_put 44 = .ok (.iastore, 1) := by decide +kernel
theorem dX11_put_45 : decode cX11_put 45 = .ok (.aload_n 0, 1) := by decide +kernel
theorem dX11_put_46 : decode cX11_put 46 = .ok (.getfield 72, 3) := by decide +kernel
theorem dX11_put_49 : decode cX11_put 49 = .ok (.iload_n 1, 1) := by decide +kernel
theorem dX11_put_50 : decode cX11_put 50 = .ok (.invokestatic 377, 3) := by decide +kernel
theorem dX11_put_53 : decode cX11_put 53 = .ok (.iconst 1, 1) := by decide +kernel
theorem dX11_put_54 : decode cX11_put 54 = .ok (.iadd, 1) := by decide +kernel
theorem dX11_put_55 : decode cX11_put 55 = .ok (.iconst 0, 1) := by decide +kernel
theorem dX11_put_56 : decode cX11_put 56 = .ok (.iastore, 1) := by decide +kernel
theorem dX11_put_57 : decode cX11_put 57 = .ok (.aload_n 0, 1) := by decide +kernel
theorem dX11_put_58 : decode cX11_put 58 = .ok (.getfield 72, 3) := by decide +kernel
theorem dX11_put_61 : decode cX11_put 61 = .ok (.iload_n 1, 1) := by decide +kernel
theorem dX11_put_62 : decode cX11_put 62 = .ok (.invokestatic 377, 3) := by decide +kernel
theorem dX11_put_65 : decode cX11_put 65 = .ok (.bipush 6, 2) := by decide +kernel
theorem dX11_put_67 : decode cX11_put 67 = .ok (.iadd, 1) := by decide +kernel
theorem dX11_put_68 : decode cX11_put 68 = .ok (.dup2, 1) := by decide +kernel
theorem dX11_put_69 : decode cX11_put 69 = .ok (.iaload, 1) := by decide +kernel
theorem dX11_put_70 : decode cX11_put 70 = .ok (.iconst 1, 1) := by decide +kernel
theorem dX11_put_71 : decode cX11_put 71 = .ok (.iadd, 1) := by decide +kernel
theorem dX11_put_72 : decode cX11_put 72 = .ok (.iastore, 1) := by decide +kernel
theorem dX11_put_73 : decode cX11_put 73 = .ok (.aload_n 0, 1) := by decide +kernel
theorem dX11_put_74 : decode cX11_put 74 = .ok (.getfield 72, 3) := by decide +kernel
theorem dX11_put_77 : decode cX11_put 77 = .ok (.iload_n 1, 1) := by decide +kernel
theorem dX11_put_78 : decode cX11_put 78 = .ok (.invokestatic 377, 3) := by decide +kernel
theorem dX11_put_81 : decode cX11_put 81 = .ok (.iaload, 1) := by decide +kernel
theorem dX11_put_82 : decode cX11_put 82 = .ok (.ireturn, 1) := by decide +kernel
set_option maxRecDepth 10000 in
theorem vX11_put_0 {κ : eg_K} {d : Nat} (hd : 1 ≤ d) {post : Int32 → eg_H → Prop} (M : eg_H) (l1 : Int32) (h : (∀ M1 : eg_H, M1 = (sI M (60, 0) 2 (0 : Int32)) → eCI κ gM mtX11_isStation d [vR (60, 0), vI l1] M1 (fun x2 M3 => (x2 = 0 → post (-1 : Int32) M3) ∧ ((¬ x2 = 0) → eCI κ gM mtX11_hasPan d [vR (60, 0), vI l1] M3 (fun x6 M7 => ((¬ x6 = 0) → eCV κ gM mtX11_remembers d [vR (60, 0)] M7 (fun M10 => eCI κ gM mtX11_pan d [vI l1] M10 (fun x12 M13 => (vp_in x12 366 ∧ eCI κ gM mtX11_has d [vR (60, 0), vI l1, vI (2 : Int32)] M13 (fun x16 M17 => (∀ M19 : eg_H, M19 = (sI M17 (111, 0) x12.toNatClampNeg ((M13.1 (111, 0) x12.toNatClampNeg) + x16)) → eCI κ gM mtX11_pan d [vI l1] M19 (fun x20 M21 => (vp_in (x20 + (1 : Int32)) 366 ∧ (∀ M24 : eg_H, M24 = (sI M21 (111, 0) (x20 + (1 : Int32)).toNatClampNeg (0 : Int32)) → eCI κ gM mtX11_pan d [vI l1] M24 (fun x25 M26 => (vp_in (x25 + (6 : Int32)) 366 ∧ (∀ M29 : eg_H, M29 = (sI M26 (111, 0) (x25 + (6 : Int32)).toNatClampNeg ((M26.1 (111, 0) (x25 + (6 : Int32)).toNatClampNeg) + (1 : Int32))) → eCI κ gM mtX11_pan d [vI l1] M29 (fun x30 M31 => (vp_in x30 366 ∧ post (M31.1 (111, 0) x30.toNatClampNeg) M31)))))))))))))) ∧ (x6 = 0 → post (-1 : Int32) M7)))))) : eg_W κ gM mtX11_put d (eQI κ gM post) 0 [(0, vR (60, 0)), (1, vI l1)] [] M := by
  refine eg_aload_n 0 dX11_put_0 rfl rfl ?_
  refine eg_iconst dX11_put_1 ic_0 ?_
  refine en_putI dX11_put_2 fl_11_127 rfl rfl (obM_60 z1) (fun M1 eM1 => ?_)
  have h := h M1 eM1
  refine eg_aload_n 0 dX11_put_5 rfl rfl ?_
  refine eg_iload_n 1 dX11_put_6 rfl rfl ?_
  obtain ⟨q4, hq4, h⟩ := h
  refine eg_callVI (av := [vI l1]) (st := []) dX11_put_7 ml_11_478 rfl rfl (obM_60 z1) (by decide) rfl (Nat.le_of_ble_eq_true rfl) (eg_dd hd) hq4 (fun x2 M3 hp => ?_)
  have h := h x2 M3 hp
  refine eg_if_eq (tgt := 21) dX11_put_10 rfl (fun c5 => ?_) (fun c5 => ?_)
  · have h := h.1 c5
    refine eg_iconst dX11_put_21 ic_m1 ?_
    exact eg_ireturn dX11_put_22 rfl h
  · have h := h.2 c5
    refine eg_aload_n 0 dX11_put_13 rfl rfl ?_
    refine eg_iload_n 1 dX11_put_14 rfl rfl ?_
    obtain ⟨q8, hq8, h⟩ := h
    refine eg_callVI (av := [vI l1]) (st := []) dX11_put_15 ml_11_415 rfl rfl (obM_60 z1) (by decide) rfl (Nat.le_of_ble_eq_true rfl) (eg_dd hd) hq8 (fun x6 M7 hp => ?_)
    have h := h x6 M7 hp
    refine eg_if_ne (tgt := 23) dX11_put_18 rfl (fun c9 => ?_) (fun c9 => ?_)
    · have h := h.1 c9
      refine eg_aload_n 0 dX11_put_23 rfl rfl ?_
      obtain ⟨q11, hq11, h⟩ := h
      refine eg_callVV (av := []) (st := []) dX11_put_24 ml_11_481 rfl rfl (obM_60 z1) (by decide) rfl (Nat.le_of_ble_eq_true rfl) (eg_dd hd) hq11 (fun M10 hp => ?_)
      have h := h M10 hp
      refine eg_aload_n 0 dX11_put_27 rfl rfl ?_
      refine eg_getR dX11_put_28 fl_11_72 rfl rfl (obM_60 z1) ?_
      show eg_W κ gM mtX11_put d (eQI κ gM post) 31 [(0, vR (60, 0)), (1, vI l1)] [vR (111, 0)] M10
      refine eg_iload_n 1 dX11_put_31 rfl rfl ?_
      obtain ⟨q14, hq14, h⟩ := h
      refine eg_callSI (av := [vI l1]) (st := [vR (111, 0)]) dX11_put_32 ml_11_377 rfl rfl (Nat.le_of_ble_eq_true rfl) (eg_dd hd) hq14 (fun x12 M13 hp => ?_)
      have h := h x12 M13 hp
      refine eg_dup2 dX11_put_35 rfl rfl ?_
      obtain ⟨g15, h⟩ := h
      refine eg_iaload dX11_put_36 (arM_111 z1 g15) ?_
      refine eg_aload_n 0 dX11_put_37 rfl rfl ?_
      refine eg_iload_n 1 dX11_put_38 rfl rfl ?_
      refine eg_iconst dX11_put_39 ic_2 ?_
      obtain ⟨q18, hq18, h⟩ := h
      refine eg_callVI (av := [vI l1, vI (2 : Int32)]) (st := [vI (M13.1 (111, 0) x12.toNatClampNeg), vI x12, vR (111, 0)]) dX11_put_40 ml_11_366 rfl rfl (obM_60 z1) (by decide) rfl (Nat.le_of_ble_eq_true rfl) (eg_dd hd) hq18 (fun x16 M17 hp => ?_)
      have h := h x16 M17 hp
      refine eg_iadd dX11_put_43 ?_
      refine en_iastore dX11_put_44 (arM_111 z1 g15) (fun M19 eM19 => ?_)
      have h := h M19 eM19
      refine eg_aload_n 0 dX11_put_45 rfl rfl ?_
      refine eg_getR dX11_put_46 fl_11_72 rfl rfl (obM_60 z1) ?_
      show eg_W κ gM mtX11_put d (eQI κ gM post) 49 [(0, vR (60, 0)), (1, vI l1)] [vR (111, 0)] M19
      refine eg_iload_n 1 dX11_put_49 rfl rfl ?_
      obtain ⟨q22, hq22, h⟩ := h
      refine eg_callSI (av := [vI l1]) (st := [vR (111, 0)]) dX11_put_50 ml_11_377 rfl rfl (Nat.le_of_ble_eq_true rfl) (eg_dd hd) hq22 (fun x20 M21 hp => ?_)
      have h := h x20 M21 hp
      refine eg_iconst dX11_put_53 ic_1 ?_
      refine eg_iadd dX11_put_54 ?_
      refine eg_iconst dX11_put_55 ic_0 ?_
      obtain ⟨g23, h⟩ := h
      refine en_iastore dX11_put_56 (arM_111 z1 g23) (fun M24 eM24 => ?_)
      have h := h M24 eM24
      refine eg_aload_n 0 dX11_put_57 rfl rfl ?_
      refine eg_getR dX11_put_58 fl_11_72 rfl rfl (obM_60 z1) ?_
      show eg_W κ gM mtX11_put d (eQI κ gM post) 61 [(0, vR (60, 0)), (1, vI l1)] [vR (111, 0)] M24
      refine eg_iload_n 1 dX11_put_61 rfl rfl ?_
      obtain ⟨q27, hq27, h⟩ := h
      refine eg_callSI (av := [vI l1]) (st := [vR (111, 0)]) dX11_put_62 ml_11_377 rfl rfl (Nat.le_of_ble_eq_true rfl) (eg_dd hd) hq27 (fun x25 M26 hp => ?_)
      have h := h x25 M26 hp
      refine eg_bipush dX11_put_65 bp_6 ?_
      refine eg_iadd dX11_put_67 ?_
      refine eg_dup2 dX11_put_68 rfl rfl ?_
      obtain ⟨g28, h⟩ := h
      refine eg_iaload dX11_put_69 (arM_111 z1 g28) ?_
      refine eg_iconst dX11_put_70 ic_1 ?_
      refine eg_iadd dX11_put_71 ?_
      refine en_iastore dX11_put_72 (arM_111 z1 g28) (fun M29 eM29 => ?_)
      have h := h M29 eM29
      refine eg_aload_n 0 dX11_put_73 rfl rfl ?_
      refine eg_getR dX11_put_74 fl_11_72 rfl rfl (obM_60 z1) ?_
      show eg_W κ gM mtX11_put d (eQI κ gM post) 77 [(0, vR (60, 0)), (1, vI l1)] [vR (111, 0)] M29
      refine eg_iload_n 1 dX11_put_77 rfl rfl ?_
      obtain ⟨q32, hq32, h⟩ := h
      refine eg_callSI (av := [vI l1]) (st := [vR (111, 0)]) dX11_put_78 ml_11_377 rfl rfl (Nat.le_of_ble_eq_true rfl) (eg_dd hd) hq32 (fun x30 M31 hp => ?_)
      have h := h x30 M31 hp
      obtain ⟨g33, h⟩ := h
      refine eg_iaload dX11_put_81 (arM_111 z1 g33) ?_
      exact eg_ireturn dX11_put_82 rfl h
    · have h := h.2 c9
      refine eg_iconst dX11_put_21 ic_m1 ?_
      exact eg_ireturn dX11_put_22 rfl h
theorem dX11_change_0 : decode cX11_change 0 = .ok (.aload_n 0, 1) := by decide +kernel
theorem dX11_change_1 : decode cX11_change 1 = .ok (.iconst 0, 1) := by decide +kernel
theorem dX11_change_2 : decode cX11_change 2 = .ok (.putfield 127, 3) := by decide +kernel
theorem dX11_change_5 : decode cX11_change 5 = .ok (.aload_n 0, 1) := by decide +kernel
theorem dX11_change_6 : decode cX11_change 6 = .ok (.iload_n 1, 1) := by decide +kernel
theorem dX11_change_7 : decode cX11_change 7 = .ok (.invokevirtual 478, 3) := by decide +kernel
theorem dX11_change_10 : decode cX11_change 10 = .ok (.ifCond .eq 25, 3) := by decide +kernel
theorem dX11_change_13 : decode cX11_change 13 = .ok (.aload_n 0, 1) := by decide +kernel
theorem dX11_change_14 : decode cX11_change 14 = .ok (.iload_n 2, 1) := by decide +kernel
theorem dX11_change_15 : decode cX11_change 15 = .ok (.invokevirtual 478, 3) := by decide +kernel
theorem dX11_change_18 : decode cX11_change 18 = .ok (.ifCond .eq 17, 3) := by decide +kernel
theorem dX11_change_21 : decode cX11_change 21 = .ok (.iload_n 1, 1) := by decide +kernel
theorem dX11_change_22 : decode cX11_change 22 = .ok (.iload_n 2, 1) := by decide +kernel
theorem dX11_change_23 : decode cX11_change 23 = .ok (.if_icmp .eq 12, 3) := by decide +kernel
theorem dX11_change_26 : decode cX11_change 26 = .ok (.aload_n 0, 1) := by decide +kernel
theorem dX11_change_27 : decode cX11_change 27 = .ok (.getfield 72, 3) := by decide +kernel
theorem dX11_change_30 : decode cX11_change 30 = .ok (.iconst 1, 1) := by decide +kernel
theorem dX11_change_31 : decode cX11_change 31 = .ok (.iaload, 1) := by decide +kernel
theorem dX11_change_32 : decode cX11_change 32 = .ok (.ifCond .le 5, 3) := by decide +kernel
theorem dX11_change_35 : decode cX11_change 35 = .ok (.iconst 0, 1) := by decide +kernel
theorem dX11_change_36 : decode cX11_change 36 = .ok (.ireturn, 1) := by decide +kernel
theorem dX11_change_37 : decode cX11_change 37 = .ok (.aload_n 0, 1) := by decide +kernel
theorem dX11_change_38 : decode cX11_change 38 = .ok (.invokevirtual 481, 3) := by decide +kernel
theorem dX11_change_41 : decode cX11_change 41 = .ok (.aload_n 0, 1) := by decide +kernel
theorem dX11_change_42 : decode cX11_change 42 = .ok (.getfield 72, 3) := by decide +kernel
theorem dX11_change_45 : decode cX11_change 45 = .ok (.sipush 360, 3) := by decide +kernel
theorem dX11_change_48 : decode cX11_change 48 = .ok (.iload_n 1, 1) := by decide +kernel
theorem dX11_change_49 : decode cX11_change 49 = .ok (.iadd, 1) := by decide +kernel
theorem dX11_change_50 : decode cX11_change 50 = .ok (.iaload, 1) := by decide +kernel
theorem dX11_change_51 : decode cX11_change 51 = .ok (.istore_n 3, 1) := by decide +kernel
theorem dX11_change_52 : decode cX11_change 52 = .ok (.aload_n 0, 1) := by decide +kernel
theorem dX11_change_53 : decode cX11_change 53 = .ok (.getfield 72, 3) := by decide +kernel
theorem dX11_change_56 : decode cX11_change 56 = .ok (.sipush 360, 3) := by decide +kernel
theorem dX11_change_59 : decode cX11_change 59 = .ok (.iload_n 1, 1) := by decide +kernel
theorem dX11_change_60 : decode cX11_change 60 = .ok (.iadd, 1) := by decide +kernel
theorem dX11_change_61 : decode cX11_change 61 = .ok (.aload_n 0, 1) := by decide +kernel
theorem dX11_change_62 : decode cX11_change 62 = .ok (.getfield 72, 3) := by decide +kernel
theorem dX11_change_65 : decode cX11_change 65 = .ok (.sipush 360, 3) := by decide +kernel
theorem dX11_change_68 : decode cX11_change 68 = .ok (.iload_n 2, 1) := by decide +kernel
theorem dX11_change_69 : decode cX11_change 69 = .ok (.iadd, 1) := by decide +kernel
theorem dX11_change_70 : decode cX11_change 70 = .ok (.iaload, 1) := by decide +kernel
theorem dX11_change_71 : decode cX11_change 71 = .ok (.iastore, 1) := by decide +kernel
theorem dX11_change_72 : decode cX11_change 72 = .ok (.aload_n 0, 1) := by decide +kernel
theorem dX11_change_73 : decode cX11_change 73 = .ok (.getfield 72, 3) := by decide +kernel
theorem dX11_change_76 : decode cX11_change 76 = .ok (.sipush 360, 3) := by decide +kernel
theorem dX11_change_79 : decode cX11_change 79 = .ok (.iload_n 2, 1) := by decide +kernel
theorem dX11_change_80 : decode cX11_change 80 = .ok (.iadd, 1) := by decide +kernel
theorem dX11_change_81 : decode cX11_change 81 = .ok (.iload_n 3, 1) := by decide +kernel
theorem dX11_change_82 : decode cX11_change 82 = .ok (.iastore, 1) := by decide +kernel
theorem dX11_change_83 : decode cX11_change 83 = .ok (.aload_n 0, 1) := by decide +kernel
theorem dX11_change_84 : decode cX11_change 84 = .ok (.invokevirtual 484, 3) := by decide +kernel
theorem dX11_change_87 : decode cX11_change 87 = .ok (.iconst 1, 1) := by decide +kernel
theorem dX11_change_88 : decode cX11_change 88 = .ok (.ireturn, 1) := by decide +kernel
set_option maxRecDepth 10000 in
theorem vX11_change_0 {κ : eg_K} {d : Nat} (hd : 1 ≤ d) {post : Int32 → eg_H → Prop} (M : eg_H) (l1 : Int32) (l2 : Int32) (h : (∀ M1 : eg_H, M1 = (sI M (60, 0) 2 (0 : Int32)) → eCI κ gM mtX11_isStation d [vR (60, 0), vI l1] M1 (fun x2 M3 => (x2 = 0 → post (0 : Int32) M3) ∧ ((¬ x2 = 0) → eCI κ gM mtX11_isStation d [vR (60, 0), vI l2] M3 (fun x6 M7 => (x6 = 0 → post (0 : Int32) M7) ∧ ((¬ x6 = 0) → (l1 = l2 → post (0 : Int32) M7) ∧ ((¬ l1 = l2) → (vp_in (1 : Int32) 366 ∧ ((M7.1 (111, 0) (1 : Int32).toNatClampNeg) ≤ 0 → eCV κ gM mtX11_remembers d [vR (60, 0)] M7 (fun M13 => (vp_in ((360 : Int32) + l1) 366 ∧ (∀ x16 : Int32, x16 = (M13.1 (111, 0) ((360 : Int32) + l1).toNatClampNeg) → (vp_in ((360 : Int32) + l2) 366 ∧ (∀ M18 : eg_H, M18 = (sI M13 (111, 0) ((360 : Int32) + l1).toNatClampNeg (M13.1 (111, 0) ((360 : Int32) + l2).toNatClampNeg)) → (∀ M19 : eg_H, M19 = (sI M18 (111, 0) ((360 : Int32) + l2).toNatClampNeg x16) → eCV κ gM mtX11_layRow d [vR (60, 0)] M19 (fun M20 => post (1 : Int32) M20)))))))) ∧ ((¬ (M7.1 (111, 0) (1 : Int32).toNatClampNeg) ≤ 0) → post (0 : Int32) M7))))))))) : eg_W κ gM mtX11_change d (eQI κ gM post) 0 [(0, vR (60, 0)), (1, vI l1), (2, vI l2)] [] M := by
  refine eg_aload_n 0 dX11_change_0 rfl rfl ?_
  refine eg_iconst dX11_change_1 ic_0 ?_
  refine en_putI dX11_change_2 fl_11_127 rfl rfl (obM_60 z1) (fun M1 eM1 => ?_)
  have h := h M1 eM1
  refine eg_aload_n 0 dX11_change_5 rfl rfl ?_
  refine eg_iload_n 1 dX11_change_6 rfl rfl ?_
  obtain ⟨q4, hq4, h⟩ := h
  refine eg_callVI (av := [vI l1]) (st := []) dX11_change_7 ml_11_478 rfl rfl (obM_60 z1) (by decide) rfl (Nat.le_of_ble_eq_true rfl) (eg_dd hd) hq4 (fun x2 M3 hp => ?_)
  have h := h x2 M3 hp
  refine eg_if_eq (tgt := 35) dX11_change_10 rfl (fun c5 => ?_) (fun c5 => ?_)
  · have h := h.1 c5
    refine eg_iconst dX11_change_35 ic_0 ?_
    exact eg_zreturn dX11_change_36 rfl (Or.inl rfl) h
  · have h := h.2 c5
    refine eg_aload_n 0 dX11_change_13 rfl rfl ?_
    refine eg_iload_n 2 dX11_change_14 rfl rfl ?_
    obtain ⟨q8, hq8, h⟩ := h
    refine eg_callVI (av := [vI l2]) (st := []) dX11_change_15 ml_11_478 rfl rfl (obM_60 z1) (by decide) rfl (Nat.le_of_ble_eq_true rfl) (eg_dd hd) hq8 (fun x6 M7 hp => ?_)
    have h := h x6 M7 hp
    refine eg_if_eq (tgt := 35) dX11_change_18 rfl (fun c9 => ?_) (fun c9 => ?_)
    · have h := h.1 c9
      refine eg_iconst dX11_change_35 ic_0 ?_
      exact eg_zreturn dX11_change_36 rfl (Or.inl rfl) h
    · have h := h.2 c9
      refine eg_iload_n 1 dX11_change_21 rfl rfl ?_
      refine eg_iload_n 2 dX11_change_22 rfl rfl ?_
      refine eg_icmp_eq (tgt := 35) dX11_change_23 rfl (fun c10 => ?_) (fun c10 => ?_)
      · have h := h.1 c10
        refine eg_iconst dX11_change_35 ic_0 ?_
        exact eg_zreturn dX11_change_36 rfl (Or.inl rfl) h
      · have h := h.2 c10
        refine eg_aload_n 0 dX11_change_26 rfl rfl ?_
        refine eg_getR dX11_change_27 fl_11_72 rfl rfl (obM_60 z1) ?_
        show eg_W κ gM mtX11_change d (eQI κ gM post) 30 [(0, vR (60, 0)), (1, vI l1), (2, vI l2)] [vR (111, 0)] M7
        refine eg_iconst dX11_change_30 ic_1 ?_
        obtain ⟨g11, h⟩ := h
        refine eg_iaload dX11_change_31 (arM_111 z1 g11) ?_
        refine eg_if_le (tgt := 37) dX11_change_32 rfl (fun c12 => ?_) (fun c12 => ?_)
        · have h := h.1 c12
          refine eg_aload_n 0 dX11_change_37 rfl rfl ?_
          obtain ⟨q14, hq14, h⟩ := h
          refine eg_callVV (av := []) (st := []) dX11_change_38 ml_11_481 rfl rfl (obM_60 z1) (by decide) rfl (Nat.le_of_ble_eq_true rfl) (eg_dd hd) hq14 (fun M13 hp => ?_)
          have h := h M13 hp
          refine eg_aload_n 0 dX11_change_41 rfl rfl ?_
          refine eg_getR dX11_change_42 fl_11_72 rfl rfl (obM_60 z1) ?_
          show eg_W κ gM mtX11_change d (eQI κ gM post) 45 [(0, vR (60, 0)), (1, vI l1), (2, vI l2)] [vR (111, 0)] M13
          refine eg_sipush dX11_change_45 sp_360 ?_
          refine eg_iload_n 1 dX11_change_48 rfl rfl ?_
          refine eg_iadd dX11_change_49 ?_
          obtain ⟨g15, h⟩ := h
          refine eg_iaload dX11_change_50 (arM_111 z1 g15) ?_
          refine en_istore_n (f := fun x16 => [(3, vI x16), (0, vR (60, 0)), (1, vI l1), (2, vI l2)]) dX11_change_51 rfl (by decide) rfl (fun x16 ex16 => ?_)
          have h := h x16 ex16
          refine eg_aload_n 1 dX11_change_52 rfl rfl ?_
          refine eg_getR dX11_change_53 fl_11_72 rfl rfl (obM_60 z1) ?_
          show eg_W κ gM mtX11_change d (eQI κ gM post) 56 [(3, vI x16), (0, vR (60, 0)), (1, vI l1), (2, vI l2)] [vR (111, 0)] M13
          refine eg_sipush dX11_change_56 sp_360 ?_
          refine eg_iload_n 2 dX11_change_59 rfl rfl ?_
          refine eg_iadd dX11_change_60 ?_
          refine eg_aload_n 1 dX11_change_61 rfl rfl ?_
          refine eg_getR dX11_change_62 fl_11_72 rfl rfl (obM_60 z1) ?_
          show eg_W κ gM mtX11_change d (eQI κ gM post) 65 [(3, vI x16), (0, vR (60, 0)), (1, vI l1), (2, vI l2)] [vR (111, 0), vI ((360 : Int32) + l1), vR (111, 0)] M13
          refine eg_sipush dX11_change_65 sp_360 ?_
          refine eg_iload_n 3 dX11_change_68 rfl rfl ?_
          refine eg_iadd dX11_change_69 ?_
          obtain ⟨g17, h⟩ := h
          refine eg_iaload dX11_change_70 (arM_111 z1 g17) ?_
          refine en_iastore dX11_change_71 (arM_111 z1 g15) (fun M18 eM18 => ?_)
          have h := h M18 eM18
          refine eg_aload_n 1 dX11_change_72 rfl rfl ?_
          refine eg_getR dX11_change_73 fl_11_72 rfl rfl (obM_60 z1) ?_
          show eg_W κ gM mtX11_change d (eQI κ gM post) 76 [(3, vI x16), (0, vR (60, 0)), (1, vI l1), (2, vI l2)] [vR (111, 0)] M18
          refine eg_sipush dX11_change_76 sp_360 ?_
          refine eg_iload_n 3 dX11_change_79 rfl rfl ?_
          refine eg_iadd dX11_change_80 ?_
          refine eg_iload_n 0 dX11_change_81 rfl rfl ?_
          refine en_iastore dX11_change_82 (arM_111 z1 g17) (fun M19 eM19 => ?_)
          have h := h M19 eM19
          refine eg_aload_n 1 dX11_change_83 rfl rfl ?_
          obtain ⟨q21, hq21, h⟩ := h
          refine eg_callVV (av := []) (st := []) dX11_change_84 ml_11_484 rfl rfl (obM_60 z1) (by decide) rfl (Nat.le_of_ble_eq_true rfl) (eg_dd hd) hq21 (fun M20 hp => ?_)
          have h := h M20 hp
          refine eg_iconst dX11_change_87 ic_1 ?_
          exact eg_zreturn dX11_change_88 rfl (Or.inr rfl) h
        · have h := h.2 c12
          refine eg_iconst dX11_change_35 ic_0 ?_
          exact eg_zreturn dX11_change_36 rfl (Or.inl rfl) h
theorem dX11_send_0 : decode cX11_send 0 = .ok (.aload_n 0, 1) := by decide +kernel
theorem dX11_send_1 : decode cX11_send 1 = .ok (.iconst 0, 1) := by decide +kernel
theorem dX11_send_2 : decode cX11_send 2 = .ok (.putfield 127, 3) := by decide +kernel
theorem dX11_send_5 : decode cX11_send 5 = .ok (.aload_n 0, 1) := by decide +kernel
theorem dX11_send_6 : decode cX11_send 6 = .ok (.iload_n 1, 1) := by decide +kernel
theorem dX11_send_7 : decode cX11_send 7 = .ok (.invokevirtual 472, 3) := by decide +kernel
theorem dX11_send_10 : decode cX11_send 10 = .ok (.ifCond .eq 16, 3) := by decide +kernel
theorem dX11_send_13 : decode cX11_send 13 = .ok (.aload_n 0, 1) := by decide +kernel
theorem dX11_send_14 : decode cX11_send 14 = .ok (.getfield 72, 3) := by decide +kernel
theorem dX11_send_17 : decode cX11_send 17 = .ok (.iload_n 1, 1) := by decide +kernel
theorem dX11_send_18 : decode cX11_send 18 = .ok (.invokestatic 372, 3) := by decide +kernel
theorem dX11_send_21 : decode cX11_send 21 = .ok (.iaload, 1) := by decide +kernel
theorem dX11_send_22 : decode cX11_send 22 = .ok (.iconst 3, 1) := by decide +kernel
theorem dX11_send_23 : decode cX11_send 23 = .ok (.if_icmp .ne 5, 3) := by decide +kernel
theorem dX11_send_26 : decode cX11_send 26 = .ok (.iconst 0, 1) := by decide +kernel
theorem dX11_send_27 : decode cX11_send 27 = .ok (.ireturn, 1) := by decide +kernel
theorem dX11_send_28 : decode cX11_send 28 = .ok (.aload_n 0, 1) := by decide +kernel
theorem dX11_send_29 : decode cX11_send 29 = .ok (.invokevirtual 481, 3) := by decide +kernel
theorem dX11_send_32 : decode cX11_send 32 = .ok (.iload_n 1, 1) := by decide +kernel
theorem dX11_send_33 : decode cX11_send 33 = .ok (.invokestatic 372, 3) := by decide +kernel
theorem dX11_send_36 : decode cX11_send 36 = .ok (.istore_n 2, 1) := by decide +kernel
theorem dX11_send_37 : decode cX11_send 37 = .ok (.aload_n 0, 1) := by decide +kernel
theorem dX11_send_38 : decode cX11_send 38 = .ok (.invokevirtual 243, 3) := by decide +kernel
theorem dX11_send_41 : decode cX11_send 41 = .ok (.aload_n 0, 1) := by decide +kernel
theorem dX11_send_42 : decode cX11_send 42 = .ok (.getfield 69, 3) := by decide +kernel
theorem dX11_send_45 : decode cX11_send 45 = .ok (.aload_n 0, 1) := by decide +kernel
theorem dX11_send_46 : decode cX11_send 46 = .ok (.getfield 72, 3) := by decide +kernel
theorem dX11_send_49 : decode cX11_send 49 = .ok (.invokestatic 249, 3) := by decide +kernel
theorem dX11_send_52 : decode cX11_send 52 = .ok (.aload_n 0, 1) := by decide +kernel
theorem dX11_send_53 : decode cX11_send 53 = .ok (.getfield 69, 3) := by decide +kernel
theorem dX11_send_56 : decode cX11_send 56 = .ok (.iload_n 2, 1) := by decide +kernel
theorem dX11_send_57 : decode cX11_send 57 = .ok (.iaload, 1) := by decide +kernel
theorem dX11_send_58 : decode cX11_send 58 = .ok (.iconst 1, 1) := by decide +kernel
theorem dX11_send_59 : decode cX11_send 59 = .ok (.if_icmp .ne 45, 3) := by decide +kernel
theorem dX11_send_62 : decode cX11_send 62 = .ok (.aload_n 0, 1) := by decide +kernel
theorem dX11_send_63 : decode cX11_send 63 = .ok (.getfield 69, 3) := by decide +kernel
theorem dX11_send_66 : decode cX11_send 66 = .ok (.iload_n 2, 1) := by decide +kernel
theorem dX11_send_67 : decode cX11_send 67 = .ok (.bipush 7, 2) := by decide +kernel
theorem dX11_send_69 : decode cX11_send 69 = .ok (.iadd, 1) := by decide +kernel
theorem dX11_send_70 : decode cX11_send 70 = .ok (.dup2, 1) := by decide +kernel
theorem dX11_send_71 : decode cX11_send 71 = .ok (.iaload, 1) := by decide +kernel
theorem dX11_send_72 : decode cX11_send 72 = .ok (.aload_n 0, 1) := by decide +kernel
theorem dX11_send_73 : decode cX11_send 73 = .ok (.iload_n 1, 1) := by decide +kernel
theorem dX11_send_74 : decode cX11_send 74 = .ok (.invokevirtual 412, 3) := by decide +kernel
theorem dX11_send_77 : decode cX11_send 77 = .ok (.iadd, 1) := by decide +kernel
theorem dX11_send_78 : decode cX11_send 78 = .ok (.iastore, 1) := by decide +kernel
theorem dX11_send_79 : decode cX11_send 79 = .ok (.iconst 0, 1) := by decide +kernel
theorem dX11_send_80 : decode cX11_send 80 = .ok (.istore_n 3, 1) := by decide +kernel
theorem dX11_send_81 : decode cX11_send 81 = .ok (.aload_n 0, 1) := by decide +kernel
theorem dX11_send_82 : decode cX11_send 82 = .ok (.getfield 69, 3) := by decide +kernel
theorem dX11_send_85 : decode cX11_send 85 = .ok (.iconst 2, 1) := by decide +kernel
theorem dX11_send_86 : decode cX11_send 86 = .ok (.iload_n 3, 1) := by decide +kernel
theorem dX11_send_87 : decode cX11_send 87 = .ok (.iadd, 1) := by decide +kernel
theorem dX11_send_88 : decode cX11_send 88 = .ok (.iaload, 1) := by decide +kernel
theorem dX11_send_89 : decode cX11_send 89 = .ok (.iload_n 1, 1) := by decide +kernel
theorem dX11_send_90 : decode cX11_send 90 = .ok (.if_icmp .eq 9, 3) := by decide +kernel
theorem dX11_send_93 : decode cX11_send 93 = .ok (.iinc 3 1, 3) := by decide +kernel
theorem dX11_send_96 : decode cX11_send 96 = .ok (.goto (-15), 3) := by decide +kernel
theorem dX11_send_99 : decode cX11_send 99 = .ok (.aload_n 0, 1) := by decide +kernel
theorem dX11_send_100 : decode cX11_send 100 = .ok (.iload_n 3, 1) := by decide +kernel
theorem dX11_send_101 : decode cX11_send 101 = .ok (.invokevirtual 431, 3) := by decide +kernel
theorem dX11_send_104 : decode cX11_send 104 = .ok (.aload_n 0, 1) := by decide +kernel
theorem dX11_send_105 : decode cX11_send 105 = .ok (.getfield 69, 3) := by decide +kernel
theorem dX11_send_108 : decode cX11_send 108 = .ok (.iload_n 2, 1) := by decide +kernel
theorem dX11_send_109 : decode cX11_send 109 = .ok (.iconst 3, 1) := by decide +kernel
theorem dX11_send_110 : decode cX11_send 110 = .ok (.iastore, 1) := by decide +kernel
theorem dX11_send_111 : decode cX11_send 111 = .ok (.aload_n 0, 1) := by decide +kernel
theorem dX11_send_112 : decode cX11_send 112 = .ok (.getfield 69, 3) := by decide +kernel
theorem dX11_send_115 : decode cX11_send 115 = .ok (.iload_n 2, 1) := by decide +kernel
theorem dX11_send_116 : decode cX11_send 116 = .ok (.iconst 1, 1) := by decide +kernel
theorem dX11_send_117 : decode cX11_send 117 = .ok (.iadd, 1) := by decide +kernel
theorem dX11_send_118 : decode cX11_send 118 = .ok (.iconst (-1), 1) := by decide +kernel
theorem dX11_send_119 : decode cX11_send 119 = .ok (.iastore, 1) := by decide +kernel
theorem dX11_send_120 : decode cX11_send 120 = .ok (.aload_n 0, 1) := by decide +kernel
theorem dX11_send_121 : decode cX11_send 121 = .ok (.getfield 69, 3) := by decide +kernel
theorem dX11_send_124 : decode cX11_send 124 = .ok (.iload_n 2, 1) := by decide +kernel
theorem dX11_send_125 : decode cX11_send 125 = .ok (.iconst 2, 1) := by decide +kernel
theorem dX11_send_126 : decode cX11_send 126 = .ok (.iadd, 1) := by decide +kernel
theorem dX11_send_127 : decode cX11_send 127 = .ok (.aload_n 0, 1) := by decide +kernel
theorem dX11_send_128 : decode cX11_send 128 = .ok (.getfield 32, 3) := by decide +kernel
theorem dX11_send_131 : decode cX11_send 131 = .ok (.iload_n 1, 1) := by decide +kernel
theorem dX11_send_132 : decode cX11_send 132 = .ok (.iaload, 1) := by decide +kernel
theorem dX11_send_133 : decode cX11_send 133 = .ok (.iastore, 1) := by decide +kernel
theorem dX11_send_134 : decode cX11_send 134 = .ok (.aload_n 0, 1) := by decide +kernel
theorem dX11_send_135 : decode cX11_send 135 = .ok (.getfield 69, 3) := by decide +kernel
theorem dX11_send_138 : decode cX11_send 138 = .ok (.iload_n 2, 1) := by decide +kernel
theorem dX11_send_139 : decode cX11_send 139 = .ok (.iconst 3, 1) := by decide +kernel
theorem dX11_send_140 : decode cX11_send 140 = .ok (.iadd, 1) := by decide +kernel
theorem dX11_send_141 : decode cX11_send 141 = .ok (.iconst 0, 1) := by decide +kernel
theorem dX11_send_142 : decode cX11_send 142 = .ok (.iastore, 1) := by decide +kernel
theorem dX11_send_143 : decode cX11_send 143 = .ok (.aload_n 0, 1) := by decide +kernel
theorem dX11_send_144 : decode cX11_send 144 = .ok (.getfield 72, 3) := by decide +kernel
theorem dX11_send_147 : decode cX11_send 147 = .ok (.aload_n 0, 1) := by decide +kernel
theorem dX11_send_148 : decode cX11_send 148 = .ok (.getfield 69, 3) := by decide +kernel
theorem dX11_send_151 : decode cX11_send 151 = .ok (.invokestatic 249, 3) := by decide +kernel
theorem dX11_send_154 : decode cX11_send 154 = .ok (.iconst 1, 1) := by decide +kernel
theorem dX11_send_155 : decode cX11_send 155 = .ok (.ireturn, 1) := by decide +kernel
set_option maxRecDepth 10000 in
theorem vX11_send_0 {κ : eg_K} {d : Nat} (hd : 1 ≤ d) {post : Int32 → eg_H → Prop} (M : eg_H) (l1 : Int32) (h : (∀ M1 : eg_H, M1 = (sI M (60, 0) 2 (0 : Int32)) → eCI κ gM mtX11_isGuest d [vR (60, 0), vI l1] M1 (fun x2 M3 => (x2 = 0 → post (0 : Int32) M3) ∧ ((¬ x2 = 0) → eCI κ gM mtX11_at d [vI l1] M3 (fun x6 M7 => (vp_in x6 366 ∧ ((¬ (M7.1 (111, 0) x6.toNatClampNeg) = (3 : Int32)) → eCV κ gM mtX11_remembers d [vR (60, 0)] M7 (fun M11 => eCI κ gM mtX11_at d [vI l1] M11 (fun x13 M14 => eCV κ gM mtX11_clears d [vR (60, 0)] M14 (fun M16 => eCV κ gM mtX11_lays d [vR (110, 0), vR (111, 0)] M16 (fun M18 => (vp_in x13 366 ∧ ((¬ (M18.1 (110, 0) x13.toNatClampNeg) = (1 : Int32)) → (∀ M22 : eg_H, M22 = (sI M18 (110, 0) x13.toNatClampNeg (3 : Int32)) → (vp_in (x13 + (1 : Int32)) 366 ∧ (∀ M24 : eg_H, M24 = (sI M22 (110, 0) (x13 + (1 : Int32)).toNatClampNeg (-1 : Int32)) → (vp_in l1 24 ∧ (vp_in (x13 + (2 : Int32)) 366 ∧ (∀ M27 : eg_H, M27 = (sI M24 (110, 0) (x13 + (2 : Int32)).toNatClampNeg (M24.1 (92, 0) l1.toNatClampNeg)) → (vp_in (x13 + (3 : Int32)) 366 ∧ (∀ M29 : eg_H, M29 = (sI M27 (110, 0) (x13 + (3 : Int32)).toNatClampNeg (0 : Int32)) → eCV κ gM mtX11_lays d [vR (111, 0), vR (110, 0)] M29 (fun M30 => post (1 : Int32) M30)))))))))) ∧ ((M18.1 (110, 0) x13.toNatClampNeg) = (1 : Int32) → (vp_in (x13 + (7 : Int32)) 366 ∧ eCI κ gM mtX11_plateOf d [vR (60, 0), vI l1] M18 (fun x33 M34 => (∀ M36 : eg_H, M36 = (sI M34 (110, 0) (x13 + (7 : Int32)).toNatClampNeg ((M18.1 (110, 0) (x13 + (7 : Int32)).toNatClampNeg) + x33)) → eg_W κ gM mtX11_send d (eQI κ gM post) 81 [(0, vR (60, 0)), (1, vI l1), (2, vI x13), (3, vI (0 : Int32))] [] M36)))))))))) ∧ ((M7.1 (111, 0) x6.toNatClampNeg) = (3 : Int32) → post (0 : Int32) M7))))))) : eg_W κ gM mtX11_send d (eQI κ gM post) 0 [(0, vR (60, 0)), (1, vI l1)] [] M := by
  refine eg_aload_n 0 dX11_send_0 rfl rfl ?_
  refine eg_iconst dX11_send_1 ic_0 ?_
  refine en_putI dX11_send_2 fl_11_127 rfl rfl (obM_60 z1) (fun M1 eM1 => ?_)
  have h := h M1 eM1
  refine eg_aload_n 0 dX11_send_5 rfl rfl ?_
  refine eg_iload_n 1 dX11_send_6 rfl rfl ?_
  obtain ⟨q4, hq4, h⟩ := h
  refine eg_callVI (av := [vI l1]) (st := []) dX11_send_7 ml_11_472 rfl rfl (obM_60 z1) (by decide) rfl (Nat.le_of_ble_eq_true rfl) (eg_dd hd) hq4 (fun x2 M3 hp => ?_)
  have h := h x2 M3 hp
  refine eg_if_eq (tgt := 26) dX11_send_10 rfl (fun c5 => ?_) (fun c5 => ?_)
  · have h := h.1 c5
    refine eg_iconst dX11_send_26 ic_0 ?_
    exact eg_zreturn dX11_send_27 rfl (Or.inl rfl) h
  · have h := h.2 c5
    refine eg_aload_n 0 dX11_send_13 rfl rfl ?_
    refine eg_getR dX11_send_14 fl_11_72 rfl rfl (obM_60 z1) ?_
    show eg_W κ gM mtX11_send d (eQI κ gM post) 17 [(0, vR (60, 0)), (1, vI l1)] [vR (111, 0)] M3
    refine eg_iload_n 1 dX11_send_17 rfl rfl ?_
    obtain ⟨q8, hq8, h⟩ := h
    refine eg_callSI (av := [vI l1]) (st := [vR (111, 0)]) dX11_send_18 ml_11_372 rfl rfl (Nat.le_of_ble_eq_true rfl) (eg_dd hd) hq8 (fun x6 M7 hp => ?_)
    have h := h x6 M7 hp
    obtain ⟨g9, h⟩ := h
    refine eg_iaload dX11_send_21 (arM_111 z1 g9) ?_
    refine eg_iconst dX11_send_22 ic_3 ?_
    refine eg_icmp_ne (tgt := 28) dX11_send_23 rfl (fun c10 => ?_) (fun c10 => ?_)
    · have h := h.1 c10
      refine eg_aload_n 0 dX11_send_28 rfl rfl ?_
      obtain ⟨q12, hq12, h⟩ := h
      refine eg_callVV (av := []) (st := []) dX11_send_29 ml_11_481 rfl rfl (obM_60 z1) (by decide) rfl (Nat.le_of_ble_eq_true rfl) (eg_dd hd) hq12 (fun M11 hp => ?_)
      have h := h M11 hp
      refine eg_iload_n 1 dX11_send_32 rfl rfl ?_
      obtain ⟨q15, hq15, h⟩ := h
      refine eg_callSI (av := [vI l1]) (st := []) dX11_send_33 ml_11_372 rfl rfl (Nat.le_of_ble_eq_true rfl) (eg_dd hd) hq15 (fun x13 M14 hp => ?_)
      have h := h x13 M14 hp
      refine eg_istore_n dX11_send_36 rfl (by decide) (ls1 := [(2, vI x13), (0, vR (60, 0)), (1, vI l1)]) rfl ?_
      refine eg_aload_n 1 dX11_send_37 rfl rfl ?_
      obtain ⟨q17, hq17, h⟩ := h
      refine eg_callVV (av := []) (st := []) dX11_send_38 ml_11_243 rfl rfl (obM_60 z1) (by decide) rfl (Nat.le_of_ble_eq_true rfl) (eg_dd hd) hq17 (fun M16 hp => ?_)
      have h := h M16 hp
      refine eg_aload_n 1 dX11_send_41 rfl rfl ?_
      refine eg_getR dX11_send_42 fl_11_69 rfl rfl (obM_60 z1) ?_
      show eg_W κ gM mtX11_send d (eQI κ gM post) 45 [(2, vI x13), (0, vR (60, 0)), (1, vI l1)] [vR (110, 0)] M16
      refine eg_aload_n 1 dX11_send_45 rfl rfl ?_
      refine eg_getR dX11_send_46 fl_11_72 rfl rfl (obM_60 z1) ?_
      show eg_W κ gM mtX11_send d (eQI κ gM post) 49 [(2, vI x13), (0, vR (60, 0)), (1, vI l1)] [vR (111, 0), vR (110, 0)] M16
      obtain ⟨q19, hq19, h⟩ := h
      refine eg_callSV (av := [vR (110, 0), vR (111, 0)]) (st := []) dX11_send_49 ml_11_249 rfl rfl (Nat.le_of_ble_eq_true rfl) (eg_dd hd) hq19 (fun M18 hp => ?_)
      have h := h M18 hp
      refine eg_aload_n 1 dX11_send_52 rfl rfl ?_
      refine eg_getR dX11_send_53 fl_11_69 rfl rfl (obM_60 z1) ?_
      show eg_W κ gM mtX11_send d (eQI κ gM post) 56 [(2, vI x13), (0, vR (60, 0)), (1, vI l1)] [vR (110, 0)] M18
      refine eg_iload_n 0 dX11_send_56 rfl rfl ?_
      obtain ⟨g20, h⟩ := h
      refine eg_iaload dX11_send_57 (arM_110 z1 g20) ?_
      refine eg_iconst dX11_send_58 ic_1 ?_
      refine eg_icmp_ne (tgt := 104) dX11_send_59 rfl (fun c21 => ?_) (fun c21 => ?_)
      · have h := h.1 c21
        refine eg_aload_n 1 dX11_send_104 rfl rfl ?_
        refine eg_getR dX11_send_105 fl_11_69 rfl rfl (obM_60 z1) ?_
        show eg_W κ gM mtX11_send d (eQI κ gM post) 108 [(2, vI x13), (0, vR (60, 0)), (1, vI l1)] [vR (110, 0)] M18
        refine eg_iload_n 0 dX11_send_108 rfl rfl ?_
        refine eg_iconst dX11_send_109 ic_3 ?_
        refine en_iastore dX11_send_110 (arM_110 z1 g20) (fun M22 eM22 => ?_)
        have h := h M22 eM22
        refine eg_aload_n 1 dX11_send_111 rfl rfl ?_
        refine eg_getR dX11_send_112 fl_11_69 rfl rfl (obM_60 z1) ?_
        show eg_W κ gM mtX11_send d (eQI κ gM post) 115 [(2, vI x13), (0, vR (60, 0)), (1, vI l1)] [vR (110, 0)] M22
        refine eg_iload_n 0 dX11_send_115 rfl rfl ?_
        refine eg_iconst dX11_send_116 ic_1 ?_
        refine eg_iadd dX11_send_117 ?_
        refine eg_iconst dX11_send_118 ic_m1 ?_
        obtain ⟨g23, h⟩ := h
        refine en_iastore dX11_send_119 (arM_110 z1 g23) (fun M24 eM24 => ?_)
        have h := h M24 eM24
        refine eg_aload_n 1 dX11_send_120 rfl rfl ?_
        refine eg_getR dX11_send_121 fl_11_69 rfl rfl (obM_60 z1) ?_
        show eg_W κ gM mtX11_send d (eQI κ gM post) 124 [(2, vI x13), (0, vR (60, 0)), (1, vI l1)] [vR (110, 0)] M24
        refine eg_iload_n 0 dX11_send_124 rfl rfl ?_
        refine eg_iconst dX11_send_125 ic_2 ?_
        refine eg_iadd dX11_send_126 ?_
        refine eg_aload_n 1 dX11_send_127 rfl rfl ?_
        refine eg_getR dX11_send_128 fl_11_32 rfl rfl (obM_60 z1) ?_
        show eg_W κ gM mtX11_send d (eQI κ gM post) 131 [(2, vI x13), (0, vR (60, 0)), (1, vI l1)] [vR (92, 0), vI (x13 + (2 : Int32)), vR (110, 0)] M24
        refine eg_iload_n 2 dX11_send_131 rfl rfl ?_
        obtain ⟨g25, h⟩ := h
        refine eg_iaload dX11_send_132 (arM_92 z1 g25) ?_
        obtain ⟨g26, h⟩ := h
        refine en_iastore dX11_send_133 (arM_110 z1 g26) (fun M27 eM27 => ?_)
        have h := h M27 eM27
        refine eg_aload_n 1 dX11_send_134 rfl rfl ?_
        refine eg_getR dX11_send_135 fl_11_69 rfl rfl (obM_60 z1) ?_
        show eg_W κ gM mtX11_send d (eQI κ gM post) 138 [(2, vI x13), (0, vR (60, 0)), (1, vI l1)] [vR (110, 0)] M27
        refine eg_iload_n 0 dX11_send_138 rfl rfl ?_
        refine eg_iconst dX11_send_139 ic_3 ?_
        refine eg_iadd dX11_send_140 ?_
        refine eg_iconst dX11_send_141 ic_0 ?_
        obtain ⟨g28, h⟩ := h
        refine en_iastore dX11_send_142 (arM_110 z1 g28) (fun M29 eM29 => ?_)
        have h := h M29 eM29
        refine eg_aload_n 1 dX11_send_143 rfl rfl ?_
        refine eg_getR dX11_send_144 fl_11_72 rfl rfl (obM_60 z1) ?_
        show eg_W κ gM mtX11_send d (eQI κ gM post) 147 [(2, vI x13), (0, vR (60, 0)), (1, vI l1)] [vR (111, 0)] M29
        refine eg_aload_n 1 dX11_send_147 rfl rfl ?_
        refine eg_getR dX11_send_148 fl_11_69 rfl rfl (obM_60 z1) ?_
        show eg_W κ gM mtX11_send d (eQI κ gM post) 151 [(2, vI x13), (0, vR (60, 0)), (1, vI l1)] [vR (110, 0), vR (111, 0)] M29
        obtain ⟨q31, hq31, h⟩ := h
        refine eg_callSV (av := [vR (111, 0), vR (110, 0)]) (st := []) dX11_send_151 ml_11_249 rfl rfl (Nat.le_of_ble_eq_true rfl) (eg_dd hd) hq31 (fun M30 hp => ?_)
        have h := h M30 hp
        refine eg_iconst dX11_send_154 ic_1 ?_
        exact eg_zreturn dX11_send_155 rfl (Or.inr rfl) h
      · have h := h.2 c21
        refine eg_aload_n 1 dX11_send_62 rfl rfl ?_
        refine eg_getR dX11_send_63 fl_11_69 rfl rfl (obM_60 z1) ?_
        show eg_W κ gM mtX11_send d (eQI κ gM post) 66 [(2, vI x13), (0, vR (60, 0)), (1, vI l1)] [vR (110, 0)] M18
        refine eg_iload_n 0 dX11_send_66 rfl rfl ?_
        refine eg_bipush dX11_send_67 bp_7 ?_
        refine eg_iadd dX11_send_69 ?_
        refine eg_dup2 dX11_send_70 rfl rfl ?_
        obtain ⟨g32, h⟩ := h
        refine eg_iaload dX11_send_71 (arM_110 z1 g32) ?_
        refine eg_aload_n 1 dX11_send_72 rfl rfl ?_
        refine eg_iload_n 2 dX11_send_73 rfl rfl ?_
        obtain ⟨q35, hq35, h⟩ := h
        refine eg_callVI (av := [vI l1]) (st := [vI (M18.1 (110, 0) (x13 + (7 : Int32)).toNatClampNeg), vI (x13 + (7 : Int32)), vR (110, 0)]) dX11_send_74 ml_11_412 rfl rfl (obM_60 z1) (by decide) rfl (Nat.le_of_ble_eq_true rfl) (eg_dd hd) hq35 (fun x33 M34 hp => ?_)
        have h := h x33 M34 hp
        refine eg_iadd dX11_send_77 ?_
        refine en_iastore dX11_send_78 (arM_110 z1 g32) (fun M36 eM36 => ?_)
        have h := h M36 eM36
        refine eg_iconst dX11_send_79 ic_0 ?_
        refine eg_istore_n dX11_send_80 rfl (by decide) (ls1 := [(3, vI (0 : Int32)), (2, vI x13), (0, vR (60, 0)), (1, vI l1)]) rfl ?_
        refine eg_sub [2, 3, 1, 0] rfl ?_
        exact h
    · have h := h.2 c10
      refine eg_iconst dX11_send_26 ic_0 ?_
      exact eg_zreturn dX11_send_27 rfl (Or.inl rfl) h
set_option maxRecDepth 10000 in
theorem vX11_send_81 {κ : eg_K} {d : Nat} (hd : 1 ≤ d) {post : Int32 → eg_H → Prop} (M : eg_H) (l1 : Int32) (l2 : Int32) (l3 : Int32) (h : (vp_in ((2 : Int32) + l3) 366 ∧ ((M.1 (110, 0) ((2 : Int32) + l3).toNatClampNeg) = l1 → eCV κ gM mtX11_outOfLine d [vR (60, 0), vI l3] M (fun M3 => (vp_in l2 366 ∧ (∀ M6 : eg_H, M6 = (sI M3 (110, 0) l2.toNatClampNeg (3 : Int32)) → (vp_in (l2 + (1 : Int32)) 366 ∧ (∀ M8 : eg_H, M8 = (sI M6 (110, 0) (l2 + (1 : Int32)).toNatClampNeg (-1 : Int32)) → (vp_in l1 24 ∧ (vp_in (l2 + (2 : Int32)) 366 ∧ (∀ M11 : eg_H, M11 = (sI M8 (110, 0) (l2 + (2 : Int32)).toNatClampNeg (M8.1 (92, 0) l1.toNatClampNeg)) → (vp_in (l2 + (3 : Int32)) 366 ∧ (∀ M13 : eg_H, M13 = (sI M11 (110, 0) (l2 + (3 : Int32)).toNatClampNeg (0 : Int32)) → eCV κ gM mtX11_lays d [vR (111, 0), vR (110, 0)] M13 (fun M14 => post (1 : Int32) M14)))))))))))) ∧ ((¬ (M.1 (110, 0) ((2 : Int32) + l3).toNatClampNeg) = l1) → (∀ x16 : Int32, x16 = (l3 + (1 : Int32)) → eg_W κ gM mtX11_send d (eQI κ gM post) 81 [(0, vR (60, 0)), (1, vI l1), (2, vI l2), (3, vI x16)] [] M)))) : eg_W κ gM mtX11_send d (eQI κ gM post) 81 [(0, vR (60, 0)), (1, vI l1), (2, vI l2), (3, vI l3)] [] M := by
  refine eg_aload_n 0 dX11_send_81 rfl rfl ?_
  refine eg_getR dX11_send_82 fl_11_69 rfl rfl (obM_60 z1) ?_
  show eg_W κ gM mtX11_send d (eQI κ gM post) 85 [(0, vR (60, 0)), (1, vI l1), (2, vI l2), (3, vI l3)] [vR (110, 0)] M
  refine eg_iconst dX11_send_85 ic_2 ?_
  refine eg_iload_n 3 dX11_send_86 rfl rfl ?_
  refine eg_iadd dX11_send_87 ?_
  obtain ⟨g1, h⟩ := h
  refine eg_iaload dX11_send_88 (arM_110 z1 g1) ?_
  refine eg_iload_n 1 dX11_send_89 rfl rfl ?_
  refine eg_icmp_eq (tgt := 99) dX11_send_90 rfl (fun c2 => ?_) (fun c2 => ?_)
  · have h := h.1 c2
    refine eg_aload_n 0 dX11_send_99 rfl rfl ?_
    refine eg_iload_n 3 dX11_send_100 rfl rfl ?_
    obtain ⟨q4, hq4, h⟩ := h
    refine eg_callVV (av := [vI l3]) (st := []) dX11_send_101 ml_11_431 rfl rfl (obM_60 z1) (by decide) rfl (Nat.le_of_ble_eq_true rfl) (eg_dd hd) hq4 (fun M3 hp => ?_)
    have h := h M3 hp
    refine eg_aload_n 0 dX11_send_104 rfl rfl ?_
    refine eg_getR dX11_send_105 fl_11_69 rfl rfl (obM_60 z1) ?_
    show eg_W κ gM mtX11_send d (eQI κ gM post) 108 [(0, vR (60, 0)), (1, vI l1), (2, vI l2), (3, vI l3)] [vR (110, 0)] M3
    refine eg_iload_n 2 dX11_send_108 rfl rfl ?_
    refine eg_iconst dX11_send_109 ic_3 ?_
    obtain ⟨g5, h⟩ := h
    refine en_iastore dX11_send_110 (arM_110 z1 g5) (fun M6 eM6 => ?_)
    have h := h M6 eM6
    refine eg_aload_n 0 dX11_send_111 rfl rfl ?_
    refine eg_getR dX11_send_112 fl_11_69 rfl rfl (obM_60 z1) ?_
    show eg_W κ gM mtX11_send d (eQI κ gM post) 115 [(0, vR (60, 0)), (1, vI l1), (2, vI l2), (3, vI l3)] [vR (110, 0)] M6
    refine eg_iload_n 2 dX11_send_115 rfl rfl ?_
    refine eg_iconst dX11_send_116 ic_1 ?_
    refine eg_iadd dX11_send_117 ?_
    refine eg_iconst dX11_send_118 ic_m1 ?_
    obtain ⟨g7, h⟩ := h
    refine en_iastore dX11_send_119 (arM_110 z1 g7) (fun M8 eM8 => ?_)
    have h := h M8 eM8
    refine eg_aload_n 0 dX11_send_120 rfl rfl ?_
    refine eg_getR dX11_send_121 fl_11_69 rfl rfl (obM_60 z1) ?_
    show eg_W κ gM mtX11_send d (eQI κ gM post) 124 [(0, vR (60, 0)), (1, vI l1), (2, vI l2), (3, vI l3)] [vR (110, 0)] M8
    refine eg_iload_n 2 dX11_send_124 rfl rfl ?_
    refine eg_iconst dX11_send_125 ic_2 ?_
    refine eg_iadd dX11_send_126 ?_
    refine eg_aload_n 0 dX11_send_127 rfl rfl ?_
    refine eg_getR dX11_send_128 fl_11_32 rfl rfl (obM_60 z1) ?_
    show eg_W κ gM mtX11_send d (eQI κ gM post) 131 [(0, vR (60, 0)), (1, vI l1), (2, vI l2), (3, vI l3)] [vR (92, 0), vI (l2 + (2 : Int32)), vR (110, 0)] M8
    refine eg_iload_n 1 dX11_send_131 rfl rfl ?_
    obtain ⟨g9, h⟩ := h
    refine eg_iaload dX11_send_132 (arM_92 z1 g9) ?_
    obtain ⟨g10, h⟩ := h
    refine en_iastore dX11_send_133 (arM_110 z1 g10) (fun M11 eM11 => ?_)
    have h := h M11 eM11
    refine eg_aload_n 0 dX11_send_134 rfl rfl ?_
    refine eg_getR dX11_send_135 fl_11_69 rfl rfl (obM_60 z1) ?_
    show eg_W κ gM mtX11_send d (eQI κ gM post) 138 [(0, vR (60, 0)), (1, vI l1), (2, vI l2), (3, vI l3)] [vR (110, 0)] M11
    refine eg_iload_n 2 dX11_send_138 rfl rfl ?_
    refine eg_iconst dX11_send_139 ic_3 ?_
    refine eg_iadd dX11_send_140 ?_
    refine eg_iconst dX11_send_141 ic_0 ?_
    obtain ⟨g12, h⟩ := h
    refine en_iastore dX11_send_142 (arM_110 z1 g12) (fun M13 eM13 => ?_)
    have h := h M13 eM13
    refine eg_aload_n 0 dX11_send_143 rfl rfl ?_
    refine eg_getR dX11_send_144 fl_11_72 rfl rfl (obM_60 z1) ?_
    show eg_W κ gM mtX11_send d (eQI κ gM post) 147 [(0, vR (60, 0)), (1, vI l1), (2, vI l2), (3, vI l3)] [vR (111, 0)] M13
    refine eg_aload_n 0 dX11_send_147 rfl rfl ?_
    refine eg_getR dX11_send_148 fl_11_69 rfl rfl (obM_60 z1) ?_
    show eg_W κ gM mtX11_send d (eQI κ gM post) 151 [(0, vR (60, 0)), (1, vI l1), (2, vI l2), (3, vI l3)] [vR (110, 0), vR (111, 0)] M13
    obtain ⟨q15, hq15, h⟩ := h
    refine eg_callSV (av := [vR (111, 0), vR (110, 0)]) (st := []) dX11_send_151 ml_11_249 rfl rfl (Nat.le_of_ble_eq_true rfl) (eg_dd hd) hq15 (fun M14 hp => ?_)
    have h := h M14 hp
    refine eg_iconst dX11_send_154 ic_1 ?_
    exact eg_zreturn dX11_send_155 rfl (Or.inr rfl) h
  · have h := h.2 c2
    refine en_iinc (f := fun x16 => [(3, vI x16), (0, vR (60, 0)), (1, vI l1), (2, vI l2)]) 3 dX11_send_93 rfl rfl (by decide) rfl (fun x16 ex16 => ?_)
    have h := h x16 ex16
    refine eg_goto (tgt := 81) dX11_send_96 rfl ?_
    refine eg_sub [1, 2, 3, 0] rfl ?_
    exact h
theorem dX11_undo_0 : decode cX11_undo 0 = .ok (.aload_n 0, 1) := by decide +kernel
theorem dX11_undo_1 : decode cX11_undo 1 = .ok (.iconst 0, 1) := by decide +kernel
theorem dX11_undo_2 : decode cX11_undo 2 = .ok (.putfield 127, 3) := by decide +kernel
theorem dX11_undo_5 : decode cX11_undo 5 = .ok (.aload_n 0, 1) := by decide +kernel
theorem dX11_undo_6 : decode cX11_undo 6 = .ok (.getfield 237, 3) := by decide +kernel
theorem dX11_undo_9 : decode cX11_undo 9 = .ok (.ifCond .ne 5, 3) := by decide +kernel
theorem dX11_undo_12 : decode cX11_undo 12 = .ok (.iconst (-1), 1) := by decide +kernel
theorem dX11_undo_13 : decode cX11_undo 13 = .ok (.ireturn, 1) := by decide +kernel
theorem dX11_undo_14 : decode cX11_undo 14 = .ok (.aload_n 0, 1) := by decide +kernel
theorem dX11_undo_15 : decode cX11_undo 15 = .ok (.dup, 1) := by decide +kernel
theorem dX11_undo_16 : decode cX11_undo 16 = .ok (.getfield 237, 3) := by decide +kernel
theorem dX11_undo_19 : decode cX11_undo 19 = .ok (.iconst 1, 1) := by decide +kernel
theorem dX11_undo_20 : decode cX11_undo 20 = .ok (.isub, 1) := by decide +kernel
theorem dX11_undo_21 : decode cX11_undo 21 = .ok (.putfield 237, 3) := by decide +kernel
theorem dX11_undo_24 : decode cX11_undo 24 = .ok (.iconst 0, 1) := by decide +kernel
theorem dX11_undo_25 : decode cX11_undo 25 = .ok (.istore_n 1, 1) := by decide +kernel
theorem dX11_undo_26 : decode cX11_undo 26 = .ok (.iload_n 1, 1) := by decide +kernel
theorem dX11_undo_27 : decode cX11_undo 27 = .ok (.sipush 366, 3) := by decide +kernel
theorem dX11_undo_30 : decode cX11_undo 30 = .ok (.if_icmp .ge 30, 3) := by decide +kernel
theorem dX11_undo_33 : decode cX11_undo 33 = .ok (.aload_n 0, 1) := by decide +kernel
theorem dX11_undo_34 : decode cX11_undo 34 = .ok (.getfield 72, 3) := by decide +kernel
theorem dX11_undo_37 : decode cX11_undo 37 = .ok (.iload_n 1, 1) := by decide +kernel
theorem dX11_undo_38 : decode cX11_undo 38 = .ok (.aload_n 0, 1) := by decide +kernel
theorem dX11_undo_39 : decode cX11_undo 39 = .ok (.getfield 91, 3) := by decide +kernel
theorem dX11_undo_42 : decode cX11_undo 42 = .ok (.sipush 366, 3) := by decide +kernel
theorem dX11_undo_45 : decode cX11_undo 45 = .ok (.aload_n 0, 1) := by decide +kernel
theorem dX11_undo_46 : decode cX11_undo 46 = .ok (.getfield 237, 3) := by decide +kernel
theorem dX11_undo_49 : decode cX11_undo 49 = .ok (.imul, 1) := by decide +kernel
theorem dX11_undo_50 : decode cX11_undo 50 = .ok (.iload_n 1, 1) := by decide +kernel
theorem dX11_undo_51 : decode cX11_undo 51 = .ok (.iadd, 1) := by decide +kernel
theorem dX11_undo_52 : decode cX11_undo 52 = .ok (.iaload, 1) := by decide +kernel
theorem dX11_undo_53 : decode cX11_undo 53 = .ok (.iastore, 1) := by decide +kernel
theorem dX11_undo_54 : decode cX11_undo 54 = .ok (.iinc 1 1, 3) := by decide +kernel
theorem dX11_undo_57 : decode cX11_undo 57 = .ok (.goto (-31), 3) := by decide +kernel
theorem dX11_undo_60 : decode cX11_undo 60 = .ok (.aload_n 0, 1) := by decide +kernel
theorem dX11_undo_61 : decode cX11_undo 61 = .ok (.invokevirtual 484, 3) := by decide +kernel
theorem dX11_undo_64 : decode cX11_undo 64 = .ok (.aload_n 0, 1) := by decide +kernel
theorem dX11_undo_65 : decode cX11_undo 65 = .ok (.getfield 237, 3) := by decide +kernel
theorem dX11_undo_68 : decode cX11_undo 68 = .ok (.ireturn, 1) := by decide +kernel
set_option maxRecDepth 10000 in
theorem vX11_undo_0 {κ : eg_K} {d : Nat} {post : Int32 → eg_H → Prop} (M : eg_H)  (h : (∀ M1 : eg_H, M1 = (sI M (60, 0) 2 (0 : Int32)) → ((¬ (M1.1 (60, 0) 69) = 0) → (∀ M3 : eg_H, M3 = (sI M1 (60, 0) 69 ((M1.1 (60, 0) 69) - (1 : Int32))) → eg_W κ gM mtX11_undo d (eQI κ gM post) 26 [(0, vR (60, 0)), (1, vI (0 : Int32))] [] M3)) ∧ ((M1.1 (60, 0) 69) = 0 → post (-1 : Int32) M1))) : eg_W κ gM mtX11_undo d (eQI κ gM post) 0 [(0, vR (60, 0))] [] M := by
  refine eg_aload_n 0 dX11_undo_0 rfl rfl ?_
  refine eg_iconst dX11_undo_1 ic_0 ?_
  refine en_putI dX11_undo_2 fl_11_127 rfl rfl (obM_60 z1) (fun M1 eM1 => ?_)
  have h := h M1 eM1
  refine eg_aload_n 0 dX11_undo_5 rfl rfl ?_
  refine eg_getI dX11_undo_6 fl_11_237 rfl trivial (obM_60 z1) ?_
  refine eg_if_ne (tgt := 14) dX11_undo_9 rfl (fun c2 => ?_) (fun c2 => ?_)
  · have h := h.1 c2
    refine eg_aload_n 0 dX11_undo_14 rfl rfl ?_
    refine eg_dup dX11_undo_15 rfl ?_
    refine eg_getI dX11_undo_16 fl_11_237 rfl trivial (obM_60 z1) ?_
    refine eg_iconst dX11_undo_19 ic_1 ?_
    refine eg_isub dX11_undo_20 ?_
    refine en_putI dX11_undo_21 fl_11_237 rfl rfl (obM_60 z1) (fun M3 eM3 => ?_)
    have h := h M3 eM3
    refine eg_iconst dX11_undo_24 ic_0 ?_
    refine eg_istore_n dX11_undo_25 rfl (by decide) (ls1 := [(1, vI (0 : Int32)), (0, vR (60, 0))]) rfl ?_
    refine eg_sub [1, 0] rfl ?_
    exact h
  · have h := h.2 c2
    refine eg_iconst dX11_undo_12 ic_m1 ?_
    exact eg_ireturn dX11_undo_13 rfl h
set_option maxRecDepth 10000 in
theorem vX11_undo_26 {κ : eg_K} {d : Nat} (hd : 1 ≤ d) {post : Int32 → eg_H → Prop} (M : eg_H) (l1 : Int32) (h : ((366 : Int32) ≤ l1 → eCV κ gM mtX11_layRow d [vR (60, 0)] M (fun M2 => post (M2.1 (60, 0) 69) M2)) ∧ ((¬ (366 : Int32) ≤ l1) → (vp_in (((366 : Int32) * (M.1 (60, 0) 69)) + l1) 7320 ∧ (vp_in l1 366 ∧ (∀ M6 : eg_H, M6 = (sI M (111, 0) l1.toNatClampNeg (M.1 (131, 0) (((366 : Int32) * (M.1 (60, 0) 69)) + l1).toNatClampNeg)) → (∀ x7 : Int32, x7 = (l1 + (1 : Int32)) → eg_W κ gM mtX11_undo d (eQI κ gM post) 26 [(0, vR (60, 0)), (1, vI x7)] [] M6)))))) : eg_W κ gM mtX11_undo d (eQI κ gM post) 26 [(0, vR (60, 0)), (1, vI l1)] [] M := by
  refine eg_iload_n 1 dX11_undo_26 rfl rfl ?_
  refine eg_sipush dX11_undo_27 sp_366 ?_
  refine eg_icmp_ge (tgt := 60) dX11_undo_30 rfl (fun c1 => ?_) (fun c1 => ?_)
  · have h := h.1 c1
    refine eg_aload_n 0 dX11_undo_60 rfl rfl ?_
    obtain ⟨q3, hq3, h⟩ := h
    refine eg_callVV (av := []) (st := []) dX11_undo_61 ml_11_484 rfl rfl (obM_60 z1) (by decide) rfl (Nat.le_of_ble_eq_true rfl) (eg_dd hd) hq3 (fun M2 hp => ?_)
    have h := h M2 hp
    refine eg_aload_n 0 dX11_undo_64 rfl rfl ?_
    refine eg_getI dX11_undo_65 fl_11_237 rfl trivial (obM_60 z1) ?_
    exact eg_ireturn dX11_undo_68 rfl h
  · have h := h.2 c1
    refine eg_aload_n 0 dX11_undo_33 rfl rfl ?_
    refine eg_getR dX11_undo_34 fl_11_72 rfl rfl (obM_60 z1) ?_
    show eg_W κ gM mtX11_undo d (eQI κ gM post) 37 [(0, vR (60, 0)), (1, vI l1)] [vR (111, 0)] M
    refine eg_iload_n 1 dX11_undo_37 rfl rfl ?_
    refine eg_aload_n 0 dX11_undo_38 rfl rfl ?_
    refine eg_getR dX11_undo_39 fl_11_91 rfl rfl (obM_60 z1) ?_
    show eg_W κ gM mtX11_undo d (eQI κ gM post) 42 [(0, vR (60, 0)), (1, vI l1)] [vR (131, 0), vI l1, vR (111, 0)] M
    refine eg_sipush dX11_undo_42 sp_366 ?_
    refine eg_aload_n 0 dX11_undo_45 rfl rfl ?_
    refine eg_getI dX11_undo_46 fl_11_237 rfl trivial (obM_60 z1) ?_
    refine eg_imul dX11_undo_49 ?_
    refine eg_iload_n 1 dX11_undo_50 rfl rfl ?_
    refine eg_iadd dX11_undo_51 ?_
    obtain ⟨g4, h⟩ := h
    refine eg_iaload dX11_undo_52 (arM_131 z1 g4) ?_
    obtain ⟨g5, h⟩ := h
    refine en_iastore dX11_undo_53 (arM_111 z1 g5) (fun M6 eM6 => ?_)
    have h := h M6 eM6
    refine en_iinc (f := fun x7 => [(1, vI x7), (0, vR (60, 0))]) 1 dX11_undo_54 rfl rfl (by decide) rfl (fun x7 ex7 => ?_)
    have h := h x7 ex7
    refine eg_goto (tgt := 26) dX11_undo_57 rfl ?_
    refine eg_sub [1, 0] rfl ?_
    exact h
theorem dX11_waited_0 : decode cX11_waited 0 = .ok (.aload_n 0, 1) := by decide +kernel
theorem dX11_waited_1 : decode cX11_waited 1 = .ok (.iconst 0, 1) := by decide +kernel
theorem dX11_waited_2 : decode cX11_waited 2 = .ok (.putfield 127, 3) := by decide +kernel
theorem dX11_waited_5 : decode cX11_waited 5 = .ok (.iload_n 1, 1) := by decide +kernel
theorem dX11_waited_6 : decode cX11_waited 6 = .ok (.invokestatic 487, 3) := by decide +kernel
theorem dX11_waited_9 : decode cX11_waited 9 = .ok (.ifCond .ne 5, 3) := by decide +kernel
theorem dX11_waited_12 : decode cX11_waited 12 = .ok (.iconst (-1), 1) := by decide +kernel
theorem dX11_waited_13 : decode cX11_waited 13 = .ok (.ireturn, 1) := by decide +kernel
theorem dX11_waited_14 : decode cX11_waited 14 = .ok (.aload_n 0, 1) := by decide +kernel
theorem dX11_waited_15 : decode cX11_waited 15 = .ok (.invokevirtual 243, 3) := by decide +kernel
theorem dX11_waited_18 : decode cX11_waited 18 = .ok (.aload_n 0, 1) := by decide +kernel
theorem dX11_waited_19 : decode cX11_waited 19 = .ok (.iload_n 1, 1) := by decide +kernel
theorem dX11_waited_20 : decode cX11_waited 20 = .ok (.invokevirtual 490, 3) := by decide +kernel
theorem dX11_waited_23 : decode cX11_waited 23 = .ok (.aload_n 0, 1) := by decide +kernel
theorem dX11_waited_24 : decode cX11_waited 24 = .ok (.iconst (-1), 1) := by decide +kernel
theorem dX11_waited_25 : decode cX11_waited 25 = .ok (.invokevirtual 493, 3) := by decide +kernel
theorem dX11_waited_28 : decode cX11_waited 28 = .ok (.ireturn, 1) := by decide +kernel
set_option maxRecDepth 10000 in
theorem vX11_waited_0 {κ : eg_K} {d : Nat} (hd : 1 ≤ d) {post : Int32 → eg_H → Prop} (M : eg_H) (l1 : Int32) (h : (∀ M1 : eg_H, M1 = (sI M (60, 0) 2 (0 : Int32)) → eCI κ gM mtX11_isTime d [vI l1] M1 (fun x2 M3 => ((¬ x2 = 0) → eCV κ gM mtX11_clears d [vR (60, 0)] M3 (fun M6 => eCV κ gM mtX11_runs d [vR (60, 0), vI l1] M6 (fun M8 => eCI κ gM mtX11_waitedOf d [vR (60, 0), vI (-1 : Int32)] M8 (fun x10 M11 => post x10 M11)))) ∧ (x2 = 0 → post (-1 : Int32) M3)))) : eg_W κ gM mtX11_waited d (eQI κ gM post) 0 [(0, vR (60, 0)), (1, vI l1)] [] M := by
  refine eg_aload_n 0 dX11_waited_0 rfl rfl ?_
  refine eg_iconst dX11_waited_1 ic_0 ?_
  refine en_putI dX11_waited_2 fl_11_127 rfl rfl (obM_60 z1) (fun M1 eM1 => ?_)
  have h := h M1 eM1
  refine eg_iload_n 1 dX11_waited_5 rfl rfl ?_
  obtain ⟨q4, hq4, h⟩ := h
  refine eg_callSI (av := [vI l1]) (st := []) dX11_waited_6 ml_11_487 rfl rfl (Nat.le_of_ble_eq_true rfl) (eg_dd hd) hq4 (fun x2 M3 hp => ?_)
  have h := h x2 M3 hp
  refine eg_if_ne (tgt := 14) dX11_waited_9 rfl (fun c5 => ?_) (fun c5 => ?_)
  · have h := h.1 c5
    refine eg_aload_n 0 dX11_waited_14 rfl rfl ?_
    obtain ⟨q7, hq7, h⟩ := h
    refine eg_callVV (av := []) (st := []) dX11_waited_15 ml_11_243 rfl rfl (obM_60 z1) (by decide) rfl (Nat.le_of_ble_eq_true rfl) (eg_dd hd) hq7 (fun M6 hp => ?_)
    have h := h M6 hp
    refine eg_aload_n 0 dX11_waited_18 rfl rfl ?_
    refine eg_iload_n 1 dX11_waited_19 rfl rfl ?_
    obtain ⟨q9, hq9, h⟩ := h
    refine eg_callVV (av := [vI l1]) (st := []) dX11_waited_20 ml_11_490 rfl rfl (obM_60 z1) (by decide) rfl (Nat.le_of_ble_eq_true rfl) (eg_dd hd) hq9 (fun M8 hp => ?_)
    have h := h M8 hp
    refine eg_aload_n 0 dX11_waited_23 rfl rfl ?_
    refine eg_iconst dX11_waited_24 ic_m1 ?_
    obtain ⟨q12, hq12, h⟩ := h
    refine eg_callVI (av := [vI (-1 : Int32)]) (st := []) dX11_waited_25 ml_11_493 rfl rfl (obM_60 z1) (by decide) rfl (Nat.le_of_ble_eq_true rfl) (eg_dd hd) hq12 (fun x10 M11 hp => ?_)
    have h := h x10 M11 hp
    exact eg_ireturn dX11_waited_28 rfl h
  · have h := h.2 c5
    refine eg_iconst dX11_waited_12 ic_m1 ?_
    exact eg_ireturn dX11_waited_13 rfl h
