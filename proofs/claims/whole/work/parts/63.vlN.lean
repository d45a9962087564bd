theorem dX11_feed_0 : decode cX11_feed 0 = .ok (.aload_n 0, 1) := by decide +kernel
theorem dX11_feed_1 : decode cX11_feed 1 = .ok (.iconst 0, 1) := by decide +kernel
theorem dX11_feed_2 : decode cX11_feed 2 = .ok (.putfield 127, 3) := by decide +kernel
theorem dX11_feed_5 : decode cX11_feed 5 = .ok (.aload_n 0, 1) := by decide +kernel
theorem dX11_feed_6 : decode cX11_feed 6 = .ok (.getfield 130, 3) := by decide +kernel
theorem dX11_feed_9 : decode cX11_feed 9 = .ok (.bipush 20, 2) := by decide +kernel
theorem dX11_feed_11 : decode cX11_feed 11 = .ok (.iadd, 1) := by decide +kernel
theorem dX11_feed_12 : decode cX11_feed 12 = .ok (.sipush 800, 3) := by decide +kernel
theorem dX11_feed_15 : decode cX11_feed 15 = .ok (.if_icmp .le 5, 3) := by decide +kernel
theorem dX11_feed_18 : decode cX11_feed 18 = .ok (.iconst (-1), 1) := by decide +kernel
theorem dX11_feed_19 : decode cX11_feed 19 = .ok (.ireturn, 1) := by decide +kernel
theorem dX11_feed_20 : decode cX11_feed 20 = .ok (.iconst 0, 1) := by decide +kernel
theorem dX11_feed_21 : decode cX11_feed 21 = .ok (.istore 6, 2) := by decide +kernel
theorem dX11_feed_23 : decode cX11_feed 23 = .ok (.iload 6, 2) := by decide +kernel
theorem dX11_feed_25 : decode cX11_feed 25 = .ok (.bipush 20, 2) := by decide +kernel
theorem dX11_feed_27 : decode cX11_feed 27 = .ok (.if_icmp .ge 86, 3) := by decide +kernel
theorem dX11_feed_30 : decode cX11_feed 30 = .ok (.iload 6, 2) := by decide +kernel
theorem dX11_feed_32 : decode cX11_feed 32 = .ok (.iconst 4, 1) := by decide +kernel
theorem dX11_feed_33 : decode cX11_feed 33 = .ok (.if_icmp .ge 7, 3) := by decide +kernel
theorem dX11_feed_36 : decode cX11_feed 36 = .ok (.iload_n 1, 1) := by decide +kernel
theorem dX11_feed_37 : decode cX11_feed 37 = .ok (.goto 39, 3) := by decide +kernel
theorem dX11_feed_40 : decode cX11_feed 40 = .ok (.iload 6, 2) := by decide +kernel
theorem dX11_feed_42 : decode cX11_feed 42 = .ok (.bipush 8, 2) := by decide +kernel
theorem dX11_feed_44 : decode cX11_feed 44 = .ok (.if_icmp .ge 7, 3) := by decide +kernel
theorem dX11_feed_47 : decode cX11_feed 47 = .ok (.iload_n 2, 1) := by decide +kernel
theorem dX11_feed_48 : decode cX11_feed 48 = .ok (.goto 28, 3) := by decide +kernel
theorem dX11_feed_51 : decode cX11_feed 51 = .ok (.iload 6, 2) := by decide +kernel
theorem dX11_feed_53 : decode cX11_feed 53 = .ok (.bipush 12, 2) := by decide +kernel
theorem dX11_feed_55 : decode cX11_feed 55 = .ok (.if_icmp .ge 7, 3) := by decide +kernel
theorem dX11_feed_58 : decode cX11_feed 58 = .ok (.iload_n 3, 1) := by decide +kernel
theorem dX11_feed_59 : decode cX11_feed 59 = .ok (.goto 17, 3) := by decide +kernel
theorem dX11_feed_62 : decode cX11_feed 62 = .ok (.iload 6, 2) := by decide +kernel
theorem dX11_feed_64 : decode cX11_feed 64 = .ok (.bipush 16, 2) := by decide +kernel
theorem dX11_feed_66 : decode cX11_feed 66 = .ok (.if_icmp .ge 8, 3) := by decide +kernel
theorem dX11_feed_69 : decode cX11_feed 69 = .ok (.iload 4, 2) := by decide +kernel
theorem dX11_feed_71 : decode cX11_feed 71 = .ok (.goto 5, 3) := by decide +kernel
theorem dX11_feed_74 : decode cX11_feed 74 = .ok (.iload 5, 2) := by decide +kernel
theorem dX11_feed_76 : decode cX11_feed 76 = .ok (.istore 7, 2) := by decide +kernel
theorem dX11_feed_78 : decode cX11_feed 78 = .ok (.aload_n 0, 1) := by decide +kernel
theorem dX11_feed_79 : decode cX11_feed 79 = .ok (.getfield 7, 3) := by decide +kernel
theorem dX11_feed_82 : decode cX11_feed 82 = .ok (.aload_n 0, 1) := by decide +kernel
theorem dX11_feed_83 : decode cX11_feed 83 = .ok (.getfield 130, 3) := by decide +kernel
theorem dX11_feed_86 : decode cX11_feed 86 = .ok (.iload 6, 2) := by decide +kernel
theorem dX11_feed_88 : decode cX11_feed 88 = .ok (.iadd, 1) := by decide +kernel
theorem dX11_feed_89 : decode cX11_feed 89 = .ok (.iload 7, 2) := by decide +kernel
theorem dX11_feed_91 : decode cX11_feed 91 = .ok (.bipush 24, 2) := by decide +kernel
theorem dX11_feed_93 : decode cX11_feed 93 = .ok (.bipush 8, 2) := by decide +kernel
theorem dX11_feed_95 : decode cX11_feed 95 = .ok (.iload 6, 2) := by decide +kernel
theorem dX11_feed_97 : decode cX11_feed 97 = .ok (.iconst 4, 1) := by decide +kernel
theorem dX11_feed_98 : decode cX11_feed 98 = .ok (.irem, 1) := by decide +kernel
theorem dX11_feed_99 : decode cX11_feed 99 = .ok (.imul, 1) := by decide +kernel
theorem dX11_feed_100 : decode cX11_feed 100 = .ok (.isub, 1) := by decide +kernel
theorem dX11_feed_101 : decode cX11_feed 101 = .ok (.ishr, 1) := by decide +kernel
theorem dX11_feed_102 : decode cX11_feed 102 = .ok (.sipush 255, 3) := by decide +kernel
theorem dX11_feed_105 : decode cX11_feed 105 = .ok (.iand, 1) := by decide +kernel
theorem dX11_feed_106 : decode cX11_feed 106 = .ok (.iastore, 1) := by decide +kernel
theorem dX11_feed_107 : decode cX11_feed 107 = .ok (.iinc 6 1, 3) := by decide +kernel
theorem dX11_feed_110 : decode cX11_feed 110 = .ok (.goto (-87), 3) := by decide +kernel
theorem dX11_feed_113 : decode cX11_feed 113 = .ok (.aload_n 0, 1) := by decide +kernel
theorem dX11_feed_114 : decode cX11_feed 114 = .ok (.dup, 1) := by decide +kernel
theorem dX11_feed_115 : decode cX11_feed 115 = .ok (.getfield 130, 3) := by decide +kernel
theorem dX11_feed_118 : decode cX11_feed 118 = .ok (.bipush 20, 2) := by decide +kernel
theorem dX11_feed_120 : decode cX11_feed 120 = .ok (.iadd, 1) := by decide +kernel
theorem dX11_feed_121 : decode cX11_feed 121 = .ok (.putfield 130, 3) := by decide +kernel
theorem dX11_feed_124 : decode cX11_feed 124 = .ok (.aload_n 0, 1) := by decide +kernel
theorem dX11_feed_125 : decode cX11_feed 125 = .ok (.getfield 130, 3) := by decide +kernel
theorem dX11_feed_128 : decode cX11_feed 128 = .ok (.ireturn, 1) := by decide +kernel
set_option maxRecDepth 10000 in
theorem vX11_feed_0 {κ : eg_K} {d : Nat} {post : Int32 → eg_H → Prop} (M : eg_H) (l1 : Int32) (l2 : Int32) (l3 : Int32) (l4 : Int32) (l5 : Int32) (h : (∀ M1 : eg_H, M1 = (sI M (60, 0) 2 (0 : Int32)) → (((M1.1 (60, 0) 1) + (20 : Int32)) ≤ (800 : Int32) → eg_W κ gM mtX11_feed d (eQI κ gM post) 23 [(0, vR (60, 0)), (1, vI l1), (2, vI l2), (3, vI l3), (4, vI l4), (5, vI l5), (6, vI (0 : Int32))] [] M1) ∧ ((¬ ((M1.1 (60, 0) 1) + (20 : Int32)) ≤ (800 : Int32)) → post (-1 : Int32) M1))) : eg_W κ gM mtX11_feed d (eQI κ gM post) 0 [(0, vR (60, 0)), (1, vI l1), (2, vI l2), (3, vI l3), (4, vI l4), (5, vI l5)] [] M := by
  refine eg_aload_n 0 dX11_feed_0 rfl rfl ?_
  refine eg_iconst dX11_feed_1 ic_0 ?_
  refine en_putI dX11_feed_2 fl_11_127 rfl rfl (obM_60 z1) (fun M1 eM1 => ?_)
  have h := h M1 eM1
  refine eg_aload_n 0 dX11_feed_5 rfl rfl ?_
  refine eg_getI dX11_feed_6 fl_11_130 rfl trivial (obM_60 z1) ?_
  refine eg_bipush dX11_feed_9 bp_20 ?_
  refine eg_iadd dX11_feed_11 ?_
  refine eg_sipush dX11_feed_12 sp_800 ?_
  refine eg_icmp_le (tgt := 20) dX11_feed_15 rfl (fun c2 => ?_) (fun c2 => ?_)
  · have h := h.1 c2
    refine eg_iconst dX11_feed_20 ic_0 ?_
    refine eg_istore dX11_feed_21 (by decide) (ls1 := [(6, vI (0 : Int32)), (0, vR (60, 0)), (1, vI l1), (2, vI l2), (3, vI l3), (4, vI l4), (5, vI l5)]) rfl ?_
    refine eg_sub [1, 2, 3, 4, 5, 6, 0] rfl ?_
    exact h
  · have h := h.2 c2
    refine eg_iconst dX11_feed_18 ic_m1 ?_
    exact eg_ireturn dX11_feed_19 rfl h
set_option maxRecDepth 10000 in
theorem vX11_feed_23 {κ : eg_K} {d : Nat} {post : Int32 → eg_H → Prop} (M : eg_H) (l1 : Int32) (l2 : Int32) (l3 : Int32) (l4 : Int32) (l5 : Int32) (l6 : Int32) (h : ((20 : Int32) ≤ l6 → (∀ M2 : eg_H, M2 = (sI M (60, 0) 1 ((M.1 (60, 0) 1) + (20 : Int32))) → post (M2.1 (60, 0) 1) M2)) ∧ ((¬ (20 : Int32) ≤ l6) → (∀ x3 : Int32, x3 = ((if (4 : Int32) ≤ l6 then (if (8 : Int32) ≤ l6 then (if (12 : Int32) ≤ l6 then (if (16 : Int32) ≤ l6 then l5 else l4) else l3) else l2) else l1)) → (vp_in ((M.1 (60, 0) 1) + l6) 800 ∧ (∀ M5 : eg_H, M5 = (sI M (61, 0) ((M.1 (60, 0) 1) + l6).toNatClampNeg ((x3 >>> (((24 : Int32) - ((8 : Int32) * (l6 - l6 / (4 : Int32) * (4 : Int32)))) &&& 31)) &&& (255 : Int32))) → (∀ x6 : Int32, x6 = (l6 + (1 : Int32)) → eg_W κ gM mtX11_feed d (eQI κ gM post) 23 [(0, vR (60, 0)), (1, vI l1), (2, vI l2), (3, vI l3), (4, vI l4), (5, vI l5), (6, vI x6)] [] M5)))))) : eg_W κ gM mtX11_feed d (eQI κ gM post) 23 [(0, vR (60, 0)), (1, vI l1), (2, vI l2), (3, vI l3), (4, vI l4), (5, vI l5), (6, vI l6)] [] M := by
  refine eg_iload 6 dX11_feed_23 rfl ?_
  refine eg_bipush dX11_feed_25 bp_20 ?_
  refine eg_icmp_ge (tgt := 113) dX11_feed_27 rfl (fun c1 => ?_) (fun c1 => ?_)
  · have h := h.1 c1
    refine eg_aload_n 0 dX11_feed_113 rfl rfl ?_
    refine eg_dup dX11_feed_114 rfl ?_
    refine eg_getI dX11_feed_115 fl_11_130 rfl trivial (obM_60 z1) ?_
    refine eg_bipush dX11_feed_118 bp_20 ?_
    refine eg_iadd dX11_feed_120 ?_
    refine en_putI dX11_feed_121 fl_11_130 rfl rfl (obM_60 z1) (fun M2 eM2 => ?_)
    have h := h M2 eM2
    refine eg_aload_n 0 dX11_feed_124 rfl rfl ?_
    refine eg_getI dX11_feed_125 fl_11_130 rfl trivial (obM_60 z1) ?_
    exact eg_ireturn dX11_feed_128 rfl h
  · have h := h.2 c1
    refine eg_iload 6 dX11_feed_30 rfl ?_
    refine eg_iconst dX11_feed_32 ic_4 ?_
    have J : ∀ x3 : Int32, x3 = (if (4 : Int32) ≤ l6 then (if (8 : Int32) ≤ l6 then (if (12 : Int32) ≤ l6 then (if (16 : Int32) ≤ l6 then l5 else l4) else l3) else l2) else l1) → eg_W κ gM mtX11_feed d (eQI κ gM post) 76 [(0, vR (60, 0)), (1, vI l1), (2, vI l2), (3, vI l3), (4, vI l4), (5, vI l5), (6, vI l6)] [vI x3] M := by
      intro x3 ex3
      have h := h x3 ex3
      refine eg_istore dX11_feed_76 (by decide) (ls1 := [(7, vI x3), (0, vR (60, 0)), (1, vI l1), (2, vI l2), (3, vI l3), (4, vI l4), (5, vI l5), (6, vI l6)]) rfl ?_
      refine eg_aload_n 1 dX11_feed_78 rfl rfl ?_
      refine eg_getR dX11_feed_79 fl_11_7 rfl rfl (obM_60 z1) ?_
      show eg_W κ gM mtX11_feed d (eQI κ gM post) 82 [(7, vI x3), (0, vR (60, 0)), (1, vI l1), (2, vI l2), (3, vI l3), (4, vI l4), (5, vI l5), (6, vI l6)] [vR (61, 0)] M
      refine eg_aload_n 1 dX11_feed_82 rfl rfl ?_
      refine eg_getI dX11_feed_83 fl_11_130 rfl trivial (obM_60 z1) ?_
      refine eg_iload 7 dX11_feed_86 rfl ?_
      refine eg_iadd dX11_feed_88 ?_
      refine eg_iload 0 dX11_feed_89 rfl ?_
      refine eg_bipush dX11_feed_91 bp_24 ?_
      refine eg_bipush dX11_feed_93 bp_8 ?_
      refine eg_iload 7 dX11_feed_95 rfl ?_
      refine eg_iconst dX11_feed_97 ic_4 ?_
      refine eg_irem dX11_feed_98 (by decide) ?_
      refine eg_imul dX11_feed_99 ?_
      refine eg_isub dX11_feed_100 ?_
      refine eg_ishr dX11_feed_101 ?_
      refine eg_sipush dX11_feed_102 sp_255 ?_
      refine eg_iand dX11_feed_105 ?_
      obtain ⟨g4, h⟩ := h
      refine en_iastore dX11_feed_106 (arM_61 z1 g4) (fun M5 eM5 => ?_)
      have h := h M5 eM5
      refine en_iinc (f := fun x6 => [(6, vI x6), (7, vI x3), (0, vR (60, 0)), (1, vI l1), (2, vI l2), (3, vI l3), (4, vI l4), (5, vI l5)]) 7 dX11_feed_107 rfl rfl (by decide) rfl (fun x6 ex6 => ?_)
      have h := h x6 ex6
      refine eg_goto (tgt := 23) dX11_feed_110 rfl ?_
      refine eg_sub [2, 3, 4, 5, 6, 7, 0] rfl ?_
      exact h
    clear h
    refine eg_icmp_ge (tgt := 40) dX11_feed_33 rfl (fun c7 => ?_) (fun c7 => ?_)
    · refine eg_iload 6 dX11_feed_40 rfl ?_
      refine eg_bipush dX11_feed_42 bp_8 ?_
      refine eg_icmp_ge (tgt := 51) dX11_feed_44 rfl (fun c8 => ?_) (fun c8 => ?_)
      · refine eg_iload 6 dX11_feed_51 rfl ?_
        refine eg_bipush dX11_feed_53 bp_12 ?_
        refine eg_icmp_ge (tgt := 62) dX11_feed_55 rfl (fun c9 => ?_) (fun c9 => ?_)
        · refine eg_iload 6 dX11_feed_62 rfl ?_
          refine eg_bipush dX11_feed_64 bp_16 ?_
          refine eg_icmp_ge (tgt := 74) dX11_feed_66 rfl (fun c10 => ?_) (fun c10 => ?_)
          · refine eg_iload 5 dX11_feed_74 rfl ?_
            exact J _ (by rw [if_pos c7, if_pos c8, if_pos c9, if_pos c10])
          · refine eg_iload 4 dX11_feed_69 rfl ?_
            refine eg_goto (tgt := 76) dX11_feed_71 rfl ?_
            exact J _ (by rw [if_pos c7, if_pos c8, if_pos c9, if_neg c10])
        · refine eg_iload_n 3 dX11_feed_58 rfl rfl ?_
          refine eg_goto (tgt := 76) dX11_feed_59 rfl ?_
          exact J _ (by rw [if_pos c7, if_pos c8, if_neg c9])
      · refine eg_iload_n 2 dX11_feed_47 rfl rfl ?_
        refine eg_goto (tgt := 76) dX11_feed_48 rfl ?_
        exact J _ (by rw [if_pos c7, if_neg c8])
    · refine eg_iload_n 1 dX11_feed_36 rfl rfl ?_
      refine eg_goto (tgt := 76) dX11_feed_37 rfl ?_
      exact J _ (by rw [if_neg c7])
theorem dX11_named_0 : decode cX11_named 0 = .ok (.aload_n 0, 1) := by decide +kernel
theorem dX11_named_1 : decode cX11_named 1 = .ok (.iconst 0, 1) := by decide +kernel
theorem dX11_named_2 : decode cX11_named 2 = .ok (.putfield 127, 3) := by decide +kernel
theorem dX11_named_5 : decode cX11_named 5 = .ok (.iload_n 1, 1) := by decide +kernel
theorem dX11_named_6 : decode cX11_named 6 = .ok (.ifCond .ne 19, 3) := by decide +kernel
theorem dX11_named_9 : decode cX11_named 9 = .ok (.aload_n 0, 1) := by decide +kernel
theorem dX11_named_10 : decode cX11_named 10 = .ok (.getfield 20, 3) := by decide +kernel
theorem dX11_named_13 : decode cX11_named 13 = .ok (.iconst 0, 1) := by decide +kernel
theorem dX11_named_14 : decode cX11_named 14 = .ok (.aload_n 0, 1) := by decide +kernel
theorem dX11_named_15 : decode cX11_named 15 = .ok (.getfield 209, 3) := by decide +kernel
theorem dX11_named_18 : decode cX11_named 18 = .ok (.iload_n 2, 1) := by decide +kernel
theorem dX11_named_19 : decode cX11_named 19 = .ok (.invokestatic 253, 3) := by decide +kernel
theorem dX11_named_22 : decode cX11_named 22 = .ok (.goto 46, 3) := by decide +kernel
theorem dX11_named_25 : decode cX11_named 25 = .ok (.iload_n 1, 1) := by decide +kernel
theorem dX11_named_26 : decode cX11_named 26 = .ok (.iconst 1, 1) := by decide +kernel
theorem dX11_named_27 : decode cX11_named 27 = .ok (.if_icmp .ne 19, 3) := by decide +kernel
theorem dX11_named_30 : decode cX11_named 30 = .ok (.aload_n 0, 1) := by decide +kernel
theorem dX11_named_31 : decode cX11_named 31 = .ok (.getfield 26, 3) := by decide +kernel
theorem dX11_named_34 : decode cX11_named 34 = .ok (.iconst 0, 1) := by decide +kernel
theorem dX11_named_35 : decode cX11_named 35 = .ok (.aload_n 0, 1) := by decide +kernel
theorem dX11_named_36 : decode cX11_named 36 = .ok (.getfield 212, 3) := by decide +kernel
theorem dX11_named_39 : decode cX11_named 39 = .ok (.iload_n 2, 1) := by decide +kernel
theorem dX11_named_40 : decode cX11_named 40 = .ok (.invokestatic 253, 3) := by decide +kernel
theorem dX11_named_43 : decode cX11_named 43 = .ok (.goto 25, 3) := by decide +kernel
theorem dX11_named_46 : decode cX11_named 46 = .ok (.iload_n 1, 1) := by decide +kernel
theorem dX11_named_47 : decode cX11_named 47 = .ok (.iconst 2, 1) := by decide +kernel
theorem dX11_named_48 : decode cX11_named 48 = .ok (.if_icmp .ne 19, 3) := by decide +kernel
theorem dX11_named_51 : decode cX11_named 51 = .ok (.aload_n 0, 1) := by decide +kernel
theorem dX11_named_52 : decode cX11_named 52 = .ok (.getfield 38, 3) := by decide +kernel
theorem dX11_named_55 : decode cX11_named 55 = .ok (.iconst 0, 1) := by decide +kernel
theorem dX11_named_56 : decode cX11_named 56 = .ok (.aload_n 0, 1) := by decide +kernel
theorem dX11_named_57 : decode cX11_named 57 = .ok (.getfield 215, 3) := by decide +kernel
theorem dX11_named_60 : decode cX11_named 60 = .ok (.iload_n 2, 1) := by decide +kernel
theorem dX11_named_61 : decode cX11_named 61 = .ok (.invokestatic 253, 3) := by decide +kernel
theorem dX11_named_64 : decode cX11_named 64 = .ok (.goto 4, 3) := by decide +kernel
theorem dX11_named_67 : decode cX11_named 67 = .ok (.iconst (-1), 1) := by decide +kernel
theorem dX11_named_68 : decode cX11_named 68 = .ok (.ireturn, 1) := by decide +kernel
set_option maxRecDepth 10000 in
theorem vX11_named_0 {κ : eg_K} {d : Nat} (hd : 1 ≤ d) {post : Int32 → eg_H → Prop} (M : eg_H) (l1 : Int32) (l2 : Int32) (h : (∀ M1 : eg_H, M1 = (sI M (60, 0) 2 (0 : Int32)) → ((¬ l1 = 0) → ((¬ l1 = (1 : Int32)) → ((¬ l1 = (2 : Int32)) → post (-1 : Int32) M1) ∧ (l1 = (2 : Int32) → (gX11_find M1 ((94, 0) : eg_R) (0 : Int32) (M1.1 (60, 0) 14) l2 ∧ (∀ x7 : Int32, x7 = (fX11_find M1 ((94, 0) : eg_R) (0 : Int32) (M1.1 (60, 0) 14) l2) → post x7 M1)))) ∧ (l1 = (1 : Int32) → (gX11_find M1 ((90, 0) : eg_R) (0 : Int32) (M1.1 (60, 0) 13) l2 ∧ (∀ x10 : Int32, x10 = (fX11_find M1 ((90, 0) : eg_R) (0 : Int32) (M1.1 (60, 0) 13) l2) → post x10 M1)))) ∧ (l1 = 0 → (gX11_find M1 ((88, 0) : eg_R) (0 : Int32) (M1.1 (60, 0) 12) l2 ∧ (∀ x13 : Int32, x13 = (fX11_find M1 ((88, 0) : eg_R) (0 : Int32) (M1.1 (60, 0) 12) l2) → post x13 M1))))) : eg_W κ gM mtX11_named d (eQI κ gM post) 0 [(0, vR (60, 0)), (1, vI l1), (2, vI l2)] [] M := by
  refine eg_aload_n 0 dX11_named_0 rfl rfl ?_
  refine eg_iconst dX11_named_1 ic_0 ?_
  refine en_putI dX11_named_2 fl_11_127 rfl rfl (obM_60 z1) (fun M1 eM1 => ?_)
  have h := h M1 eM1
  refine eg_iload_n 1 dX11_named_5 rfl rfl ?_
  refine eg_if_ne (tgt := 25) dX11_named_6 rfl (fun c2 => ?_) (fun c2 => ?_)
  · have h := h.1 c2
    refine eg_iload_n 1 dX11_named_25 rfl rfl ?_
    refine eg_iconst dX11_named_26 ic_1 ?_
    refine eg_icmp_ne (tgt := 46) dX11_named_27 rfl (fun c3 => ?_) (fun c3 => ?_)
    · have h := h.1 c3
      refine eg_iload_n 1 dX11_named_46 rfl rfl ?_
      refine eg_iconst dX11_named_47 ic_2 ?_
      refine eg_icmp_ne (tgt := 67) dX11_named_48 rfl (fun c4 => ?_) (fun c4 => ?_)
      · have h := h.1 c4
        refine eg_iconst dX11_named_67 ic_m1 ?_
        exact eg_ireturn dX11_named_68 rfl h
      · have h := h.2 c4
        refine eg_aload_n 0 dX11_named_51 rfl rfl ?_
        refine eg_getR dX11_named_52 fl_11_38 rfl rfl (obM_60 z1) ?_
        show eg_W κ gM mtX11_named d (eQI κ gM post) 55 [(0, vR (60, 0)), (1, vI l1), (2, vI l2)] [vR (94, 0)] M1
        refine eg_iconst dX11_named_55 ic_0 ?_
        refine eg_aload_n 0 dX11_named_56 rfl rfl ?_
        refine eg_getI dX11_named_57 fl_11_215 rfl trivial (obM_60 z1) ?_
        refine eg_iload_n 2 dX11_named_60 rfl rfl ?_
        obtain ⟨g5, h⟩ := h
        refine eg_callSI (av := [vR (94, 0), vI (0 : Int32), vI (M1.1 (60, 0) 14), vI l2]) (st := []) dX11_named_61 ml_11_253 rfl rfl (Nat.le_of_ble_eq_true rfl) (eg_dd (by omega)) (sX11_find (by omega) M1 ((94, 0) : eg_R) (0 : Int32) (M1.1 (60, 0) 14) l2 (anM_94 z1) g5) (fun x7 M6 hp => ?_)
        obtain ⟨ex7, eM6⟩ := hp
        rw [eM6]
        have h := h x7 ex7
        refine eg_goto (tgt := 68) dX11_named_64 rfl ?_
        exact eg_ireturn dX11_named_68 rfl h
    · have h := h.2 c3
      refine eg_aload_n 0 dX11_named_30 rfl rfl ?_
      refine eg_getR dX11_named_31 fl_11_26 rfl rfl (obM_60 z1) ?_
      show eg_W κ gM mtX11_named d (eQI κ gM post) 34 [(0, vR (60, 0)), (1, vI l1), (2, vI l2)] [vR (90, 0)] M1
      refine eg_iconst dX11_named_34 ic_0 ?_
      refine eg_aload_n 0 dX11_named_35 rfl rfl ?_
      refine eg_getI dX11_named_36 fl_11_212 rfl trivial (obM_60 z1) ?_
      refine eg_iload_n 2 dX11_named_39 rfl rfl ?_
      obtain ⟨g8, h⟩ := h
      refine eg_callSI (av := [vR (90, 0), vI (0 : Int32), vI (M1.1 (60, 0) 13), vI l2]) (st := []) dX11_named_40 ml_11_253 rfl rfl (Nat.le_of_ble_eq_true rfl) (eg_dd (by omega)) (sX11_find (by omega) M1 ((90, 0) : eg_R) (0 : Int32) (M1.1 (60, 0) 13) l2 (anM_90 z1) g8) (fun x10 M9 hp => ?_)
      obtain ⟨ex10, eM9⟩ := hp
      rw [eM9]
      have h := h x10 ex10
      refine eg_goto (tgt := 68) dX11_named_43 rfl ?_
      exact eg_ireturn dX11_named_68 rfl h
  · have h := h.2 c2
    refine eg_aload_n 0 dX11_named_9 rfl rfl ?_
    refine eg_getR dX11_named_10 fl_11_20 rfl rfl (obM_60 z1) ?_
    show eg_W κ gM mtX11_named d (eQI κ gM post) 13 [(0, vR (60, 0)), (1, vI l1), (2, vI l2)] [vR (88, 0)] M1
    refine eg_iconst dX11_named_13 ic_0 ?_
    refine eg_aload_n 0 dX11_named_14 rfl rfl ?_
    refine eg_getI dX11_named_15 fl_11_209 rfl trivial (obM_60 z1) ?_
    refine eg_iload_n 2 dX11_named_18 rfl rfl ?_
    obtain ⟨g11, h⟩ := h
    refine eg_callSI (av := [vR (88, 0), vI (0 : Int32), vI (M1.1 (60, 0) 12), vI l2]) (st := []) dX11_named_19 ml_11_253 rfl rfl (Nat.le_of_ble_eq_true rfl) (eg_dd (by omega)) (sX11_find (by omega) M1 ((88, 0) : eg_R) (0 : Int32) (M1.1 (60, 0) 12) l2 (anM_88 z1) g11) (fun x13 M12 hp => ?_)
    obtain ⟨ex13, eM12⟩ := hp
    rw [eM12]
    have h := h x13 ex13
    refine eg_goto (tgt := 68) dX11_named_22 rfl ?_
    exact eg_ireturn dX11_named_68 rfl h
theorem dX11_look_0 : decode cX11_look 0 = .ok (.aload_n 0, 1) := by decide +kernel
theorem dX11_look_1 : decode cX11_look 1 = .ok (.iconst 0, 1) := by decide +kernel
theorem dX11_look_2 : decode cX11_look 2 = .ok (.putfield 127, 3) := by decide +kernel
theorem dX11_look_5 : decode cX11_look 5 = .ok (.aload_n 0, 1) := by decide +kernel
theorem dX11_look_6 : decode cX11_look 6 = .ok (.iload_n 1, 1) := by decide +kernel
theorem dX11_look_7 : decode cX11_look 7 = .ok (.invokevirtual 472, 3) := by decide +kernel
theorem dX11_look_10 : decode cX11_look 10 = .ok (.ifCond .ne 9, 3) := by decide +kernel
theorem dX11_look_13 : decode cX11_look 13 = .ok (.aload_n 0, 1) := by decide +kernel
theorem dX11_look_14 : decode cX11_look 14 = .ok (.iconst 1, 1) := by decide +kernel
theorem dX11_look_15 : decode cX11_look 15 = .ok (.invokevirtual 475, 3) := by decide +kernel
theorem dX11_look_18 : decode cX11_look 18 = .ok (.ireturn, 1) := by decide +kernel
theorem dX11_look_19 : decode cX11_look 19 = .ok (.iload_n 1, 1) := by decide +kernel
theorem dX11_look_20 : decode cX11_look 20 = .ok (.invokestatic 372, 3) := by decide +kernel
theorem dX11_look_23 : decode cX11_look 23 = .ok (.istore_n 3, 1) := by decide +kernel
theorem dX11_look_24 : decode cX11_look 24 = .ok (.iconst 0, 1) := by decide +kernel
theorem dX11_look_25 : decode cX11_look 25 = .ok (.istore 4, 2) := by decide +kernel
theorem dX11_look_27 : decode cX11_look 27 = .ok (.iload_n 2, 1) := by decide +kernel
theorem dX11_look_28 : decode cX11_look 28 = .ok (.tableswitch 187 0 10 #[60, 67, 76, 85, 120, 129, 138, 147, 157, 167, 177], 60) := by decide +kernel
theorem dX11_look_88 : decode cX11_look 88 = .ok (.aload_n 0, 1) := by decide +kernel
theorem dX11_look_89 : decode cX11_look 89 = .ok (.getfield 72, 3) := by decide +kernel
theorem dX11_look_92 : decode cX11_look 92 = .ok (.iload_n 3, 1) := by decide +kernel
theorem dX11_look_93 : decode cX11_look 93 = .ok (.iaload, 1) := by decide +kernel
theorem dX11_look_94 : decode cX11_look 94 = .ok (.ireturn, 1) := by decide +kernel
theorem dX11_look_95 : decode cX11_look 95 = .ok (.aload_n 0, 1) := by decide +kernel
theorem dX11_look_96 : decode cX11_look 96 = .ok (.getfield 72, 3) := by decide +kernel
theorem dX11_look_99 : decode cX11_look 99 = .ok (.iload_n 3, 1) := by decide +kernel
theorem dX11_look_100 : decode cX11_look 100 = .ok (.iconst 1, 1) := by decide +kernel
theorem dX11_look_101 : decode cX11_look 101 = .ok (.iadd, 1) := by decide +kernel
theorem dX11_look_102 : decode cX11_look 102 = .ok (.iaload, 1) := by decide +kernel
theorem dX11_look_103 : decode cX11_look 103 = .ok (.ireturn, 1) := by decide +kernel
theorem dX11_look_104 : decode cX11_look 104 = .ok (.aload_n 0, 1) := by decide +kernel
theorem dX11_look_105 : decode cX11_look 105 = .ok (.getfield 72, 3) := by decide +kernel
theorem dX11_look_108 : decode cX11_look 108 = .ok (.iload_n 3, 1) := by decide +kernel
theorem dX11_look_109 : decode cX11_look 109 = .ok (.iconst 2, 1) := by decide +kernel
theorem dX11_look_110 : decode cX11_look 110 = .ok (.iadd, 1) := by decide +kernel
theorem dX11_look_111 : decode cX11_look 111 = .ok (.iaload, 1) := by decide +kernel
theorem dX11_look_112 : decode cX11_look 112 = .ok (.ireturn, 1) := by decide +kernel
theorem dX11_look_113 : decode cX11_look 113 = .ok (.iconst 0, 1) := by decide +kernel
theorem dX11_look_114 : decode cX11_look 114 = .ok (.istore 5, 2) := by decide +kernel
theorem dX11_look_116 : decode cX11_look 116 = .ok (.iload 5, 2) := by decide +kernel
theorem dX11_look_118 : decode cX11_look 118 = .ok (.iconst 5, 1) := by decide +kernel
theorem dX11_look_119 : decode cX11_look 119 = .ok (.if_icmp .ge 26, 3) := by decide +kernel
theorem dX11_look_122 : decode cX11_look 122 = .ok (.iload 4, 2) := by decide +kernel
theorem dX11_look_124 : decode cX11_look 124 = .ok (.aload_n 0, 1) := by decide +kernel
theorem dX11_look_125 : decode cX11_look 125 = .ok (.getfield 72, 3) := by decide +kernel
theorem dX11_look_128 : decode cX11_look 128 = .ok (.iload_n 3, 1) := by decide +kernel
theorem dX11_look_129 : decode cX11_look 129 = .ok (.bipush 14, 2) := by decide +kernel
theorem dX11_look_131 : decode cX11_look 131 = .ok (.iadd, 1) := by decide +kernel
theorem dX11_look_132 : decode cX11_look 132 = .ok (.iload 5, 2) := by decide +kernel
theorem dX11_look_134 : decode cX11_look 134 = .ok (.iadd, 1) := by decide +kernel
theorem dX11_look_135 : decode cX11_look 135 = .ok (.iaload, 1) := by decide +kernel
theorem dX11_look_136 : decode cX11_look 136 = .ok (.iadd, 1) := by decide +kernel
theorem dX11_look_137 : decode cX11_look 137 = .ok (.istore 4, 2) := by decide +kernel
theorem dX11_look_139 : decode cX11_look 139 = .ok (.iinc 5 1, 3) := by decide +kernel
theorem dX11_look_142 : decode cX11_look 142 = .ok (.goto (-26), 3) := by decide +kernel
theorem dX11_look_145 : decode cX11_look 145 = .ok (.iload 4, 2) := by decide +kernel
theorem dX11_look_147 : decode cX11_look 147 = .ok (.ireturn, 1) := by decide +kernel
theorem dX11_look_148 : decode cX11_look 148 = .ok (.aload_n 0, 1) := by decide +kernel
theorem dX11_look_149 : decode cX11_look 149 = .ok (.getfield 72, 3) := by decide +kernel
theorem dX11_look_152 : decode cX11_look 152 = .ok (.iload_n 3, 1) := by decide +kernel
theorem dX11_look_153 : decode cX11_look 153 = .ok (.iconst 3, 1) := by decide +kernel
theorem dX11_look_154 : decode cX11_look 154 = .ok (.iadd, 1) := by decide +kernel
theorem dX11_look_155 : decode cX11_look 155 = .ok (.iaload, 1) := by decide +kernel
theorem dX11_look_156 : decode cX11_look 156 = .ok (.ireturn, 1) := by decide +kernel
theorem dX11_look_157 : decode cX11_look 157 = .ok (.aload_n 0, 1) := by decide +kernel
theorem dX11_look_158 : decode cX11_look 158 = .ok (.getfield 72, 3) := by decide +kernel
theorem dX11_look_161 : decode cX11_look 161 = .ok (.iload_n 3, 1) := by decide +kernel
theorem dX11_look_162 : decode cX11_look 162 = .ok (.iconst 4, 1) := by decide +kernel
theorem dX11_look_163 : decode cX11_look 163 = .ok (.iadd, 1) := by decide +kernel
theorem dX11_look_164 : decode cX11_look 164 = .ok (.iaload, 1) := by decide +kernel
theorem dX11_look_165 : decode cX11_look 165 = .ok (.ireturn, 1) := by decide +kernel
theorem dX11_look_166 : decode cX11_look 166 = .ok (.aload_n 0, 1) := by decide +kernel
theorem dX11_look_167 : decode cX11_look 167 = .ok (.getfield 72, 3) := by decide +kernel
theorem dX11_look_170 : decode cX11_look 170 = .ok (.iload_n 3, 1) := by decide +kernel
theorem dX11_look_171 : decode cX11_look 171 = .ok (.iconst 5, 1) := by decide +kernel
theorem dX11_look_172 : decode cX11_look 172 = .ok (.iadd, 1) := by decide +kernel
theorem dX11_look_173 : decode cX11_look 173 = .ok (.iaload, 1) := by decide +kernel
theorem dX11_look_174 : decode cX11_look 174 = .ok (.ireturn, 1) := by decide +kernel
theorem dX11_look_175 : decode cX11_look 175 = .ok (.aload_n 0, 1) := by decide +kernel
theorem dX11_look_176 : decode cX11_look 176 = .ok (.getfield 72, 3) := by decide +kernel
theorem dX11_look_179 : decode cX11_look 179 = .ok (.iload_n 3, 1) := by decide +kernel
theorem dX11_look_180 : decode cX11_look 180 = .ok (.bipush 6, 2) := by decide +kernel
theorem dX11_look_182 : decode cX11_look 182 = .ok (.iadd, 1) := by decide +kernel
theorem dX11_look_183 : decode cX11_look 183 = .ok (.iaload, 1) := by decide +kernel
theorem dX11_look_184 : decode cX11_look 184 = .ok (.ireturn, 1) := by decide +kernel
theorem dX11_look_185 : decode cX11_look 185 = .ok (.aload_n 0, 1) := by decide +kernel
theorem dX11_look_186 : decode cX11_look 186 = .ok (.getfield 72, 3) := by decide +kernel
theorem dX11_look_189 : decode cX11_look 189 = .ok (.iload_n 3, 1) := by decide +kernel
theorem dX11_look_190 : decode cX11_look 190 = .ok (.bipush 7, 2) := by decide +kernel
theorem dX11_look_192 : decode cX11_look 192 = .ok (.iadd, 1) := by decide +kernel
theorem dX11_look_193 : decode cX11_look 193 = .ok (.iaload, 1) := by decide +kernel
theorem dX11_look_194 : decode cX11_look 194 = .ok (.ireturn, 1) := by decide +kernel
theorem dX11_look_195 : decode cX11_look 195 = .ok (.aload_n 0, 1) := by decide +kernel
theorem dX11_look_196 : decode cX11_look 196 = .ok (.getfield 72, 3) := by decide +kernel
theorem dX11_look_199 : decode cX11_look 199 = .ok (.iload_n 3, 1) := by decide +kernel
theorem dX11_look_200 : decode cX11_look 200 = .ok (.bipush 8, 2) := by decide +kernel
theorem dX11_look_202 : decode cX11_look 202 = .ok (.iadd, 1) := by decide +kernel
theorem dX11_look_203 : decode cX11_look 203 = .ok (.iaload, 1) := by decide +kernel
theorem dX11_look_204 : decode cX11_look 204 = .ok (.ireturn, 1) := by decide +kernel
theorem dX11_look_205 : decode cX11_look 205 = .ok (.aload_n 0, 1) := by decide +kernel
theorem dX11_look_206 : decode cX11_look 206 = .ok (.getfield 72, 3) := by decide +kernel
theorem dX11_look_209 : decode cX11_look 209 = .ok (.iload_n 3, 1) := by decide +kernel
theorem dX11_look_210 : decode cX11_look 210 = .ok (.bipush 9, 2) := by decide +kernel
theorem dX11_look_212 : decode cX11_look 212 = .ok (.iadd, 1) := by decide +kernel
theorem dX11_look_213 : decode cX11_look 213 = .ok (.iaload, 1) := by decide +kernel
theorem dX11_look_214 : decode cX11_look 214 = .ok (.ireturn, 1) := by decide +kernel
theorem dX11_look_215 : decode cX11_look 215 = .ok (.aload_n 0, 1) := by decide +kernel
theorem dX11_look_216 : decode cX11_look 216 = .ok (.iconst 2, 1) := by decide +kernel
theorem dX11_look_217 : decode cX11_look 217 = .ok (.invokevirtual 475, 3) := by decide +kernel
theorem dX11_look_220 : decode cX11_look 220 = .ok (.ireturn, 1) := by decide +kernel
set_option maxRecDepth 10000 in
theorem vX11_look_0 {κ : eg_K} {d : Nat} (hd : 1 ≤ d) {post : Int32 → eg_H → Prop} (M : eg_H) (l1 : Int32) (l2 : Int32) (h : (∀ M1 : eg_H, M1 = (sI M (60, 0) 2 (0 : Int32)) → (∀ x3 : Int32, x3 = (fX11_isGuest M1 l1) → ((¬ x3 = 0) → (∀ x6 : Int32, x6 = (fX11_at M1 l1) → ((¬ l2 = (0 : Int32)) → (¬ l2 = (1 : Int32)) → (¬ l2 = (2 : Int32)) → (¬ l2 = (3 : Int32)) → (¬ l2 = (4 : Int32)) → (¬ l2 = (5 : Int32)) → (¬ l2 = (6 : Int32)) → (¬ l2 = (7 : Int32)) → (¬ l2 = (8 : Int32)) → (¬ l2 = (9 : Int32)) → (¬ l2 = (10 : Int32)) → (∀ (x8 : Int32) (M7 : eg_H), (x8, M7) = fX11_fails M1 (2 : Int32) → post x8 M7)) ∧ (l2 = (0 : Int32) → (vp_in x6 366 ∧ post (M1.1 (111, 0) x6.toNatClampNeg) M1)) ∧ (l2 = (1 : Int32) → (vp_in (x6 + (1 : Int32)) 366 ∧ post (M1.1 (111, 0) (x6 + (1 : Int32)).toNatClampNeg) M1)) ∧ (l2 = (2 : Int32) → (vp_in (x6 + (2 : Int32)) 366 ∧ post (M1.1 (111, 0) (x6 + (2 : Int32)).toNatClampNeg) M1)) ∧ (l2 = (3 : Int32) → eg_W κ gM mtX11_look d (eQI κ gM post) 116 [(0, vR (60, 0)), (3, vI x6), (4, vI (0 : Int32)), (5, vI (0 : Int32))] [] M1) ∧ (l2 = (4 : Int32) → (vp_in (x6 + (3 : Int32)) 366 ∧ post (M1.1 (111, 0) (x6 + (3 : Int32)).toNatClampNeg) M1)) ∧ (l2 = (5 : Int32) → (vp_in (x6 + (4 : Int32)) 366 ∧ post (M1.1 (111, 0) (x6 + (4 : Int32)).toNatClampNeg) M1)) ∧ (l2 = (6 : Int32) → (vp_in (x6 + (5 : Int32)) 366 ∧ post (M1.1 (111, 0) (x6 + (5 : Int32)).toNatClampNeg) M1)) ∧ (l2 = (7 : Int32) → (vp_in (x6 + (6 : Int32)) 366 ∧ post (M1.1 (111, 0) (x6 + (6 : Int32)).toNatClampNeg) M1)) ∧ (l2 = (8 : Int32) → (vp_in (x6 + (7 : Int32)) 366 ∧ post (M1.1 (111, 0) (x6 + (7 : Int32)).toNatClampNeg) M1)) ∧ (l2 = (9 : Int32) → (vp_in (x6 + (8 : Int32)) 366 ∧ post (M1.1 (111, 0) (x6 + (8 : Int32)).toNatClampNeg) M1)) ∧ (l2 = (10 : Int32) → (vp_in (x6 + (9 : Int32)) 366 ∧ post (M1.1 (111, 0) (x6 + (9 : Int32)).toNatClampNeg) M1)))) ∧ (x3 = 0 → (∀ (x20 : Int32) (M19 : eg_H), (x20, M19) = fX11_fails M1 (1 : Int32) → post x20 M19))))) : eg_W κ gM mtX11_look d (eQI κ gM post) 0 [(0, vR (60, 0)), (1, vI l1), (2, vI l2)] [] M := by
  refine eg_aload_n 0 dX11_look_0 rfl rfl ?_
  refine eg_iconst dX11_look_1 ic_0 ?_
  refine en_putI dX11_look_2 fl_11_127 rfl rfl (obM_60 z1) (fun M1 eM1 => ?_)
  have h := h M1 eM1
  refine eg_aload_n 0 dX11_look_5 rfl rfl ?_
  refine eg_iload_n 1 dX11_look_6 rfl rfl ?_
  refine eg_callVI (av := [vI l1]) (st := []) dX11_look_7 ml_11_472 rfl rfl (obM_60 z1) (by decide) rfl (Nat.le_of_ble_eq_true rfl) (eg_dd (by omega)) (sX11_isGuest (by omega) M1 l1  ) (fun x3 M2 hp => ?_)
  obtain ⟨ex3, eM2⟩ := hp
  rw [eM2]
  have h := h x3 ex3
  refine eg_if_ne (tgt := 19) dX11_look_10 rfl (fun c4 => ?_) (fun c4 => ?_)
  · have h := h.1 c4
    refine eg_iload_n 1 dX11_look_19 rfl rfl ?_
    refine eg_callSI (av := [vI l1]) (st := []) dX11_look_20 ml_11_372 rfl rfl (Nat.le_of_ble_eq_true rfl) (eg_dd (by omega)) (sX11_at (by omega) M1 l1  ) (fun x6 M5 hp => ?_)
    obtain ⟨ex6, eM5⟩ := hp
    rw [eM5]
    have h := h x6 ex6
    refine eg_istore_n dX11_look_23 rfl (by decide) (ls1 := [(3, vI x6), (0, vR (60, 0)), (1, vI l1), (2, vI l2)]) rfl ?_
    refine eg_iconst dX11_look_24 ic_0 ?_
    refine eg_istore dX11_look_25 (by decide) (ls1 := [(4, vI (0 : Int32)), (3, vI x6), (0, vR (60, 0)), (1, vI l1), (2, vI l2)]) rfl ?_
    refine eg_iload_n 4 dX11_look_27 rfl rfl ?_
    have J : (¬ l2 = (0 : Int32)) → (¬ l2 = (1 : Int32)) → (¬ l2 = (2 : Int32)) → (¬ l2 = (3 : Int32)) → (¬ l2 = (4 : Int32)) → (¬ l2 = (5 : Int32)) → (¬ l2 = (6 : Int32)) → (¬ l2 = (7 : Int32)) → (¬ l2 = (8 : Int32)) → (¬ l2 = (9 : Int32)) → (¬ l2 = (10 : Int32)) → eg_W κ gM mtX11_look d (eQI κ gM post) 215 [(4, vI (0 : Int32)), (3, vI x6), (0, vR (60, 0)), (1, vI l1), (2, vI l2)] [] M1 := by
      intro c0_ c1_ c2_ c3_ c4_ c5_ c6_ c7_ c8_ c9_ c10_
      have h := h.1 c0_ c1_ c2_ c3_ c4_ c5_ c6_ c7_ c8_ c9_ c10_
      refine eg_aload_n 2 dX11_look_215 rfl rfl ?_
      refine eg_iconst dX11_look_216 ic_2 ?_
      refine eg_callVI (av := [vI (2 : Int32)]) (st := []) dX11_look_217 ml_11_475 rfl rfl (obM_60 z1) (by decide) rfl (Nat.le_of_ble_eq_true rfl) (eg_dd (by omega)) (sX11_fails (by omega) M1 (2 : Int32)  ) (fun x8 M7 eM7 => ?_)
      have h := h x8 M7 eM7
      exact eg_ireturn dX11_look_220 rfl h
    by_cases c0_ : l2 = (0 : Int32)
    · refine eg_tabI (tgt := 88) dX11_look_28 (by rw [c0_]; decide) (by rw [c0_]; decide) (off := 60) (by rw [c0_]; rfl) rfl ?_
      have h := h.2.1 c0_
      refine eg_aload_n 2 dX11_look_88 rfl rfl ?_
      refine eg_getR dX11_look_89 fl_11_72 rfl rfl (obM_60 z1) ?_
      show eg_W κ gM mtX11_look d (eQI κ gM post) 92 [(4, vI (0 : Int32)), (3, vI x6), (0, vR (60, 0)), (1, vI l1), (2, vI l2)] [vR (111, 0)] M1
      refine eg_iload_n 1 dX11_look_92 rfl rfl ?_
      obtain ⟨g9, h⟩ := h
      refine eg_iaload dX11_look_93 (arM_111 z1 g9) ?_
      exact eg_ireturn dX11_look_94 rfl h
    by_cases c1_ : l2 = (1 : Int32)
    · refine eg_tabI (tgt := 95) dX11_look_28 (by rw [c1_]; decide) (by rw [c1_]; decide) (off := 67) (by rw [c1_]; rfl) rfl ?_
      have h := h.2.2.1 c1_
      refine eg_aload_n 2 dX11_look_95 rfl rfl ?_
      refine eg_getR dX11_look_96 fl_11_72 rfl rfl (obM_60 z1) ?_
      show eg_W κ gM mtX11_look d (eQI κ gM post) 99 [(4, vI (0 : Int32)), (3, vI x6), (0, vR (60, 0)), (1, vI l1), (2, vI l2)] [vR (111, 0)] M1
      refine eg_iload_n 1 dX11_look_99 rfl rfl ?_
      refine eg_iconst dX11_look_100 ic_1 ?_
      refine eg_iadd dX11_look_101 ?_
      obtain ⟨g10, h⟩ := h
      refine eg_iaload dX11_look_102 (arM_111 z1 g10) ?_
      exact eg_ireturn dX11_look_103 rfl h
    by_cases c2_ : l2 = (2 : Int32)
    · refine eg_tabI (tgt := 104) dX11_look_28 (by rw [c2_]; decide) (by rw [c2_]; decide) (off := 76) (by rw [c2_]; rfl) rfl ?_
      have h := h.2.2.2.1 c2_
      refine eg_aload_n 2 dX11_look_104 rfl rfl ?_
      refine eg_getR dX11_look_105 fl_11_72 rfl rfl (obM_60 z1) ?_
      show eg_W κ gM mtX11_look d (eQI κ gM post) 108 [(4, vI (0 : Int32)), (3, vI x6), (0, vR (60, 0)), (1, vI l1), (2, vI l2)] [vR (111, 0)] M1
      refine eg_iload_n 1 dX11_look_108 rfl rfl ?_
      refine eg_iconst dX11_look_109 ic_2 ?_
      refine eg_iadd dX11_look_110 ?_
      obtain ⟨g11, h⟩ := h
      refine eg_iaload dX11_look_111 (arM_111 z1 g11) ?_
      exact eg_ireturn dX11_look_112 rfl h
    by_cases c3_ : l2 = (3 : Int32)
    · refine eg_tabI (tgt := 113) dX11_look_28 (by rw [c3_]; decide) (by rw [c3_]; decide) (off := 85) (by rw [c3_]; rfl) rfl ?_
      have h := h.2.2.2.2.1 c3_
      refine eg_iconst dX11_look_113 ic_0 ?_
      refine eg_istore dX11_look_114 (by decide) (ls1 := [(5, vI (0 : Int32)), (4, vI (0 : Int32)), (3, vI x6), (0, vR (60, 0)), (1, vI l1), (2, vI l2)]) rfl ?_
      refine eg_sub [3, 2, 1, 0] rfl ?_
      exact h
    by_cases c4_ : l2 = (4 : Int32)
    · refine eg_tabI (tgt := 148) dX11_look_28 (by rw [c4_]; decide) (by rw [c4_]; decide) (off := 120) (by rw [c4_]; rfl) rfl ?_
      have h := h.2.2.2.2.2.1 c4_
      refine eg_aload_n 2 dX11_look_148 rfl rfl ?_
      refine eg_getR dX11_look_149 fl_11_72 rfl rfl (obM_60 z1) ?_
      show eg_W κ gM mtX11_look d (eQI κ gM post) 152 [(4, vI (0 : Int32)), (3, vI x6), (0, vR (60, 0)), (1, vI l1), (2, vI l2)] [vR (111, 0)] M1
      refine eg_iload_n 1 dX11_look_152 rfl rfl ?_
      refine eg_iconst dX11_look_153 ic_3 ?_
      refine eg_iadd dX11_look_154 ?_
      obtain ⟨g12, h⟩ := h
      refine eg_iaload dX11_look_155 (arM_111 z1 g12) ?_
      exact eg_ireturn dX11_look_156 rfl h
    by_cases c5_ : l2 = (5 : Int32)
    · refine eg_tabI (tgt := 157) dX11_look_28 (by rw [c5_]; decide) (by rw [c5_]; decide) (off := 129) (by rw [c5_]; rfl) rfl ?_
      have h := h.2.2.2.2.2.2.1 c5_
      refine eg_aload_n 2 dX11_look_157 rfl rfl ?_
      refine eg_getR dX11_look_158 fl_11_72 rfl rfl (obM_60 z1) ?_
      show eg_W κ gM mtX11_look d (eQI κ gM post) 161 [(4, vI (0 : Int32)), (3, vI x6), (0, vR (60, 0)), (1, vI l1), (2, vI l2)] [vR (111, 0)] M1
      refine eg_iload_n 1 dX11_look_161 rfl rfl ?_
      refine eg_iconst dX11_look_162 ic_4 ?_
      refine eg_iadd dX11_look_163 ?_
      obtain ⟨g13, h⟩ := h
      refine eg_iaload dX11_look_164 (arM_111 z1 g13) ?_
      exact eg_ireturn dX11_look_165 rfl h
    by_cases c6_ : l2 = (6 : Int32)
    · refine eg_tabI (tgt := 166) dX11_look_28 (by rw [c6_]; decide) (by rw [c6_]; decide) (off := 138) (by rw [c6_]; rfl) rfl ?_
      have h := h.2.2.2.2.2.2.2.1 c6_
      refine eg_aload_n 2 dX11_look_166 rfl rfl ?_
      refine eg_getR dX11_look_167 fl_11_72 rfl rfl (obM_60 z1) ?_
      show eg_W κ gM mtX11_look d (eQI κ gM post) 170 [(4, vI (0 : Int32)), (3, vI x6), (0, vR (60, 0)), (1, vI l1), (2, vI l2)] [vR (111, 0)] M1
      refine eg_iload_n 1 dX11_look_170 rfl rfl ?_
      refine eg_iconst dX11_look_171 ic_5 ?_
      refine eg_iadd dX11_look_172 ?_
      obtain ⟨g14, h⟩ := h
      refine eg_iaload dX11_look_173 (arM_111 z1 g14) ?_
      exact eg_ireturn dX11_look_174 rfl h
    by_cases c7_ : l2 = (7 : Int32)
    · refine eg_tabI (tgt := 175) dX11_look_28 (by rw [c7_]; decide) (by rw [c7_]; decide) (off := 147) (by rw [c7_]; rfl) rfl ?_
      have h := h.2.2.2.2.2.2.2.2.1 c7_
      refine eg_aload_n 2 dX11_look_175 rfl rfl ?_
      refine eg_getR dX11_look_176 fl_11_72 rfl rfl (obM_60 z1) ?_
      show eg_W κ gM mtX11_look d (eQI κ gM post) 179 [(4, vI (0 : Int32)), (3, vI x6), (0, vR (60, 0)), (1, vI l1), (2, vI l2)] [vR (111, 0)] M1
      refine eg_iload_n 1 dX11_look_179 rfl rfl ?_
      refine eg_bipush dX11_look_180 bp_6 ?_
      refine eg_iadd dX11_look_182 ?_
      obtain ⟨g15, h⟩ := h
      refine eg_iaload dX11_look_183 (arM_111 z1 g15) ?_
      exact eg_ireturn dX11_look_184 rfl h
    by_cases c8_ : l2 = (8 : Int32)
    · refine eg_tabI (tgt := 185) dX11_look_28 (by rw [c8_]; decide) (by rw [c8_]; decide) (off := 157) (by rw [c8_]; rfl) rfl ?_
      have h := h.2.2.2.2.2.2.2.2.2.1 c8_
      refine eg_aload_n 2 dX11_look_185 rfl rfl ?_
      refine eg_getR dX11_look_186 fl_11_72 rfl rfl (obM_60 z1) ?_
      show eg_W κ gM mtX11_look d (eQI κ gM post) 189 [(4, vI (0 : Int32)), (3, vI x6), (0, vR (60, 0)), (1, vI l1), (2, vI l2)] [vR (111, 0)] M1
      refine eg_iload_n 1 dX11_look_189 rfl rfl ?_
      refine eg_bipush dX11_look_190 bp_7 ?_
      refine eg_iadd dX11_look_192 ?_
      obtain ⟨g16, h⟩ := h
      refine eg_iaload dX11_look_193 (arM_111 z1 g16) ?_
      exact eg_ireturn dX11_look_194 rfl h
    by_cases c9_ : l2 = (9 : Int32)
    · refine eg_tabI (tgt := 195) dX11_look_28 (by rw [c9_]; decide) (by rw [c9_]; decide) (off := 167) (by rw [c9_]; rfl) rfl ?_
      have h := h.2.2.2.2.2.2.2.2.2.2.1 c9_
      refine eg_aload_n 2 dX11_look_195 rfl rfl ?_
      refine eg_getR dX11_look_196 fl_11_72 rfl rfl (obM_60 z1) ?_
      show eg_W κ gM mtX11_look d (eQI κ gM post) 199 [(4, vI (0 : Int32)), (3, vI x6), (0, vR (60, 0)), (1, vI l1), (2, vI l2)] [vR (111, 0)] M1
      refine eg_iload_n 1 dX11_look_199 rfl rfl ?_
      refine eg_bipush dX11_look_200 bp_8 ?_
      refine eg_iadd dX11_look_202 ?_
      obtain ⟨g17, h⟩ := h
      refine eg_iaload dX11_look_203 (arM_111 z1 g17) ?_
      exact eg_ireturn dX11_look_204 rfl h
    by_cases c10_ : l2 = (10 : Int32)
    · refine eg_tabI (tgt := 205) dX11_look_28 (by rw [c10_]; decide) (by rw [c10_]; decide) (off := 177) (by rw [c10_]; rfl) rfl ?_
      have h := h.2.2.2.2.2.2.2.2.2.2.2 c10_
      refine eg_aload_n 2 dX11_look_205 rfl rfl ?_
      refine eg_getR dX11_look_206 fl_11_72 rfl rfl (obM_60 z1) ?_
      show eg_W κ gM mtX11_look d (eQI κ gM post) 209 [(4, vI (0 : Int32)), (3, vI x6), (0, vR (60, 0)), (1, vI l1), (2, vI l2)] [vR (111, 0)] M1
      refine eg_iload_n 1 dX11_look_209 rfl rfl ?_
      refine eg_bipush dX11_look_210 bp_9 ?_
      refine eg_iadd dX11_look_212 ?_
      obtain ⟨g18, h⟩ := h
      refine eg_iaload dX11_look_213 (arM_111 z1 g18) ?_
      exact eg_ireturn dX11_look_214 rfl h
    refine eg_tabO (tgt := 215) dX11_look_28 ?_ rfl (J c0_ c1_ c2_ c3_ c4_ c5_ c6_ c7_ c8_ c9_ c10_)
    have t0_ := eg_ti 0 (by decide) c0_
    have t1_ := eg_ti 1 (by decide) c1_
    have t2_ := eg_ti 2 (by decide) c2_
    have t3_ := eg_ti 3 (by decide) c3_
    have t4_ := eg_ti 4 (by decide) c4_
    have t5_ := eg_ti 5 (by decide) c5_
    have t6_ := eg_ti 6 (by decide) c6_
    have t7_ := eg_ti 7 (by decide) c7_
    have t8_ := eg_ti 8 (by decide) c8_
    have t9_ := eg_ti 9 (by decide) c9_
    have t10_ := eg_ti 10 (by decide) c10_
    omega
  · have h := h.2 c4
    refine eg_aload_n 0 dX11_look_13 rfl rfl ?_
    refine eg_iconst dX11_look_14 ic_1 ?_
    refine eg_callVI (av := [vI (1 : Int32)]) (st := []) dX11_look_15 ml_11_475 rfl rfl (obM_60 z1) (by decide) rfl (Nat.le_of_ble_eq_true rfl) (eg_dd (by omega)) (sX11_fails (by omega) M1 (1 : Int32)  ) (fun x20 M19 eM19 => ?_)
    have h := h x20 M19 eM19
    exact eg_ireturn dX11_look_18 rfl h
set_option maxRecDepth 10000 in
theorem vX11_look_116 {κ : eg_K} {d : Nat} {post : Int32 → eg_H → Prop} (M : eg_H) (l3 : Int32) (l4 : Int32) (l5 : Int32) (h : ((5 : Int32) ≤ l5 → post l4 M) ∧ ((¬ (5 : Int32) ≤ l5) → (vp_in ((l3 + (14 : Int32)) + l5) 366 ∧ (∀ x3 : Int32, x3 = (l4 + (M.1 (111, 0) ((l3 + (14 : Int32)) + l5).toNatClampNeg)) → (∀ x4 : Int32, x4 = (l5 + (1 : Int32)) → eg_W κ gM mtX11_look d (eQI κ gM post) 116 [(0, vR (60, 0)), (3, vI l3), (4, vI x3), (5, vI x4)] [] M))))) : eg_W κ gM mtX11_look d (eQI κ gM post) 116 [(0, vR (60, 0)), (3, vI l3), (4, vI l4), (5, vI l5)] [] M := by
  refine eg_iload 3 dX11_look_116 rfl ?_
  refine eg_iconst dX11_look_118 ic_5 ?_
  refine eg_icmp_ge (tgt := 145) dX11_look_119 rfl (fun c1 => ?_) (fun c1 => ?_)
  · have h := h.1 c1
    refine eg_iload 2 dX11_look_145 rfl ?_
    exact eg_ireturn dX11_look_147 rfl h
  · have h := h.2 c1
    refine eg_iload 2 dX11_look_122 rfl ?_
    refine eg_aload_n 0 dX11_look_124 rfl rfl ?_
    refine eg_getR dX11_look_125 fl_11_72 rfl rfl (obM_60 z1) ?_
    show eg_W κ gM mtX11_look d (eQI κ gM post) 128 [(0, vR (60, 0)), (3, vI l3), (4, vI l4), (5, vI l5)] [vR (111, 0), vI l4] M
    refine eg_iload_n 1 dX11_look_128 rfl rfl ?_
    refine eg_bipush dX11_look_129 bp_14 ?_
    refine eg_iadd dX11_look_131 ?_
    refine eg_iload 3 dX11_look_132 rfl ?_
    refine eg_iadd dX11_look_134 ?_
    obtain ⟨g2, h⟩ := h
    refine eg_iaload dX11_look_135 (arM_111 z1 g2) ?_
    refine eg_iadd dX11_look_136 ?_
    refine en_istore (f := fun x3 => [(4, vI x3), (0, vR (60, 0)), (3, vI l3), (5, vI l5)]) dX11_look_137 (by decide) rfl (fun x3 ex3 => ?_)
    have h := h x3 ex3
    refine en_iinc (f := fun x4 => [(5, vI x4), (4, vI x3), (0, vR (60, 0)), (3, vI l3)]) 3 dX11_look_139 rfl rfl (by decide) rfl (fun x4 ex4 => ?_)
    have h := h x4 ex4
    refine eg_goto (tgt := 116) dX11_look_142 rfl ?_
    refine eg_sub [2, 3, 1, 0] rfl ?_
    exact h
theorem dX11_station_0 : decode cX11_station 0 = .ok (.aload_n 0, 1) := by decide +kernel
theorem dX11_station_1 : decode cX11_station 1 = .ok (.iconst 0, 1) := by decide +kernel
theorem dX11_station_2 : decode cX11_station 2 = .ok (.putfield 127, 3) := by decide +kernel
theorem dX11_station_5 : decode cX11_station 5 = .ok (.aload_n 0, 1) := by decide +kernel
theorem dX11_station_6 : decode cX11_station 6 = .ok (.iload_n 1, 1) := by decide +kernel
theorem dX11_station_7 : decode cX11_station 7 = .ok (.invokevirtual 478, 3) := by decide +kernel
theorem dX11_station_10 : decode cX11_station 10 = .ok (.ifCond .eq 13, 3) := by decide +kernel
theorem dX11_station_13 : decode cX11_station 13 = .ok (.iload_n 2, 1) := by decide +kernel
theorem dX11_station_14 : decode cX11_station 14 = .ok (.iconst 0, 1) := by decide +kernel
theorem dX11_station_15 : decode cX11_station 15 = .ok (.bipush 9, 2) := by decide +kernel
theorem dX11_station_17 : decode cX11_station 17 = .ok (.invokestatic 171, 3) := by decide +kernel
theorem dX11_station_20 : decode cX11_station 20 = .ok (.ifCond .ne 5, 3) := by decide +kernel
theorem dX11_station_23 : decode cX11_station 23 = .ok (.iconst (-1), 1) := by decide +kernel
theorem dX11_station_24 : decode cX11_station 24 = .ok (.ireturn, 1) := by decide +kernel
theorem dX11_station_25 : decode cX11_station 25 = .ok (.iload_n 2, 1) := by decide +kernel
theorem dX11_station_26 : decode cX11_station 26 = .ok (.iconst 2, 1) := by decide +kernel
theorem dX11_station_27 : decode cX11_station 27 = .ok (.if_icmp .ge 10, 3) := by decide +kernel
theorem dX11_station_30 : decode cX11_station 30 = .ok (.aload_n 0, 1) := by decide +kernel
theorem dX11_station_31 : decode cX11_station 31 = .ok (.iload_n 1, 1) := by decide +kernel
theorem dX11_station_32 : decode cX11_station 32 = .ok (.iload_n 2, 1) := by decide +kernel
theorem dX11_station_33 : decode cX11_station 33 = .ok (.invokevirtual 366, 3) := by decide +kernel
theorem dX11_station_36 : decode cX11_station 36 = .ok (.ireturn, 1) := by decide +kernel
theorem dX11_station_37 : decode cX11_station 37 = .ok (.iload_n 2, 1) := by decide +kernel
theorem dX11_station_38 : decode cX11_station 38 = .ok (.iconst 2, 1) := by decide +kernel
theorem dX11_station_39 : decode cX11_station 39 = .ok (.if_icmp .ne 25, 3) := by decide +kernel
theorem dX11_station_42 : decode cX11_station 42 = .ok (.aload_n 0, 1) := by decide +kernel
theorem dX11_station_43 : decode cX11_station 43 = .ok (.iload_n 1, 1) := by decide +kernel
theorem dX11_station_44 : decode cX11_station 44 = .ok (.invokevirtual 415, 3) := by decide +kernel
theorem dX11_station_47 : decode cX11_station 47 = .ok (.ifCond .eq 15, 3) := by decide +kernel
theorem dX11_station_50 : decode cX11_station 50 = .ok (.aload_n 0, 1) := by decide +kernel
theorem dX11_station_51 : decode cX11_station 51 = .ok (.getfield 72, 3) := by decide +kernel
theorem dX11_station_54 : decode cX11_station 54 = .ok (.iload_n 1, 1) := by decide +kernel
theorem dX11_station_55 : decode cX11_station 55 = .ok (.invokestatic 377, 3) := by decide +kernel
theorem dX11_station_58 : decode cX11_station 58 = .ok (.iaload, 1) := by decide +kernel
theorem dX11_station_59 : decode cX11_station 59 = .ok (.goto 4, 3) := by decide +kernel
theorem dX11_station_62 : decode cX11_station 62 = .ok (.iconst (-1), 1) := by decide +kernel
theorem dX11_station_63 : decode cX11_station 63 = .ok (.ireturn, 1) := by decide +kernel
theorem dX11_station_64 : decode cX11_station 64 = .ok (.iload_n 2, 1) := by decide +kernel
theorem dX11_station_65 : decode cX11_station 65 = .ok (.bipush 9, 2) := by decide +kernel
theorem dX11_station_67 : decode cX11_station 67 = .ok (.if_icmp .ge 17, 3) := by decide +kernel
theorem dX11_station_70 : decode cX11_station 70 = .ok (.aload_n 0, 1) := by decide +kernel
theorem dX11_station_71 : decode cX11_station 71 = .ok (.getfield 72, 3) := by decide +kernel
theorem dX11_station_74 : decode cX11_station 74 = .ok (.iload_n 1, 1) := by decide +kernel
theorem dX11_station_75 : decode cX11_station 75 = .ok (.invokestatic 377, 3) := by decide +kernel
theorem dX11_station_78 : decode cX11_station 78 = .ok (.iload_n 2, 1) := by decide +kernel
theorem dX11_station_79 : decode cX11_station 79 = .ok (.iadd, 1) := by decide +kernel
theorem dX11_station_80 : decode cX11_station 80 = .ok (.iconst 2, 1) := by decide +kernel
theorem dX11_station_81 : decode cX11_station 81 = .ok (.isub, 1) := by decide +kernel
theorem dX11_station_82 : decode cX11_station 82 = .ok (.iaload, 1) := by decide +kernel
theorem dX11_station_83 : decode cX11_station 83 = .ok (.ireturn, 1) := by decide +kernel
theorem dX11_station_84 : decode cX11_station 84 = .ok (.iconst 0, 1) := by decide +kernel
theorem dX11_station_85 : decode cX11_station 85 = .ok (.istore_n 3, 1) := by decide +kernel
theorem dX11_station_86 : decode cX11_station 86 = .ok (.aload_n 0, 1) := by decide +kernel
theorem dX11_station_87 : decode cX11_station 87 = .ok (.getfield 72, 3) := by decide +kernel
theorem dX11_station_90 : decode cX11_station 90 = .ok (.sipush 360, 3) := by decide +kernel
theorem dX11_station_93 : decode cX11_station 93 = .ok (.iload_n 3, 1) := by decide +kernel
theorem dX11_station_94 : decode cX11_station 94 = .ok (.iadd, 1) := by decide +kernel
theorem dX11_station_95 : decode cX11_station 95 = .ok (.iaload, 1) := by decide +kernel
theorem dX11_station_96 : decode cX11_station 96 = .ok (.iload_n 1, 1) := by decide +kernel
theorem dX11_station_97 : decode cX11_station 97 = .ok (.if_icmp .eq 9, 3) := by decide +kernel
theorem dX11_station_100 : decode cX11_station 100 = .ok (.iinc 3 1, 3) := by decide +kernel
theorem dX11_station_103 : decode cX11_station 103 = .ok (.goto (-17), 3) := by decide +kernel
theorem dX11_station_106 : decode cX11_station 106 = .ok (.iload_n 3, 1) := by decide +kernel
theorem dX11_station_107 : decode cX11_station 107 = .ok (.ireturn, 1) := by decide +kernel
set_option maxRecDepth 10000 in
theorem vX11_station_0 {κ : eg_K} {d : Nat} (hd : 2 ≤ d) {post : Int32 → eg_H → Prop} (M : eg_H) (l1 : Int32) (l2 : Int32) (h : (∀ M1 : eg_H, M1 = (sI M (60, 0) 2 (0 : Int32)) → (∀ x3 : Int32, x3 = (fX11_isStation M1 l1) → (x3 = 0 → post (-1 : Int32) M1) ∧ ((¬ x3 = 0) → (∀ x6 : Int32, x6 = (fX11_isIn M1 l2 (0 : Int32) (9 : Int32)) → ((¬ x6 = 0) → ((2 : Int32) ≤ l2 → ((¬ l2 = (2 : Int32)) → ((9 : Int32) ≤ l2 → eg_W κ gM mtX11_station d (eQI κ gM post) 86 [(0, vR (60, 0)), (1, vI l1), (3, vI (0 : Int32))] [] M1) ∧ ((¬ (9 : Int32) ≤ l2) → (∀ x12 : Int32, x12 = (fX11_pan M1 l1) → (vp_in ((x12 + l2) - (2 : Int32)) 366 ∧ post (M1.1 (111, 0) ((x12 + l2) - (2 : Int32)).toNatClampNeg) M1)))) ∧ (l2 = (2 : Int32) → (gX11_hasPan M1 l1 ∧ (∀ x16 : Int32, x16 = (fX11_hasPan M1 l1) → (x16 = 0 → post (-1 : Int32) M1) ∧ ((¬ x16 = 0) → (∀ x19 : Int32, x19 = (fX11_pan M1 l1) → (vp_in x19 366 ∧ post (M1.1 (111, 0) x19.toNatClampNeg) M1))))))) ∧ ((¬ (2 : Int32) ≤ l2) → (gX11_has M1 l1 l2 ∧ (∀ x23 : Int32, x23 = (fX11_has M1 l1 l2) → post x23 M1)))) ∧ (x6 = 0 → post (-1 : Int32) M1)))))) : eg_W κ gM mtX11_station d (eQI κ gM post) 0 [(0, vR (60, 0)), (1, vI l1), (2, vI l2)] [] M := by
  refine eg_aload_n 0 dX11_station_0 rfl rfl ?_
  refine eg_iconst dX11_station_1 ic_0 ?_
  refine en_putI dX11_station_2 fl_11_127 rfl rfl (obM_60 z1) (fun M1 eM1 => ?_)
  have h := h M1 eM1
  refine eg_aload_n 0 dX11_station_5 rfl rfl ?_
  refine eg_iload_n 1 dX11_station_6 rfl rfl ?_
  refine eg_callVI (av := [vI l1]) (st := []) dX11_station_7 ml_11_478 rfl rfl (obM_60 z1) (by decide) rfl (Nat.le_of_ble_eq_true rfl) (eg_dd (by omega)) (sX11_isStation (by omega) M1 l1  ) (fun x3 M2 hp => ?_)
  obtain ⟨ex3, eM2⟩ := hp
  rw [eM2]
  have h := h x3 ex3
  refine eg_if_eq (tgt := 23) dX11_station_10 rfl (fun c4 => ?_) (fun c4 => ?_)
  · have h := h.1 c4
    refine eg_iconst dX11_station_23 ic_m1 ?_
    exact eg_ireturn dX11_station_24 rfl h
  · have h := h.2 c4
    refine eg_iload_n 2 dX11_station_13 rfl rfl ?_
    refine eg_iconst dX11_station_14 ic_0 ?_
    refine eg_bipush dX11_station_15 bp_9 ?_
    refine eg_callSI (av := [vI l2, vI (0 : Int32), vI (9 : Int32)]) (st := []) dX11_station_17 ml_11_171 rfl rfl (Nat.le_of_ble_eq_true rfl) (eg_dd (by omega)) (sX11_isIn (by omega) M1 l2 (0 : Int32) (9 : Int32)  ) (fun x6 M5 hp => ?_)
    obtain ⟨ex6, eM5⟩ := hp
    rw [eM5]
    have h := h x6 ex6
    refine eg_if_ne (tgt := 25) dX11_station_20 rfl (fun c7 => ?_) (fun c7 => ?_)
    · have h := h.1 c7
      refine eg_iload_n 2 dX11_station_25 rfl rfl ?_
      refine eg_iconst dX11_station_26 ic_2 ?_
      refine eg_icmp_ge (tgt := 37) dX11_station_27 rfl (fun c8 => ?_) (fun c8 => ?_)
      · have h := h.1 c8
        refine eg_iload_n 2 dX11_station_37 rfl rfl ?_
        refine eg_iconst dX11_station_38 ic_2 ?_
        refine eg_icmp_ne (tgt := 64) dX11_station_39 rfl (fun c9 => ?_) (fun c9 => ?_)
        · have h := h.1 c9
          refine eg_iload_n 2 dX11_station_64 rfl rfl ?_
          refine eg_bipush dX11_station_65 bp_9 ?_
          refine eg_icmp_ge (tgt := 84) dX11_station_67 rfl (fun c10 => ?_) (fun c10 => ?_)
          · have h := h.1 c10
            refine eg_iconst dX11_station_84 ic_0 ?_
            refine eg_istore_n dX11_station_85 rfl (by decide) (ls1 := [(3, vI (0 : Int32)), (0, vR (60, 0)), (1, vI l1), (2, vI l2)]) rfl ?_
            refine eg_sub [1, 2, 0] rfl ?_
            exact h
          · have h := h.2 c10
            refine eg_aload_n 0 dX11_station_70 rfl rfl ?_
            refine eg_getR dX11_station_71 fl_11_72 rfl rfl (obM_60 z1) ?_
            show eg_W κ gM mtX11_station d (eQI κ gM post) 74 [(0, vR (60, 0)), (1, vI l1), (2, vI l2)] [vR (111, 0)] M1
            refine eg_iload_n 1 dX11_station_74 rfl rfl ?_
            refine eg_callSI (av := [vI l1]) (st := [vR (111, 0)]) dX11_station_75 ml_11_377 rfl rfl (Nat.le_of_ble_eq_true rfl) (eg_dd (by omega)) (sX11_pan (by omega) M1 l1  ) (fun x12 M11 hp => ?_)
            obtain ⟨ex12, eM11⟩ := hp
            rw [eM11]
            have h := h x12 ex12
            refine eg_iload_n 2 dX11_station_78 rfl rfl ?_
            refine eg_iadd dX11_station_79 ?_
            refine eg_iconst dX11_station_80 ic_2 ?_
            refine eg_isub dX11_station_81 ?_
            obtain ⟨g13, h⟩ := h
            refine eg_iaload dX11_station_82 (arM_111 z1 g13) ?_
            exact eg_ireturn dX11_station_83 rfl h
        · have h := h.2 c9
          refine eg_aload_n 0 dX11_station_42 rfl rfl ?_
          refine eg_iload_n 1 dX11_station_43 rfl rfl ?_
          obtain ⟨g14, h⟩ := h
          refine eg_callVI (av := [vI l1]) (st := []) dX11_station_44 ml_11_415 rfl rfl (obM_60 z1) (by decide) rfl (Nat.le_of_ble_eq_true rfl) (eg_dd (by omega)) (sX11_hasPan (by omega) M1 l1  g14) (fun x16 M15 hp => ?_)
          obtain ⟨ex16, eM15⟩ := hp
          rw [eM15]
          have h := h x16 ex16
          refine eg_if_eq (tgt := 62) dX11_station_47 rfl (fun c17 => ?_) (fun c17 => ?_)
          · have h := h.1 c17
            refine eg_iconst dX11_station_62 ic_m1 ?_
            exact eg_ireturn dX11_station_63 rfl h
          · have h := h.2 c17
            refine eg_aload_n 0 dX11_station_50 rfl rfl ?_
            refine eg_getR dX11_station_51 fl_11_72 rfl rfl (obM_60 z1) ?_
            show eg_W κ gM mtX11_station d (eQI κ gM post) 54 [(0, vR (60, 0)), (1, vI l1), (2, vI l2)] [vR (111, 0)] M1
            refine eg_iload_n 1 dX11_station_54 rfl rfl ?_
            refine eg_callSI (av := [vI l1]) (st := [vR (111, 0)]) dX11_station_55 ml_11_377 rfl rfl (Nat.le_of_ble_eq_true rfl) (eg_dd (by omega)) (sX11_pan (by omega) M1 l1  ) (fun x19 M18 hp => ?_)
            obtain ⟨ex19, eM18⟩ := hp
            rw [eM18]
            have h := h x19 ex19
            obtain ⟨g20, h⟩ := h
            refine eg_iaload dX11_station_58 (arM_111 z1 g20) ?_
            refine eg_goto (tgt := 63) dX11_station_59 rfl ?_
            exact eg_ireturn dX11_station_63 rfl h
      · have h := h.2 c8
        refine eg_aload_n 0 dX11_station_30 rfl rfl ?_
        refine eg_iload_n 1 dX11_station_31 rfl rfl ?_
        refine eg_iload_n 2 dX11_station_32 rfl rfl ?_
        obtain ⟨g21, h⟩ := h
        refine eg_callVI (av := [vI l1, vI l2]) (st := []) dX11_station_33 ml_11_366 rfl rfl (obM_60 z1) (by decide) rfl (Nat.le_of_ble_eq_true rfl) (eg_dd (by omega)) (sX11_has (by omega) M1 l1 l2  g21) (fun x23 M22 hp => ?_)
        obtain ⟨ex23, eM22⟩ := hp
        rw [eM22]
        have h := h x23 ex23
        exact eg_ireturn dX11_station_36 rfl h
    · have h := h.2 c7
      refine eg_iconst dX11_station_23 ic_m1 ?_
      exact eg_ireturn dX11_station_24 rfl h
set_option maxRecDepth 10000 in
theorem vX11_station_86 {κ : eg_K} {d : Nat} {post : Int32 → eg_H → Prop} (M : eg_H) (l1 : Int32) (l3 : Int32) (h : (vp_in ((360 : Int32) + l3) 366 ∧ ((M.1 (111, 0) ((360 : Int32) + l3).toNatClampNeg) = l1 → post l3 M) ∧ ((¬ (M.1 (111, 0) ((360 : Int32) + l3).toNatClampNeg) = l1) → (∀ x3 : Int32, x3 = (l3 + (1 : Int32)) → eg_W κ gM mtX11_station d (eQI κ gM post) 86 [(0, vR (60, 0)), (1, vI l1), (3, vI x3)] [] M)))) : eg_W κ gM mtX11_station d (eQI κ gM post) 86 [(0, vR (60, 0)), (1, vI l1), (3, vI l3)] [] M := by
  refine eg_aload_n 0 dX11_station_86 rfl rfl ?_
  refine eg_getR dX11_station_87 fl_11_72 rfl rfl (obM_60 z1) ?_
  show eg_W κ gM mtX11_station d (eQI κ gM post) 90 [(0, vR (60, 0)), (1, vI l1), (3, vI l3)] [vR (111, 0)] M
  refine eg_sipush dX11_station_90 sp_360 ?_
  refine eg_iload_n 2 dX11_station_93 rfl rfl ?_
  refine eg_iadd dX11_station_94 ?_
  obtain ⟨g1, h⟩ := h
  refine eg_iaload dX11_station_95 (arM_111 z1 g1) ?_
  refine eg_iload_n 1 dX11_station_96 rfl rfl ?_
  refine eg_icmp_eq (tgt := 106) dX11_station_97 rfl (fun c2 => ?_) (fun c2 => ?_)
  · have h := h.1 c2
    refine eg_iload_n 2 dX11_station_106 rfl rfl ?_
    exact eg_ireturn dX11_station_107 rfl h
  · have h := h.2 c2
    refine en_iinc (f := fun x3 => [(3, vI x3), (0, vR (60, 0)), (1, vI l1)]) 2 dX11_station_100 rfl rfl (by decide) rfl (fun x3 ex3 => ?_)
    have h := h x3 ex3
    refine eg_goto (tgt := 86) dX11_station_103 rfl ?_
    refine eg_sub [1, 2, 0] rfl ?_
    exact h
theorem dX11_seconds_0 : decode cX11_seconds 0 = .ok (.aload_n 0, 1) := by decide +kernel
theorem dX11_seconds_1 : decode cX11_seconds 1 = .ok (.iconst 0, 1) := by decide +kernel
theorem dX11_seconds_2 : decode cX11_seconds 2 = .ok (.putfield 127, 3) := by decide +kernel
theorem dX11_seconds_5 : decode cX11_seconds 5 = .ok (.iload_n 1, 1) := by decide +kernel
theorem dX11_seconds_6 : decode cX11_seconds 6 = .ok (.iconst 0, 1) := by decide +kernel
theorem dX11_seconds_7 : decode cX11_seconds 7 = .ok (.sipush 900, 3) := by decide +kernel
theorem dX11_seconds_10 : decode cX11_seconds 10 = .ok (.invokestatic 171, 3) := by decide +kernel
theorem dX11_seconds_13 : decode cX11_seconds 13 = .ok (.ifCond .eq 17, 3) := by decide +kernel
theorem dX11_seconds_16 : decode cX11_seconds 16 = .ok (.aload_n 0, 1) := by decide +kernel
theorem dX11_seconds_17 : decode cX11_seconds 17 = .ok (.getfield 72, 3) := by decide +kernel
theorem dX11_seconds_20 : decode cX11_seconds 20 = .ok (.iconst 0, 1) := by decide +kernel
theorem dX11_seconds_21 : decode cX11_seconds 21 = .ok (.iaload, 1) := by decide +kernel
theorem dX11_seconds_22 : decode cX11_seconds 22 = .ok (.iload_n 1, 1) := by decide +kernel
theorem dX11_seconds_23 : decode cX11_seconds 23 = .ok (.iadd, 1) := by decide +kernel
theorem dX11_seconds_24 : decode cX11_seconds 24 = .ok (.sipush 3600, 3) := by decide +kernel
theorem dX11_seconds_27 : decode cX11_seconds 27 = .ok (.if_icmp .le 5, 3) := by decide +kernel
theorem dX11_seconds_30 : decode cX11_seconds 30 = .ok (.iconst (-1), 1) := by decide +kernel
theorem dX11_seconds_31 : decode cX11_seconds 31 = .ok (.ireturn, 1) := by decide +kernel
theorem dX11_seconds_32 : decode cX11_seconds 32 = .ok (.iload_n 1, 1) := by decide +kernel
theorem dX11_seconds_33 : decode cX11_seconds 33 = .ok (.ifCond .le 8, 3) := by decide +kernel
theorem dX11_seconds_36 : decode cX11_seconds 36 = .ok (.aload_n 0, 1) := by decide +kernel
theorem dX11_seconds_37 : decode cX11_seconds 37 = .ok (.iconst 0, 1) := by decide +kernel
theorem dX11_seconds_38 : decode cX11_seconds 38 = .ok (.putfield 237, 3) := by decide +kernel
theorem dX11_seconds_41 : decode cX11_seconds 41 = .ok (.aload_n 0, 1) := by decide +kernel
theorem dX11_seconds_42 : decode cX11_seconds 42 = .ok (.invokevirtual 243, 3) := by decide +kernel
theorem dX11_seconds_45 : decode cX11_seconds 45 = .ok (.aload_n 0, 1) := by decide +kernel
theorem dX11_seconds_46 : decode cX11_seconds 46 = .ok (.getfield 69, 3) := by decide +kernel
theorem dX11_seconds_49 : decode cX11_seconds 49 = .ok (.aload_n 0, 1) := by decide +kernel
theorem dX11_seconds_50 : decode cX11_seconds 50 = .ok (.getfield 72, 3) := by decide +kernel
theorem dX11_seconds_53 : decode cX11_seconds 53 = .ok (.invokestatic 249, 3) := by decide +kernel
theorem dX11_seconds_56 : decode cX11_seconds 56 = .ok (.iconst 0, 1) := by decide +kernel
theorem dX11_seconds_57 : decode cX11_seconds 57 = .ok (.istore_n 2, 1) := by decide +kernel
theorem dX11_seconds_58 : decode cX11_seconds 58 = .ok (.iload_n 2, 1) := by decide +kernel
theorem dX11_seconds_59 : decode cX11_seconds 59 = .ok (.iload_n 1, 1) := by decide +kernel
theorem dX11_seconds_60 : decode cX11_seconds 60 = .ok (.if_icmp .ge 13, 3) := by decide +kernel
theorem dX11_seconds_63 : decode cX11_seconds 63 = .ok (.aload_n 0, 1) := by decide +kernel
theorem dX11_seconds_64 : decode cX11_seconds 64 = .ok (.invokevirtual 468, 3) := by decide +kernel
theorem dX11_seconds_67 : decode cX11_seconds 67 = .ok (.iinc 2 1, 3) := by decide +kernel
theorem dX11_seconds_70 : decode cX11_seconds 70 = .ok (.goto (-12), 3) := by decide +kernel
theorem dX11_seconds_73 : decode cX11_seconds 73 = .ok (.aload_n 0, 1) := by decide +kernel
theorem dX11_seconds_74 : decode cX11_seconds 74 = .ok (.getfield 72, 3) := by decide +kernel
theorem dX11_seconds_77 : decode cX11_seconds 77 = .ok (.aload_n 0, 1) := by decide +kernel
theorem dX11_seconds_78 : decode cX11_seconds 78 = .ok (.getfield 69, 3) := by decide +kernel
theorem dX11_seconds_81 : decode cX11_seconds 81 = .ok (.invokestatic 249, 3) := by decide +kernel
theorem dX11_seconds_84 : decode cX11_seconds 84 = .ok (.aload_n 0, 1) := by decide +kernel
theorem dX11_seconds_85 : decode cX11_seconds 85 = .ok (.getfield 72, 3) := by decide +kernel
theorem dX11_seconds_88 : decode cX11_seconds 88 = .ok (.iconst 0, 1) := by decide +kernel
theorem dX11_seconds_89 : decode cX11_seconds 89 = .ok (.iaload, 1) := by decide +kernel
theorem dX11_seconds_90 : decode cX11_seconds 90 = .ok (.ireturn, 1) := by decide +kernel
set_option maxRecDepth 10000 in
theorem vX11_seconds_0 {κ : eg_K} {d : Nat} (hd : 1 ≤ d) {post : Int32 → eg_H → Prop} (M : eg_H) (l1 : Int32) (h : (∀ M1 : eg_H, M1 = (sI M (60, 0) 2 (0 : Int32)) → (∀ x3 : Int32, x3 = (fX11_isIn M1 l1 (0 : Int32) (900 : Int32)) → (x3 = 0 → post (-1 : Int32) M1) ∧ ((¬ x3 = 0) → (vp_in (0 : Int32) 366 ∧ (((M1.1 (111, 0) (0 : Int32).toNatClampNeg) + l1) ≤ (3600 : Int32) → (l1 ≤ 0 → (gX11_clears M1 ∧ (∀ M9 : eg_H, M9 = (fX11_clears M1) → (gX11_lays M9 ((110, 0) : eg_R) ((111, 0) : eg_R) ∧ (∀ M12 : eg_H, M12 = (fX11_lays M9 ((110, 0) : eg_R) ((111, 0) : eg_R)) → eg_W κ gM mtX11_seconds d (eQI κ gM post) 58 [(0, vR (60, 0)), (1, vI l1), (2, vI (0 : Int32))] [] M12))))) ∧ ((¬ l1 ≤ 0) → (∀ M14 : eg_H, M14 = (sI M1 (60, 0) 69 (0 : Int32)) → (gX11_clears M14 ∧ (∀ M16 : eg_H, M16 = (fX11_clears M14) → (gX11_lays M16 ((110, 0) : eg_R) ((111, 0) : eg_R) ∧ (∀ M19 : eg_H, M19 = (fX11_lays M16 ((110, 0) : eg_R) ((111, 0) : eg_R)) → eg_W κ gM mtX11_seconds d (eQI κ gM post) 58 [(0, vR (60, 0)), (1, vI l1), (2, vI (0 : Int32))] [] M19))))))) ∧ ((¬ ((M1.1 (111, 0) (0 : Int32).toNatClampNeg) + l1) ≤ (3600 : Int32)) → post (-1 : Int32) M1)))))) : eg_W κ gM mtX11_seconds d (eQI κ gM post) 0 [(0, vR (60, 0)), (1, vI l1)] [] M := by
  refine eg_aload_n 0 dX11_seconds_0 rfl rfl ?_
  refine eg_iconst dX11_seconds_1 ic_0 ?_
  refine en_putI dX11_seconds_2 fl_11_127 rfl rfl (obM_60 z1) (fun M1 eM1 => ?_)
  have h := h M1 eM1
  refine eg_iload_n 1 dX11_seconds_5 rfl rfl ?_
  refine eg_iconst dX11_seconds_6 ic_0 ?_
  refine eg_sipush dX11_seconds_7 sp_900 ?_
  refine eg_callSI (av := [vI l1, vI (0 : Int32), vI (900 : Int32)]) (st := []) dX11_seconds_10 ml_11_171 rfl rfl (Nat.le_of_ble_eq_true rfl) (eg_dd (by omega)) (sX11_isIn (by omega) M1 l1 (0 : Int32) (900 : Int32)  ) (fun x3 M2 hp => ?_)
  obtain ⟨ex3, eM2⟩ := hp
  rw [eM2]
  have h := h x3 ex3
  refine eg_if_eq (tgt := 30) dX11_seconds_13 rfl (fun c4 => ?_) (fun c4 => ?_)
  · have h := h.1 c4
    refine eg_iconst dX11_seconds_30 ic_m1 ?_
    exact eg_ireturn dX11_seconds_31 rfl h
  · have h := h.2 c4
    refine eg_aload_n 0 dX11_seconds_16 rfl rfl ?_
    refine eg_getR dX11_seconds_17 fl_11_72 rfl rfl (obM_60 z1) ?_
    show eg_W κ gM mtX11_seconds d (eQI κ gM post) 20 [(0, vR (60, 0)), (1, vI l1)] [vR (111, 0)] M1
    refine eg_iconst dX11_seconds_20 ic_0 ?_
    obtain ⟨g5, h⟩ := h
    refine eg_iaload dX11_seconds_21 (arM_111 z1 g5) ?_
    refine eg_iload_n 1 dX11_seconds_22 rfl rfl ?_
    refine eg_iadd dX11_seconds_23 ?_
    refine eg_sipush dX11_seconds_24 sp_3600 ?_
    refine eg_icmp_le (tgt := 32) dX11_seconds_27 rfl (fun c6 => ?_) (fun c6 => ?_)
    · have h := h.1 c6
      refine eg_iload_n 1 dX11_seconds_32 rfl rfl ?_
      refine eg_if_le (tgt := 41) dX11_seconds_33 rfl (fun c7 => ?_) (fun c7 => ?_)
      · have h := h.1 c7
        refine eg_aload_n 0 dX11_seconds_41 rfl rfl ?_
        obtain ⟨g8, h⟩ := h
        refine eg_callVV (av := []) (st := []) dX11_seconds_42 ml_11_243 rfl rfl (obM_60 z1) (by decide) rfl (Nat.le_of_ble_eq_true rfl) (eg_dd (by omega)) (sX11_clears (by omega) M1   g8) (fun M9 eM9 => ?_)
        have h := h M9 eM9
        refine eg_aload_n 0 dX11_seconds_45 rfl rfl ?_
        refine eg_getR dX11_seconds_46 fl_11_69 rfl rfl (obM_60 z1) ?_
        show eg_W κ gM mtX11_seconds d (eQI κ gM post) 49 [(0, vR (60, 0)), (1, vI l1)] [vR (110, 0)] M9
        refine eg_aload_n 0 dX11_seconds_49 rfl rfl ?_
        refine eg_getR dX11_seconds_50 fl_11_72 rfl rfl (obM_60 z1) ?_
        show eg_W κ gM mtX11_seconds d (eQI κ gM post) 53 [(0, vR (60, 0)), (1, vI l1)] [vR (111, 0), vR (110, 0)] M9
        obtain ⟨g11, h⟩ := h
        refine eg_callSV (av := [vR (110, 0), vR (111, 0)]) (st := []) dX11_seconds_53 ml_11_249 rfl rfl (Nat.le_of_ble_eq_true rfl) (eg_dd (by omega)) (sX11_lays (by omega) M9 ((110, 0) : eg_R) ((111, 0) : eg_R) (anM_110 z1) (anM_111 z1) g11) (fun M12 eM12 => ?_)
        have h := h M12 eM12
        refine eg_iconst dX11_seconds_56 ic_0 ?_
        refine eg_istore_n dX11_seconds_57 rfl (by decide) (ls1 := [(2, vI (0 : Int32)), (0, vR (60, 0)), (1, vI l1)]) rfl ?_
        refine eg_sub [1, 2, 0] rfl ?_
        exact h
      · have h := h.2 c7
        refine eg_aload_n 0 dX11_seconds_36 rfl rfl ?_
        refine eg_iconst dX11_seconds_37 ic_0 ?_
        refine en_putI dX11_seconds_38 fl_11_237 rfl rfl (obM_60 z1) (fun M14 eM14 => ?_)
        have h := h M14 eM14
        refine eg_aload_n 0 dX11_seconds_41 rfl rfl ?_
        obtain ⟨g15, h⟩ := h
        refine eg_callVV (av := []) (st := []) dX11_seconds_42 ml_11_243 rfl rfl (obM_60 z1) (by decide) rfl (Nat.le_of_ble_eq_true rfl) (eg_dd (by omega)) (sX11_clears (by omega) M14   g15) (fun M16 eM16 => ?_)
        have h := h M16 eM16
        refine eg_aload_n 0 dX11_seconds_45 rfl rfl ?_
        refine eg_getR dX11_seconds_46 fl_11_69 rfl rfl (obM_60 z1) ?_
        show eg_W κ gM mtX11_seconds d (eQI κ gM post) 49 [(0, vR (60, 0)), (1, vI l1)] [vR (110, 0)] M16
        refine eg_aload_n 0 dX11_seconds_49 rfl rfl ?_
        refine eg_getR dX11_seconds_50 fl_11_72 rfl rfl (obM_60 z1) ?_
        show eg_W κ gM mtX11_seconds d (eQI κ gM post) 53 [(0, vR (60, 0)), (1, vI l1)] [vR (111, 0), vR (110, 0)] M16
        obtain ⟨g18, h⟩ := h
        refine eg_callSV (av := [vR (110, 0), vR (111, 0)]) (st := []) dX11_seconds_53 ml_11_249 rfl rfl (Nat.le_of_ble_eq_true rfl) (eg_dd (by omega)) (sX11_lays (by omega) M16 ((110, 0) : eg_R) ((111, 0) : eg_R) (anM_110 z1) (anM_111 z1) g18) (fun M19 eM19 => ?_)
        have h := h M19 eM19
        refine eg_iconst dX11_seconds_56 ic_0 ?_
        refine eg_istore_n dX11_seconds_57 rfl (by decide) (ls1 := [(2, vI (0 : Int32)), (0, vR (60, 0)), (1, vI l1)]) rfl ?_
        refine eg_sub [1, 2, 0] rfl ?_
        exact h
    · have h := h.2 c6
      refine eg_iconst dX11_seconds_30 ic_m1 ?_
      exact eg_ireturn dX11_seconds_31 rfl h
set_option maxRecDepth 10000 in
theorem vX11_seconds_58 {κ : eg_K} {d : Nat} (hd : 1 ≤ d) {post : Int32 → eg_H → Prop} (M : eg_H) (l1 : Int32) (l2 : Int32) (h : (l1 ≤ l2 → (gX11_lays M ((111, 0) : eg_R) ((110, 0) : eg_R) ∧ (∀ M3 : eg_H, M3 = (fX11_lays M ((111, 0) : eg_R) ((110, 0) : eg_R)) → (vp_in (0 : Int32) 366 ∧ post (M3.1 (111, 0) (0 : Int32).toNatClampNeg) M3)))) ∧ ((¬ l1 ≤ l2) → eCV κ gM mtX11_second d [vR (60, 0)] M (fun M6 => (∀ x8 : Int32, x8 = (l2 + (1 : Int32)) → eg_W κ gM mtX11_seconds d (eQI κ gM post) 58 [(0, vR (60, 0)), (1, vI l1), (2, vI x8)] [] M6)))) : eg_W κ gM mtX11_seconds d (eQI κ gM post) 58 [(0, vR (60, 0)), (1, vI l1), (2, vI l2)] [] M := by
  refine eg_iload_n 2 dX11_seconds_58 rfl rfl ?_
  refine eg_iload_n 1 dX11_seconds_59 rfl rfl ?_
  refine eg_icmp_ge (tgt := 73) dX11_seconds_60 rfl (fun c1 => ?_) (fun c1 => ?_)
  · have h := h.1 c1
    refine eg_aload_n 0 dX11_seconds_73 rfl rfl ?_
    refine eg_getR dX11_seconds_74 fl_11_72 rfl rfl (obM_60 z1) ?_
    show eg_W κ gM mtX11_seconds d (eQI κ gM post) 77 [(0, vR (60, 0)), (1, vI l1), (2, vI l2)] [vR (111, 0)] M
    refine eg_aload_n 0 dX11_seconds_77 rfl rfl ?_
    refine eg_getR dX11_seconds_78 fl_11_69 rfl rfl (obM_60 z1) ?_
    show eg_W κ gM mtX11_seconds d (eQI κ gM post) 81 [(0, vR (60, 0)), (1, vI l1), (2, vI l2)] [vR (110, 0), vR (111, 0)] M
    obtain ⟨g2, h⟩ := h
    refine eg_callSV (av := [vR (111, 0), vR (110, 0)]) (st := []) dX11_seconds_81 ml_11_249 rfl rfl (Nat.le_of_ble_eq_true rfl) (eg_dd (by omega)) (sX11_lays (by omega) M ((111, 0) : eg_R) ((110, 0) : eg_R) (anM_111 z1) (anM_110 z1) g2) (fun M3 eM3 => ?_)
    have h := h M3 eM3
    refine eg_aload_n 0 dX11_seconds_84 rfl rfl ?_
    refine eg_getR dX11_seconds_85 fl_11_72 rfl rfl (obM_60 z1) ?_
    show eg_W κ gM mtX11_seconds d (eQI κ gM post) 88 [(0, vR (60, 0)), (1, vI l1), (2, vI l2)] [vR (111, 0)] M3
    refine eg_iconst dX11_seconds_88 ic_0 ?_
    obtain ⟨g5, h⟩ := h
    refine eg_iaload dX11_seconds_89 (arM_111 z1 g5) ?_
    exact eg_ireturn dX11_seconds_90 rfl h
  · have h := h.2 c1
    refine eg_aload_n 0 dX11_seconds_63 rfl rfl ?_
    obtain ⟨q7, hq7, h⟩ := h
    refine eg_callVV (av := []) (st := []) dX11_seconds_64 ml_11_468 rfl rfl (obM_60 z1) (by decide) rfl (Nat.le_of_ble_eq_true rfl) (eg_dd (by omega)) hq7 (fun M6 hp => ?_)
    have h := h M6 hp
    refine en_iinc (f := fun x8 => [(2, vI x8), (0, vR (60, 0)), (1, vI l1)]) 2 dX11_seconds_67 rfl rfl (by decide) rfl (fun x8 ex8 => ?_)
    have h := h x8 ex8
    refine eg_goto (tgt := 58) dX11_seconds_70 rfl ?_
    refine eg_sub [1, 2, 0] rfl ?_
    exact h
theorem dX11_put_0 : decode cX11_put 0 = .ok (.aload_n 0, 1) := by decide +kernel
theorem dX11_put_1 : decode cX11_put 1 = .ok (.iconst 0, 1) := by decide +kernel
theorem dX11_put_2 : decode cX11_put 2 = .ok (.putfield 127, 3) := by decide +kernel
theorem dX11_put_5 : decode cX11_put 5 = .ok (.aload_n 0, 1) := by decide +kernel
theorem dX11_put_6 : decode cX11_put 6 = .ok (.iload_n 1, 1) := by decide +kernel
theorem dX11_put_7 : decode cX11_put 7 = .ok (.invokevirtual 478, 3) := by decide +kernel
theorem dX11_put_10 : decode cX11_put 10 = .ok (.ifCond .eq 11, 3) := by decide +kernel
theorem dX11_put_13 : decode cX11_put 13 = .ok (.aload_n 0, 1) := by decide +kernel
theorem dX11_put_14 : decode cX11_put 14 = .ok (.iload_n 1, 1) := by decide +kernel
theorem dX11_put_15 : decode cX11_put 15 = .ok (.invokevirtual 415, 3) := by decide +kernel
theorem dX11_put_18 : decode cX11_put 18 = .ok (.ifCond .ne 5, 3) := by decide +kernel
theorem dX11_put_21 : decode cX11_put 21 = .ok (.iconst (-1), 1) := by decide +kernel
theorem dX11_put_22 : decode cX11_put 22 = .ok (.ireturn, 1) := by decide +kernel
theorem dX11_put_23 : decode cX11_put 23 = .ok (.aload_n 0, 1) := by decide +kernel
theorem dX11_put_24 : decode cX11_put 24 = .ok (.invokevirtual 481, 3) := by decide +kernel
theorem dX11_put_27 : decode cX11_put 27 = .ok (.aload_n 0, 1) := by decide +kernel
theorem dX11_put_28 : decode cX11_put 28 = .ok (.getfield 72, 3) := by decide +kernel
theorem dX11_put_31 : decode cX11_put 31 = .ok (.iload_n 1, 1) := by decide +kernel
theorem dX11_put_32 : decode cX11_put 32 = .ok (.invokestatic 377, 3) := by decide +kernel
theorem dX11_put_35 : decode cX11_put 35 = .ok (.dup2, 1) := by decide +kernel
theorem dX11_put_36 : decode cX11_put 36 = .ok (.iaload, 1) := by decide +kernel
theorem dX11_put_37 : decode cX11_put 37 = .ok (.aload_n 0, 1) := by decide +kernel
theorem dX11_put_38 : decode cX11_put 38 = .ok (.iload_n 1, 1) := by decide +kernel
theorem dX11_put_39 : decode cX11_put 39 = .ok (.iconst 2, 1) := by decide +kernel
theorem dX11_put_40 : decode cX11_put 40 = .ok (.invokevirtual 366, 3) := by decide +kernel
theorem dX11_put_43 : decode cX11_put 43 = .ok (.iadd, 1) := by decide +kernel
theorem dX11_put_44 : decode cX11_put 44 = .ok (.iastore, 1) := by decide +kernel
theorem dX11_put_45 : decode cX11_put 45 = .ok (.aload_n 0, 1) := by decide +kernel
theorem dX11_put_46 : decode cX11_put 46 = .ok (.getfield 72, 3) := by decide +kernel
theorem dX11_put_49 : decode cX11_put 49 = .ok (.iload_n 1, 1) := by decide +kernel
theorem dX11_put_50 : decode cX11_put 50 = .ok (.invokestatic 377, 3) := by decide +kernel
theorem dX11_put_53 : decode cX11_put 53 = .ok (.iconst 1, 1) := by decide +kernel
theorem dX11_put_54 : decode cX11_put 54 = .ok (.iadd, 1) := by decide +kernel
theorem dX11_put_55 : decode cX11_put 55 = .ok (.iconst 0, 1) := by decide +kernel
theorem dX11_put_56 : decode cX11_put 56 = .ok (.iastore, 1) := by decide +kernel
theorem dX11_put_57 : decode cX11_put 57 = .ok (.aload_n 0, 1) := by decide +kernel
theorem dX11_put_58 : decode cX11_put 58 = .ok (.getfield 72, 3) := by decide +kernel
theorem dX11_put_61 : decode cX11_put 61 = .ok (.iload_n 1, 1) := by decide +kernel
theorem dX11_put_62 : decode cX11_put 62 = .ok (.invokestatic 377, 3) := by decide +kernel
theorem dX11_put_65 : decode cX11_put 65 = .ok (.bipush 6, 2) := by decide +kernel
theorem dX11_put_67 : decode cX11_put 67 = .ok (.iadd, 1) := by decide +kernel
theorem dX11_put_68 : decode cX11_put 68 = .ok (.dup2, 1) := by decide +kernel
theorem dX11_put_69 : decode cX11_put 69 = .ok (.iaload, 1) := by decide +kernel
theorem dX11_put_70 : decode cX11_put 70 = .ok (.iconst 1, 1) := by decide +kernel
theorem dX11_put_71 : decode cX11_put 71 = .ok (.iadd, 1) := by decide +kernel
theorem dX11_put_72 : decode cX11_put 72 = .ok (.iastore, 1) := by decide +kernel
theorem dX11_put_73 : decode cX11_put 73 = .ok (.aload_n 0, 1) := by decide +kernel
theorem dX11_put_74 : decode cX11_put 74 = .ok (.getfield 72, 3) := by decide +kernel
theorem dX11_put_77 : decode cX11_put 77 = .ok (.iload_n 1, 1) := by decide +kernel
theorem dX11_put_78 : decode cX11_put 78 = .ok (.invokestatic 377, 3) := by decide +kernel
theorem dX11_put_81 : decode cX11_put 81 = .ok (.iaload, 1) := by decide +kernel
theorem dX11_put_82 : decode cX11_put 82 = .ok (.ireturn, 1) := by decide +kernel
set_option maxRecDepth 10000 in
theorem vX11_put_0 {κ : eg_K} {d : Nat} (hd : 2 ≤ d) {post : Int32 → eg_H → Prop} (M : eg_H) (l1 : Int32) (h : (∀ M1 : eg_H, M1 = (sI M (60, 0) 2 (0 : Int32)) → (∀ x3 : Int32, x3 = (fX11_isStation M1 l1) → (x3 = 0 → post (-1 : Int32) M1) ∧ ((¬ x3 = 0) → (gX11_hasPan M1 l1 ∧ (∀ x7 : Int32, x7 = (fX11_hasPan M1 l1) → ((¬ x7 = 0) → (gX11_remembers M1 ∧ (∀ M10 : eg_H, M10 = (fX11_remembers M1) → (∀ x13 : Int32, x13 = (fX11_pan M10 l1) → (vp_in x13 366 ∧ (gX11_has M10 l1 (2 : Int32) ∧ (∀ x17 : Int32, x17 = (fX11_has M10 l1 (2 : Int32)) → (∀ M18 : eg_H, M18 = (sI M10 (111, 0) x13.toNatClampNeg ((M10.1 (111, 0) x13.toNatClampNeg) + x17)) → (∀ x20 : Int32, x20 = (fX11_pan M18 l1) → (vp_in (x20 + (1 : Int32)) 366 ∧ (∀ M22 : eg_H, M22 = (sI M18 (111, 0) (x20 + (1 : Int32)).toNatClampNeg (0 : Int32)) → (∀ x24 : Int32, x24 = (fX11_pan M22 l1) → (vp_in (x24 + (6 : Int32)) 366 ∧ (∀ M26 : eg_H, M26 = (sI M22 (111, 0) (x24 + (6 : Int32)).toNatClampNeg ((M22.1 (111, 0) (x24 + (6 : Int32)).toNatClampNeg) + (1 : Int32))) → (∀ x28 : Int32, x28 = (fX11_pan M26 l1) → (vp_in x28 366 ∧ post (M26.1 (111, 0) x28.toNatClampNeg) M26)))))))))))))))) ∧ (x7 = 0 → post (-1 : Int32) M1))))))) : eg_W κ gM mtX11_put d (eQI κ gM post) 0 [(0, vR (60, 0)), (1, vI l1)] [] M := by
  refine eg_aload_n 0 dX11_put_0 rfl rfl ?_
  refine eg_iconst dX11_put_1 ic_0 ?_
  refine en_putI dX11_put_2 fl_11_127 rfl rfl (obM_60 z1) (fun M1 eM1 => ?_)
  have h := h M1 eM1
  refine eg_aload_n 0 dX11_put_5 rfl rfl ?_
  refine eg_iload_n 1 dX11_put_6 rfl rfl ?_
  refine eg_callVI (av := [vI l1]) (st := []) dX11_put_7 ml_11_478 rfl rfl (obM_60 z1) (by decide) rfl (Nat.le_of_ble_eq_true rfl) (eg_dd (by omega)) (sX11_isStation (by omega) M1 l1  ) (fun x3 M2 hp => ?_)
  obtain ⟨ex3, eM2⟩ := hp
  rw [eM2]
  have h := h x3 ex3
  refine eg_if_eq (tgt := 21) dX11_put_10 rfl (fun c4 => ?_) (fun c4 => ?_)
  · have h := h.1 c4
    refine eg_iconst dX11_put_21 ic_m1 ?_
    exact eg_ireturn dX11_put_22 rfl h
  · have h := h.2 c4
    refine eg_aload_n 0 dX11_put_13 rfl rfl ?_
    refine eg_iload_n 1 dX11_put_14 rfl rfl ?_
    obtain ⟨g5, h⟩ := h
    refine eg_callVI (av := [vI l1]) (st := []) dX11_put_15 ml_11_415 rfl rfl (obM_60 z1) (by decide) rfl (Nat.le_of_ble_eq_true rfl) (eg_dd (by omega)) (sX11_hasPan (by omega) M1 l1  g5) (fun x7 M6 hp => ?_)
    obtain ⟨ex7, eM6⟩ := hp
    rw [eM6]
    have h := h x7 ex7
    refine eg_if_ne (tgt := 23) dX11_put_18 rfl (fun c8 => ?_) (fun c8 => ?_)
    · have h := h.1 c8
      refine eg_aload_n 0 dX11_put_23 rfl rfl ?_
      obtain ⟨g9, h⟩ := h
      refine eg_callVV (av := []) (st := []) dX11_put_24 ml_11_481 rfl rfl (obM_60 z1) (by decide) rfl (Nat.le_of_ble_eq_true rfl) (eg_dd (by omega)) (sX11_remembers (by omega) M1   g9) (fun M10 eM10 => ?_)
      have h := h M10 eM10
      refine eg_aload_n 0 dX11_put_27 rfl rfl ?_
      refine eg_getR dX11_put_28 fl_11_72 rfl rfl (obM_60 z1) ?_
      show eg_W κ gM mtX11_put d (eQI κ gM post) 31 [(0, vR (60, 0)), (1, vI l1)] [vR (111, 0)] M10
      refine eg_iload_n 1 dX11_put_31 rfl rfl ?_
      refine eg_callSI (av := [vI l1]) (st := [vR (111, 0)]) dX11_put_32 ml_11_377 rfl rfl (Nat.le_of_ble_eq_true rfl) (eg_dd (by omega)) (sX11_pan (by omega) M10 l1  ) (fun x13 M12 hp => ?_)
      obtain ⟨ex13, eM12⟩ := hp
      rw [eM12]
      have h := h x13 ex13
      refine eg_dup2 dX11_put_35 rfl rfl ?_
      obtain ⟨g14, h⟩ := h
      refine eg_iaload dX11_put_36 (arM_111 z1 g14) ?_
      refine eg_aload_n 0 dX11_put_37 rfl rfl ?_
      refine eg_iload_n 1 dX11_put_38 rfl rfl ?_
      refine eg_iconst dX11_put_39 ic_2 ?_
      obtain ⟨g15, h⟩ := h
      refine eg_callVI (av := [vI l1, vI (2 : Int32)]) (st := [vI (M10.1 (111, 0) x13.toNatClampNeg), vI x13, vR (111, 0)]) dX11_put_40 ml_11_366 rfl rfl (obM_60 z1) (by decide) rfl (Nat.le_of_ble_eq_true rfl) (eg_dd (by omega)) (sX11_has (by omega) M10 l1 (2 : Int32)  g15) (fun x17 M16 hp => ?_)
      obtain ⟨ex17, eM16⟩ := hp
      rw [eM16]
      have h := h x17 ex17
      refine eg_iadd dX11_put_43 ?_
      refine en_iastore dX11_put_44 (arM_111 z1 g14) (fun M18 eM18 => ?_)
      have h := h M18 eM18
      refine eg_aload_n 0 dX11_put_45 rfl rfl ?_
      refine eg_getR dX11_put_46 fl_11_72 rfl rfl (obM_60 z1) ?_
      show eg_W κ gM mtX11_put d (eQI κ gM post) 49 [(0, vR (60, 0)), (1, vI l1)] [vR (111, 0)] M18
      refine eg_iload_n 1 dX11_put_49 rfl rfl ?_
      refine eg_callSI (av := [vI l1]) (st := [vR (111, 0)]) dX11_put_50 ml_11_377 rfl rfl (Nat.le_of_ble_eq_true rfl) (eg_dd (by omega)) (sX11_pan (by omega) M18 l1  ) (fun x20 M19 hp => ?_)
      obtain ⟨ex20, eM19⟩ := hp
      rw [eM19]
      have h := h x20 ex20
      refine eg_iconst dX11_put_53 ic_1 ?_
      refine eg_iadd dX11_put_54 ?_
      refine eg_iconst dX11_put_55 ic_0 ?_
      obtain ⟨g21, h⟩ := h
      refine en_iastore dX11_put_56 (arM_111 z1 g21) (fun M22 eM22 => ?_)
      have h := h M22 eM22
      refine eg_aload_n 0 dX11_put_57 rfl rfl ?_
      refine eg_getR dX11_put_58 fl_11_72 rfl rfl (obM_60 z1) ?_
      show eg_W κ gM mtX11_put d (eQI κ gM post) 61 [(0, vR (60, 0)), (1, vI l1)] [vR (111, 0)] M22
      refine eg_iload_n 1 dX11_put_61 rfl rfl ?_
      refine eg_callSI (av := [vI l1]) (st := [vR (111, 0)]) dX11_put_62 ml_11_377 rfl rfl (Nat.le_of_ble_eq_true rfl) (eg_dd (by omega)) (sX11_pan (by omega) M22 l1  ) (fun x24 M23 hp => ?_)
      obtain ⟨ex24, eM23⟩ := hp
      rw [eM23]
      have h := h x24 ex24
      refine eg_bipush dX11_put_65 bp_6 ?_
      refine eg_iadd dX11_put_67 ?_
      refine eg_dup2 dX11_put_68 rfl rfl ?_
      obtain ⟨g25, h⟩ := h
      refine eg_iaload dX11_put_69 (arM_111 z1 g25) ?_
      refine eg_iconst dX11_put_70 ic_1 ?_
      refine eg_iadd dX11_put_71 ?_
      refine en_iastore dX11_put_72 (arM_111 z1 g25) (fun M26 eM26 => ?_)
      have h := h M26 eM26
      refine eg_aload_n 0 dX11_put_73 rfl rfl ?_
      refine eg_getR dX11_put_74 fl_11_72 rfl rfl (obM_60 z1) ?_
      show eg_W κ gM mtX11_put d (eQI κ gM post) 77 [(0, vR (60, 0)), (1, vI l1)] [vR (111, 0)] M26
      refine eg_iload_n 1 dX11_put_77 rfl rfl ?_
      refine eg_callSI (av := [vI l1]) (st := [vR (111, 0)]) dX11_put_78 ml_11_377 rfl rfl (Nat.le_of_ble_eq_true rfl) (eg_dd (by omega)) (sX11_pan (by omega) M26 l1  ) (fun x28 M27 hp => ?_)
      obtain ⟨ex28, eM27⟩ := hp
      rw [eM27]
      have h := h x28 ex28
      obtain ⟨g29, h⟩ := h
      refine eg_iaload dX11_put_81 (arM_111 z1 g29) ?_
      exact eg_ireturn dX11_put_82 rfl h
    · have h := h.2 c8
      refine eg_iconst dX11_put_21 ic_m1 ?_
      exact eg_ireturn dX11_put_22 rfl h
theorem dX11_change_0 : decode cX11_change 0 = .ok (.aload_n 0, 1) := by decide +kernel
theorem dX11_change_1 : decode cX11_change 1 = .ok (.iconst 0, 1) := by decide +kernel
theorem dX11_change_2 : decode cX11_change 2 = .ok (.putfield 127, 3) := by decide +kernel
theorem dX11_change_5 : decode cX11_change 5 = .ok (.aload_n 0, 1) := by decide +kernel
theorem dX11_change_6 : decode cX11_change 6 = .ok (.iload_n 1, 1) := by decide +kernel
theorem dX11_change_7 : decode cX11_change 7 = .ok (.invokevirtual 478, 3) := by decide +kernel
theorem dX11_change_10 : decode cX11_change 10 = .ok (.ifCond .eq 25, 3) := by decide +kernel
theorem dX11_change_13 : decode cX11_change 13 = .ok (.aload_n 0, 1) := by decide +kernel
theorem dX11_change_14 : decode cX11_change 14 = .ok (.iload_n 2, 1) := by decide +kernel
theorem dX11_change_15 : decode cX11_change 15 = .ok (.invokevirtual 478, 3) := by decide +kernel
theorem dX11_change_18 : decode cX11_change 18 = .ok (.ifCond .eq 17, 3) := by decide +kernel
theorem dX11_change_21 : decode cX11_change 21 = .ok (.iload_n 1, 1) := by decide +kernel
theorem dX11_change_22 : decode cX11_change 22 = .ok (.iload_n 2, 1) := by decide +kernel
theorem dX11_change_23 : decode cX11_change 23 = .ok (.if_icmp .eq 12, 3) := by decide +kernel
theorem dX11_change_26 : decode cX11_change 26 = .ok (.aload_n 0, 1) := by decide +kernel
theorem dX11_change_27 : decode cX11_change 27 = .ok (.getfield 72, 3) := by decide +kernel
theorem dX11_change_30 : decode cX11_change 30 = .ok (.iconst 1, 1) := by decide +kernel
theorem dX11_change_31 : decode cX11_change 31 = .ok (.iaload, 1) := by decide +kernel
theorem dX11_change_32 : decode cX11_change 32 = .ok (.ifCond .le 5, 3) := by decide +kernel
theorem dX11_change_35 : decode cX11_change 35 = .ok (.iconst 0, 1) := by decide +kernel
theorem dX11_change_36 : decode cX11_change 36 = .ok (.ireturn, 1) := by decide +kernel
theorem dX11_change_37 : decode cX11_change 37 = .ok (.aload_n 0, 1) := by decide +kernel
theorem dX11_change_38 : decode cX11_change 38 = .ok (.invokevirtual 481, 3) := by decide +kernel
theorem dX11_change_41 : decode cX11_change 41 = .ok (.aload_n 0, 1) := by decide +kernel
theorem dX11_change_42 : decode cX11_change 42 = .ok (.getfield 72, 3) := by decide +kernel
theorem dX11_change_45 : decode cX11_change 45 = .ok (.sipush 360, 3) := by decide +kernel
theorem dX11_change_48 : decode cX11_change 48 = .ok (.iload_n 1, 1) := by decide +kernel
theorem dX11_change_49 : decode cX11_change 49 = .ok (.iadd, 1) := by decide +kernel
theorem dX11_change_50 : decode cX11_change 50 = .ok (.iaload, 1) := by decide +kernel
theorem dX11_change_51 : decode cX11_change 51 = .ok (.istore_n 3, 1) := by decide +kernel
theorem dX11_change_52 : decode cX11_change 52 = .ok (.aload_n 0, 1) := by decide +kernel
theorem dX11_change_53 : decode cX11_change 53 = .ok (.getfield 72, 3) := by decide +kernel
theorem dX11_change_56 : decode cX11_change 56 = .ok (.sipush 360, 3) := by decide +kernel
theorem dX11_change_59 : decode cX11_change 59 = .ok (.iload_n 1, 1) := by decide +kernel
theorem dX11_change_60 : decode cX11_change 60 = .ok (.iadd, 1) := by decide +kernel
theorem dX11_change_61 : decode cX11_change 61 = .ok (.aload_n 0, 1) := by decide +kernel
theorem dX11_change_62 : decode cX11_change 62 = .ok (.getfield 72, 3) := by decide +kernel
theorem dX11_change_65 : decode cX11_change 65 = .ok (.sipush 360, 3) := by decide +kernel
theorem dX11_change_68 : decode cX11_change 68 = .ok (.iload_n 2, 1) := by decide +kernel
theorem dX11_change_69 : decode cX11_change 69 = .ok (.iadd, 1) := by decide +kernel
theorem dX11_change_70 : decode cX11_change 70 = .ok (.iaload, 1) := by decide +kernel
theorem dX11_change_71 : decode cX11_change 71 = .ok (.iastore, 1) := by decide +kernel
theorem dX11_change_72 : decode cX11_change 72 = .ok (.aload_n 0, 1) := by decide +kernel
theorem dX11_change_73 : decode cX11_change 73 = .ok (.getfield 72, 3) := by decide +kernel
theorem dX11_change_76 : decode cX11_change 76 = .ok (.sipush 360, 3) := by decide +kernel
theorem dX11_change_79 : decode cX11_change 79 = .ok (.iload_n 2, 1) := by decide +kernel
theorem dX11_change_80 : decode cX11_change 80 = .ok (.iadd, 1) := by decide +kernel
theorem dX11_change_81 : decode cX11_change 81 = .ok (.iload_n 3, 1) := by decide +kernel
theorem dX11_change_82 : decode cX11_change 82 = .ok (.iastore, 1) := by decide +kernel
theorem dX11_change_83 : decode cX11_change 83 = .ok (.aload_n 0, 1) := by decide +kernel
theorem dX11_change_84 : decode cX11_change 84 = .ok (.invokevirtual 484, 3) := by decide +kernel
theorem dX11_change_87 : decode cX11_change 87 = .ok (.iconst 1, 1) := by decide +kernel
theorem dX11_change_88 : decode cX11_change 88 = .ok (.ireturn, 1) := by decide +kernel
set_option maxRecDepth 10000 in
theorem vX11_change_0 {κ : eg_K} {d : Nat} (hd : 1 ≤ d) {post : Int32 → eg_H → Prop} (M : eg_H) (l1 : Int32) (l2 : Int32) (h : (∀ M1 : eg_H, M1 = (sI M (60, 0) 2 (0 : Int32)) → (∀ x3 : Int32, x3 = (fX11_isStation M1 l1) → (x3 = 0 → post (0 : Int32) M1) ∧ ((¬ x3 = 0) → (∀ x6 : Int32, x6 = (fX11_isStation M1 l2) → (x6 = 0 → post (0 : Int32) M1) ∧ ((¬ x6 = 0) → (l1 = l2 → post (0 : Int32) M1) ∧ ((¬ l1 = l2) → (vp_in (1 : Int32) 366 ∧ ((M1.1 (111, 0) (1 : Int32).toNatClampNeg) ≤ 0 → (gX11_remembers M1 ∧ (∀ M12 : eg_H, M12 = (fX11_remembers M1) → (vp_in ((360 : Int32) + l1) 366 ∧ (∀ x15 : Int32, x15 = (M12.1 (111, 0) ((360 : Int32) + l1).toNatClampNeg) → (vp_in ((360 : Int32) + l2) 366 ∧ (∀ M17 : eg_H, M17 = (sI M12 (111, 0) ((360 : Int32) + l1).toNatClampNeg (M12.1 (111, 0) ((360 : Int32) + l2).toNatClampNeg)) → (∀ M18 : eg_H, M18 = (sI M17 (111, 0) ((360 : Int32) + l2).toNatClampNeg x15) → (∀ M19 : eg_H, M19 = (fX11_layRow M18) → post (1 : Int32) M19))))))))) ∧ ((¬ (M1.1 (111, 0) (1 : Int32).toNatClampNeg) ≤ 0) → post (0 : Int32) M1))))))))) : eg_W κ gM mtX11_change d (eQI κ gM post) 0 [(0, vR (60, 0)), (1, vI l1), (2, vI l2)] [] M := by
  refine eg_aload_n 0 dX11_change_0 rfl rfl ?_
  refine eg_iconst dX11_change_1 ic_0 ?_
  refine en_putI dX11_change_2 fl_11_127 rfl rfl (obM_60 z1) (fun M1 eM1 => ?_)
  have h := h M1 eM1
  refine eg_aload_n 0 dX11_change_5 rfl rfl ?_
  refine eg_iload_n 1 dX11_change_6 rfl rfl ?_
  refine eg_callVI (av := [vI l1]) (st := []) dX11_change_7 ml_11_478 rfl rfl (obM_60 z1) (by decide) rfl (Nat.le_of_ble_eq_true rfl) (eg_dd (by omega)) (sX11_isStation (by omega) M1 l1  ) (fun x3 M2 hp => ?_)
  obtain ⟨ex3, eM2⟩ := hp
  rw [eM2]
  have h := h x3 ex3
  refine eg_if_eq (tgt := 35) dX11_change_10 rfl (fun c4 => ?_) (fun c4 => ?_)
  · have h := h.1 c4
    refine eg_iconst dX11_change_35 ic_0 ?_
    exact eg_zreturn dX11_change_36 rfl (Or.inl rfl) h
  · have h := h.2 c4
    refine eg_aload_n 0 dX11_change_13 rfl rfl ?_
    refine eg_iload_n 2 dX11_change_14 rfl rfl ?_
    refine eg_callVI (av := [vI l2]) (st := []) dX11_change_15 ml_11_478 rfl rfl (obM_60 z1) (by decide) rfl (Nat.le_of_ble_eq_true rfl) (eg_dd (by omega)) (sX11_isStation (by omega) M1 l2  ) (fun x6 M5 hp => ?_)
    obtain ⟨ex6, eM5⟩ := hp
    rw [eM5]
    have h := h x6 ex6
    refine eg_if_eq (tgt := 35) dX11_change_18 rfl (fun c7 => ?_) (fun c7 => ?_)
    · have h := h.1 c7
      refine eg_iconst dX11_change_35 ic_0 ?_
      exact eg_zreturn dX11_change_36 rfl (Or.inl rfl) h
    · have h := h.2 c7
      refine eg_iload_n 1 dX11_change_21 rfl rfl ?_
      refine eg_iload_n 2 dX11_change_22 rfl rfl ?_
      refine eg_icmp_eq (tgt := 35) dX11_change_23 rfl (fun c8 => ?_) (fun c8 => ?_)
      · have h := h.1 c8
        refine eg_iconst dX11_change_35 ic_0 ?_
        exact eg_zreturn dX11_change_36 rfl (Or.inl rfl) h
      · have h := h.2 c8
        refine eg_aload_n 0 dX11_change_26 rfl rfl ?_
        refine eg_getR dX11_change_27 fl_11_72 rfl rfl (obM_60 z1) ?_
        show eg_W κ gM mtX11_change d (eQI κ gM post) 30 [(0, vR (60, 0)), (1, vI l1), (2, vI l2)] [vR (111, 0)] M1
        refine eg_iconst dX11_change_30 ic_1 ?_
        obtain ⟨g9, h⟩ := h
        refine eg_iaload dX11_change_31 (arM_111 z1 g9) ?_
        refine eg_if_le (tgt := 37) dX11_change_32 rfl (fun c10 => ?_) (fun c10 => ?_)
        · have h := h.1 c10
          refine eg_aload_n 0 dX11_change_37 rfl rfl ?_
          obtain ⟨g11, h⟩ := h
          refine eg_callVV (av := []) (st := []) dX11_change_38 ml_11_481 rfl rfl (obM_60 z1) (by decide) rfl (Nat.le_of_ble_eq_true rfl) (eg_dd (by omega)) (sX11_remembers (by omega) M1   g11) (fun M12 eM12 => ?_)
          have h := h M12 eM12
          refine eg_aload_n 0 dX11_change_41 rfl rfl ?_
          refine eg_getR dX11_change_42 fl_11_72 rfl rfl (obM_60 z1) ?_
          show eg_W κ gM mtX11_change d (eQI κ gM post) 45 [(0, vR (60, 0)), (1, vI l1), (2, vI l2)] [vR (111, 0)] M12
          refine eg_sipush dX11_change_45 sp_360 ?_
          refine eg_iload_n 1 dX11_change_48 rfl rfl ?_
          refine eg_iadd dX11_change_49 ?_
          obtain ⟨g14, h⟩ := h
          refine eg_iaload dX11_change_50 (arM_111 z1 g14) ?_
          refine en_istore_n (f := fun x15 => [(3, vI x15), (0, vR (60, 0)), (1, vI l1), (2, vI l2)]) dX11_change_51 rfl (by decide) rfl (fun x15 ex15 => ?_)
          have h := h x15 ex15
          refine eg_aload_n 1 dX11_change_52 rfl rfl ?_
          refine eg_getR dX11_change_53 fl_11_72 rfl rfl (obM_60 z1) ?_
          show eg_W κ gM mtX11_change d (eQI κ gM post) 56 [(3, vI x15), (0, vR (60, 0)), (1, vI l1), (2, vI l2)] [vR (111, 0)] M12
          refine eg_sipush dX11_change_56 sp_360 ?_
          refine eg_iload_n 2 dX11_change_59 rfl rfl ?_
          refine eg_iadd dX11_change_60 ?_
          refine eg_aload_n 1 dX11_change_61 rfl rfl ?_
          refine eg_getR dX11_change_62 fl_11_72 rfl rfl (obM_60 z1) ?_
          show eg_W κ gM mtX11_change d (eQI κ gM post) 65 [(3, vI x15), (0, vR (60, 0)), (1, vI l1), (2, vI l2)] [vR (111, 0), vI ((360 : Int32) + l1), vR (111, 0)] M12
          refine eg_sipush dX11_change_65 sp_360 ?_
          refine eg_iload_n 3 dX11_change_68 rfl rfl ?_
          refine eg_iadd dX11_change_69 ?_
          obtain ⟨g16, h⟩ := h
          refine eg_iaload dX11_change_70 (arM_111 z1 g16) ?_
          refine en_iastore dX11_change_71 (arM_111 z1 g14) (fun M17 eM17 => ?_)
          have h := h M17 eM17
          refine eg_aload_n 1 dX11_change_72 rfl rfl ?_
          refine eg_getR dX11_change_73 fl_11_72 rfl rfl (obM_60 z1) ?_
          show eg_W κ gM mtX11_change d (eQI κ gM post) 76 [(3, vI x15), (0, vR (60, 0)), (1, vI l1), (2, vI l2)] [vR (111, 0)] M17
          refine eg_sipush dX11_change_76 sp_360 ?_
          refine eg_iload_n 3 dX11_change_79 rfl rfl ?_
          refine eg_iadd dX11_change_80 ?_
          refine eg_iload_n 0 dX11_change_81 rfl rfl ?_
          refine en_iastore dX11_change_82 (arM_111 z1 g16) (fun M18 eM18 => ?_)
          have h := h M18 eM18
          refine eg_aload_n 1 dX11_change_83 rfl rfl ?_
          refine eg_callVV (av := []) (st := []) dX11_change_84 ml_11_484 rfl rfl (obM_60 z1) (by decide) rfl (Nat.le_of_ble_eq_true rfl) (eg_dd (by omega)) (sX11_layRow (by omega) M18   ) (fun M19 eM19 => ?_)
          have h := h M19 eM19
          refine eg_iconst dX11_change_87 ic_1 ?_
          exact eg_zreturn dX11_change_88 rfl (Or.inr rfl) h
        · have h := h.2 c10
          refine eg_iconst dX11_change_35 ic_0 ?_
          exact eg_zreturn dX11_change_36 rfl (Or.inl rfl) h
theorem dX11_send_0 : decode cX11_send 0 = .ok (.aload_n 0, 1) := by decide +kernel
theorem dX11_send_1 : decode cX11_send 1 = .ok (.iconst 0, 1) := by decide +kernel
theorem dX11_send_2 : decode cX11_send 2 = .ok (.putfield 127, 3) := by decide +kernel
theorem dX11_send_5 : decode cX11_send 5 = .ok (.aload_n 0, 1) := by decide +kernel
theorem dX11_send_6 : decode cX11_send 6 = .ok (.iload_n 1, 1) := by decide +kernel
theorem dX11_send_7 : decode cX11_send 7 = .ok (.invokevirtual 472, 3) := by decide +kernel
theorem dX11_send_10 : decode cX11_send 10 = .ok (.ifCond .eq 16, 3) := by decide +kernel
theorem dX11_send_13 : decode cX11_send 13 = .ok (.aload_n 0, 1) := by decide +kernel
theorem dX11_send_14 : decode cX11_send 14 = .ok (.getfield 72, 3) := by decide +kernel
theorem dX11_send_17 : decode cX11_send 17 = .ok (.iload_n 1, 1) := by decide +kernel
theorem dX11_send_18 : decode cX11_send 18 = .ok (.invokestatic 372, 3) := by decide +kernel
theorem dX11_send_21 : decode cX11_send 21 = .ok (.iaload, 1) := by decide +kernel
theorem dX11_send_22 : decode cX11_send 22 = .ok (.iconst 3, 1) := by decide +kernel
theorem dX11_send_23 : decode cX11_send 23 = .ok (.if_icmp .ne 5, 3) := by decide +kernel
theorem dX11_send_26 : decode cX11_send 26 = .ok (.iconst 0, 1) := by decide +kernel
theorem dX11_send_27 : decode cX11_send 27 = .ok (.ireturn, 1) := by decide +kernel
theorem dX11_send_28 : decode cX11_send 28 = .ok (.aload_n 0, 1) := by decide +kernel
theorem dX11_send_29 : decode cX11_send 29 = .ok (.invokevirtual 481, 3) := by decide +kernel
theorem dX11_send_32 : decode cX11_send 32 = .ok (.iload_n 1, 1) := by decide +kernel
theorem dX11_send_33 : decode cX11_send 33 = .ok (.invokestatic 372, 3) := by decide +kernel
theorem dX11_send_36 : decode cX11_send 36 = .ok (.istore_n 2, 1) := by decide +kernel
theorem dX11_send_37 : decode cX11_send 37 = .ok (.aload_n 0, 1) := by decide +kernel
theorem dX11_send_38 : decode cX11_send 38 = .ok (.invokevirtual 243, 3) := by decide +kernel
theorem dX11_send_41 : decode cX11_send 41 = .ok (.aload_n 0, 1) := by decide +kernel
theorem dX11_send_42 : decode cX11_send 42 = .ok (.getfield 69, 3) := by decide +kernel
theorem dX11_send_45 : decode cX11_send 45 = .ok (.aload_n 0, 1) := by decide +kernel
theorem dX11_send_46 : decode cX11_send 46 = .ok (.getfield 72, 3) := by decide +kernel
theorem dX11_send_49 : decode cX11_send 49 = .ok (.invokestatic 249, 3) := by decide +kernel
theorem dX11_send_52 : decode cX11_send 52 = .ok (.aload_n 0, 1) := by decide +kernel
theorem dX11_send_53 : decode cX11_send 53 = .ok (.getfield 69, 3) := by decide +kernel
theorem dX11_send_56 : decode cX11_send 56 = .ok (.iload_n 2, 1) := by decide +kernel
theorem dX11_send_57 : decode cX11_send 57 = .ok (.iaload, 1) := by decide +kernel
theorem dX11_send_58 : decode cX11_send 58 = .ok (.iconst 1, 1) := by decide +kernel
theorem dX11_send_59 : decode cX11_send 59 = .ok (.if_icmp .ne 45, 3) := by decide +kernel
theorem dX11_send_62 : decode cX11_send 62 = .ok (.aload_n 0, 1) := by decide +kernel
theorem dX11_send_63 : decode cX11_send 63 = .ok (.getfield 69, 3) := by decide +kernel
theorem dX11_send_66 : decode cX11_send 66 = .ok (.iload_n 2, 1) := by decide +kernel
theorem dX11_send_67 : decode cX11_send 67 = .ok (.bipush 7, 2) := by decide +kernel
theorem dX11_send_69 : decode cX11_send 69 = .ok (.iadd, 1) := by decide +kernel
theorem dX11_send_70 : decode cX11_send 70 = .ok (.dup2, 1) := by decide +kernel
theorem dX11_send_71 : decode cX11_send 71 = .ok (.iaload, 1) := by decide +kernel
theorem dX11_send_72 : decode cX11_send 72 = .ok (.aload_n 0, 1) := by decide +kernel
theorem dX11_send_73 : decode cX11_send 73 = .ok (.iload_n 1, 1) := by decide +kernel
theorem dX11_send_74 : decode cX11_send 74 = .ok (.invokevirtual 412, 3) := by decide +kernel
theorem dX11_send_77 : decode cX11_send 77 = .ok (.iadd, 1) := by decide +kernel
theorem dX11_send_78 : decode cX11_send 78 = .ok (.iastore, 1) := by decide +kernel
theorem dX11_send_79 : decode cX11_send 79 = .ok (.iconst 0, 1) := by decide +kernel
theorem dX11_send_80 : decode cX11_send 80 = .ok (.istore_n 3, 1) := by decide +kernel
theorem dX11_send_81 : decode cX11_send 81 = .ok (.aload_n 0, 1) := by decide +kernel
theorem dX11_send_82 : decode cX11_send 82 = .ok (.getfield 69, 3) := by decide +kernel
theorem dX11_send_85 : decode cX11_send 85 = .ok (.iconst 2, 1) := by decide +kernel
theorem dX11_send_86 : decode cX11_send 86 = .ok (.iload_n 3, 1) := by decide +kernel
theorem dX11_send_87 : decode cX11_send 87 = .ok (.iadd, 1) := by decide +kernel
theorem dX11_send_88 : decode cX11_send 88 = .ok (.iaload, 1) := by decide +kernel
theorem dX11_send_89 : decode cX11_send 89 = .ok (.iload_n 1, 1) := by decide +kernel
theorem dX11_send_90 : decode cX11_send 90 = .ok (.if_icmp .eq 9, 3) := by decide +kernel
theorem dX11_send_93 : decode cX11_send 93 = .ok (.iinc 3 1, 3) := by decide +kernel
theorem dX11_send_96 : decode cX11_send 96 = .ok (.goto (-15), 3) := by decide +kernel
theorem dX11_send_99 : decode cX11_send 99 = .ok (.aload_n 0, 1) := by decide +kernel
theorem dX11_send_100 : decode cX11_send 100 = .ok (.iload_n 3, 1) := by decide +kernel
theorem dX11_send_101 : decode cX11_send 101 = .ok (.invokevirtual 431, 3) := by decide +kernel
theorem dX11_send_104 : decode cX11_send 104 = .ok (.aload_n 0, 1) := by decide +kernel
theorem dX11_send_105 : decode cX11_send 105 = .ok (.getfield 69, 3) := by decide +kernel
theorem dX11_send_108 : decode cX11_send 108 = .ok (.iload_n 2, 1) := by decide +kernel
theorem dX11_send_109 : decode cX11_send 109 = .ok (.iconst 3, 1) := by decide +kernel
theorem dX11_send_110 : decode cX11_send 110 = .ok (.iastore, 1) := by decide +kernel
theorem dX11_send_111 : decode cX11_send 111 = .ok (.aload_n 0, 1) := by decide +kernel
theorem dX11_send_112 : decode cX11_send 112 = .ok (.getfield 69, 3) := by decide +kernel
theorem dX11_send_115 : decode cX11_send 115 = .ok (.iload_n 2, 1) := by decide +kernel
theorem dX11_send_116 : decode cX11_send 116 = .ok (.iconst 1, 1) := by decide +kernel
theorem dX11_send_117 : decode cX11_send 117 = .ok (.iadd, 1) := by decide +kernel
theorem dX11_send_118 : decode cX11_send 118 = .ok (.iconst (-1), 1) := by decide +kernel
theorem dX11_send_119 : decode cX11_send 119 = .ok (.iastore, 1) := by decide +kernel
theorem dX11_send_120 : decode cX11_send 120 = .ok (.aload_n 0, 1) := by decide +kernel
theorem dX11_send_121 : decode cX11_send 121 = .ok (.getfield 69, 3) := by decide +kernel
theorem dX11_send_124 : decode cX11_send 124 = .ok (.iload_n 2, 1) := by decide +kernel
theorem dX11_send_125 : decode cX11_send 125 = .ok (.iconst 2, 1) := by decide +kernel
theorem dX11_send_126 : decode cX11_send 126 = .ok (.iadd, 1) := by decide +kernel
theorem dX11_send_127 : decode cX11_send 127 = .ok (.aload_n 0, 1) := by decide +kernel
theorem dX11_send_128 : decode cX11_send 128 = .ok (.getfield 32, 3) := by decide +kernel
theorem dX11_send_131 : decode cX11_send 131 = .ok (.iload_n 1, 1) := by decide +kernel
theorem dX11_send_132 : decode cX11_send 132 = .ok (.iaload, 1) := by decide +kernel
theorem dX11_send_133 : decode cX11_send 133 = .ok (.iastore, 1) := by decide +kernel
theorem dX11_send_134 : decode cX11_send 134 = .ok (.aload_n 0, 1) := by decide +kernel
theorem dX11_send_135 : decode cX11_send 135 = .ok (.getfield 69, 3) := by decide +kernel
theorem dX11_send_138 : decode cX11_send 138 = .ok (.iload_n 2, 1) := by decide +kernel
theorem dX11_send_139 : decode cX11_send 139 = .ok (.iconst 3, 1) := by decide +kernel
theorem dX11_send_140 : decode cX11_send 140 = .ok (.iadd, 1) := by decide +kernel
theorem dX11_send_141 : decode cX11_send 141 = .ok (.iconst 0, 1) := by decide +kernel
theorem dX11_send_142 : decode cX11_send 142 = .ok (.iastore, 1) := by decide +kernel
theorem dX11_send_143 : decode cX11_send 143 = .ok (.aload_n 0, 1) := by decide +kernel
theorem dX11_send_144 : decode cX11_send 144 = .ok (.getfield 72, 3) := by decide +kernel
theorem dX11_send_147 : decode cX11_send 147 = .ok (.aload_n 0, 1) := by decide +kernel
theorem dX11_send_148 : decode cX11_send 148 = .ok (.getfield 69, 3) := by decide +kernel
theorem dX11_send_151 : decode cX11_send 151 = .ok (.invokestatic 249, 3) := by decide +kernel
theorem dX11_send_154 : decode cX11_send 154 = .ok (.iconst 1, 1) := by decide +kernel
theorem dX11_send_155 : decode cX11_send 155 = .ok (.ireturn, 1) := by decide +kernel
set_option maxRecDepth 10000 in
theorem vX11_send_0 {κ : eg_K} {d : Nat} (hd : 2 ≤ d) {post : Int32 → eg_H → Prop} (M : eg_H) (l1 : Int32) (h : (∀ M1 : eg_H, M1 = (sI M (60, 0) 2 (0 : Int32)) → (∀ x3 : Int32, x3 = (fX11_isGuest M1 l1) → (x3 = 0 → post (0 : Int32) M1) ∧ ((¬ x3 = 0) → (∀ x6 : Int32, x6 = (fX11_at M1 l1) → (vp_in x6 366 ∧ ((¬ (M1.1 (111, 0) x6.toNatClampNeg) = (3 : Int32)) → (gX11_remembers M1 ∧ (∀ M10 : eg_H, M10 = (fX11_remembers M1) → (∀ x13 : Int32, x13 = (fX11_at M10 l1) → (gX11_clears M10 ∧ (∀ M15 : eg_H, M15 = (fX11_clears M10) → (gX11_lays M15 ((110, 0) : eg_R) ((111, 0) : eg_R) ∧ (∀ M18 : eg_H, M18 = (fX11_lays M15 ((110, 0) : eg_R) ((111, 0) : eg_R)) → (vp_in x13 366 ∧ ((¬ (M18.1 (110, 0) x13.toNatClampNeg) = (1 : Int32)) → (∀ M22 : eg_H, M22 = (sI M18 (110, 0) x13.toNatClampNeg (3 : Int32)) → (vp_in (x13 + (1 : Int32)) 366 ∧ (∀ M24 : eg_H, M24 = (sI M22 (110, 0) (x13 + (1 : Int32)).toNatClampNeg (-1 : Int32)) → (vp_in l1 24 ∧ (vp_in (x13 + (2 : Int32)) 366 ∧ (∀ M27 : eg_H, M27 = (sI M24 (110, 0) (x13 + (2 : Int32)).toNatClampNeg (M24.1 (92, 0) l1.toNatClampNeg)) → (vp_in (x13 + (3 : Int32)) 366 ∧ (∀ M29 : eg_H, M29 = (sI M27 (110, 0) (x13 + (3 : Int32)).toNatClampNeg (0 : Int32)) → (gX11_lays M29 ((111, 0) : eg_R) ((110, 0) : eg_R) ∧ (∀ M31 : eg_H, M31 = (fX11_lays M29 ((111, 0) : eg_R) ((110, 0) : eg_R)) → post (1 : Int32) M31))))))))))) ∧ ((M18.1 (110, 0) x13.toNatClampNeg) = (1 : Int32) → (vp_in (x13 + (7 : Int32)) 366 ∧ (gX11_plateOf M18 l1 ∧ (∀ x36 : Int32, x36 = (fX11_plateOf M18 l1) → (∀ M37 : eg_H, M37 = (sI M18 (110, 0) (x13 + (7 : Int32)).toNatClampNeg ((M18.1 (110, 0) (x13 + (7 : Int32)).toNatClampNeg) + x36)) → eg_W κ gM mtX11_send d (eQI κ gM post) 81 [(0, vR (60, 0)), (1, vI l1), (2, vI x13), (3, vI (0 : Int32))] [] M37)))))))))))))) ∧ ((M1.1 (111, 0) x6.toNatClampNeg) = (3 : Int32) → post (0 : Int32) M1))))))) : eg_W κ gM mtX11_send d (eQI κ gM post) 0 [(0, vR (60, 0)), (1, vI l1)] [] M := by
  refine eg_aload_n 0 dX11_send_0 rfl rfl ?_
  refine eg_iconst dX11_send_1 ic_0 ?_
  refine en_putI dX11_send_2 fl_11_127 rfl rfl (obM_60 z1) (fun M1 eM1 => ?_)
  have h := h M1 eM1
  refine eg_aload_n 0 dX11_send_5 rfl rfl ?_
  refine eg_iload_n 1 dX11_send_6 rfl rfl ?_
  refine eg_callVI (av := [vI l1]) (st := []) dX11_send_7 ml_11_472 rfl rfl (obM_60 z1) (by decide) rfl (Nat.le_of_ble_eq_true rfl) (eg_dd (by omega)) (sX11_isGuest (by omega) M1 l1  ) (fun x3 M2 hp => ?_)
  obtain ⟨ex3, eM2⟩ := hp
  rw [eM2]
  have h := h x3 ex3
  refine eg_if_eq (tgt := 26) dX11_send_10 rfl (fun c4 => ?_) (fun c4 => ?_)
  · have h := h.1 c4
    refine eg_iconst dX11_send_26 ic_0 ?_
    exact eg_zreturn dX11_send_27 rfl (Or.inl rfl) h
  · have h := h.2 c4
    refine eg_aload_n 0 dX11_send_13 rfl rfl ?_
    refine eg_getR dX11_send_14 fl_11_72 rfl rfl (obM_60 z1) ?_
    show eg_W κ gM mtX11_send d (eQI κ gM post) 17 [(0, vR (60, 0)), (1, vI l1)] [vR (111, 0)] M1
    refine eg_iload_n 1 dX11_send_17 rfl rfl ?_
    refine eg_callSI (av := [vI l1]) (st := [vR (111, 0)]) dX11_send_18 ml_11_372 rfl rfl (Nat.le_of_ble_eq_true rfl) (eg_dd (by omega)) (sX11_at (by omega) M1 l1  ) (fun x6 M5 hp => ?_)
    obtain ⟨ex6, eM5⟩ := hp
    rw [eM5]
    have h := h x6 ex6
    obtain ⟨g7, h⟩ := h
    refine eg_iaload dX11_send_21 (arM_111 z1 g7) ?_
    refine eg_iconst dX11_send_22 ic_3 ?_
    refine eg_icmp_ne (tgt := 28) dX11_send_23 rfl (fun c8 => ?_) (fun c8 => ?_)
    · have h := h.1 c8
      refine eg_aload_n 0 dX11_send_28 rfl rfl ?_
      obtain ⟨g9, h⟩ := h
      refine eg_callVV (av := []) (st := []) dX11_send_29 ml_11_481 rfl rfl (obM_60 z1) (by decide) rfl (Nat.le_of_ble_eq_true rfl) (eg_dd (by omega)) (sX11_remembers (by omega) M1   g9) (fun M10 eM10 => ?_)
      have h := h M10 eM10
      refine eg_iload_n 1 dX11_send_32 rfl rfl ?_
      refine eg_callSI (av := [vI l1]) (st := []) dX11_send_33 ml_11_372 rfl rfl (Nat.le_of_ble_eq_true rfl) (eg_dd (by omega)) (sX11_at (by omega) M10 l1  ) (fun x13 M12 hp => ?_)
      obtain ⟨ex13, eM12⟩ := hp
      rw [eM12]
      have h := h x13 ex13
      refine eg_istore_n dX11_send_36 rfl (by decide) (ls1 := [(2, vI x13), (0, vR (60, 0)), (1, vI l1)]) rfl ?_
      refine eg_aload_n 1 dX11_send_37 rfl rfl ?_
      obtain ⟨g14, h⟩ := h
      refine eg_callVV (av := []) (st := []) dX11_send_38 ml_11_243 rfl rfl (obM_60 z1) (by decide) rfl (Nat.le_of_ble_eq_true rfl) (eg_dd (by omega)) (sX11_clears (by omega) M10   g14) (fun M15 eM15 => ?_)
      have h := h M15 eM15
      refine eg_aload_n 1 dX11_send_41 rfl rfl ?_
      refine eg_getR dX11_send_42 fl_11_69 rfl rfl (obM_60 z1) ?_
      show eg_W κ gM mtX11_send d (eQI κ gM post) 45 [(2, vI x13), (0, vR (60, 0)), (1, vI l1)] [vR (110, 0)] M15
      refine eg_aload_n 1 dX11_send_45 rfl rfl ?_
      refine eg_getR dX11_send_46 fl_11_72 rfl rfl (obM_60 z1) ?_
      show eg_W κ gM mtX11_send d (eQI κ gM post) 49 [(2, vI x13), (0, vR (60, 0)), (1, vI l1)] [vR (111, 0), vR (110, 0)] M15
      obtain ⟨g17, h⟩ := h
      refine eg_callSV (av := [vR (110, 0), vR (111, 0)]) (st := []) dX11_send_49 ml_11_249 rfl rfl (Nat.le_of_ble_eq_true rfl) (eg_dd (by omega)) (sX11_lays (by omega) M15 ((110, 0) : eg_R) ((111, 0) : eg_R) (anM_110 z1) (anM_111 z1) g17) (fun M18 eM18 => ?_)
      have h := h M18 eM18
      refine eg_aload_n 1 dX11_send_52 rfl rfl ?_
      refine eg_getR dX11_send_53 fl_11_69 rfl rfl (obM_60 z1) ?_
      show eg_W κ gM mtX11_send d (eQI κ gM post) 56 [(2, vI x13), (0, vR (60, 0)), (1, vI l1)] [vR (110, 0)] M18
      refine eg_iload_n 0 dX11_send_56 rfl rfl ?_
      obtain ⟨g20, h⟩ := h
      refine eg_iaload dX11_send_57 (arM_110 z1 g20) ?_
      refine eg_iconst dX11_send_58 ic_1 ?_
      refine eg_icmp_ne (tgt := 104) dX11_send_59 rfl (fun c21 => ?_) (fun c21 => ?_)
      · have h := h.1 c21
        refine eg_aload_n 1 dX11_send_104 rfl rfl ?_
        refine eg_getR dX11_send_105 fl_11_69 rfl rfl (obM_60 z1) ?_
        show eg_W κ gM mtX11_send d (eQI κ gM post) 108 [(2, vI x13), (0, vR (60, 0)), (1, vI l1)] [vR (110, 0)] M18
        refine eg_iload_n 0 dX11_send_108 rfl rfl ?_
        refine eg_iconst dX11_send_109 ic_3 ?_
        refine en_iastore dX11_send_110 (arM_110 z1 g20) (fun M22 eM22 => ?_)
        have h := h M22 eM22
        refine eg_aload_n 1 dX11_send_111 rfl rfl ?_
        refine eg_getR dX11_send_112 fl_11_69 rfl rfl (obM_60 z1) ?_
        show eg_W κ gM mtX11_send d (eQI κ gM post) 115 [(2, vI x13), (0, vR (60, 0)), (1, vI l1)] [vR (110, 0)] M22
        refine eg_iload_n 0 dX11_send_115 rfl rfl ?_
        refine eg_iconst dX11_send_116 ic_1 ?_
        refine eg_iadd dX11_send_117 ?_
        refine eg_iconst dX11_send_118 ic_m1 ?_
        obtain ⟨g23, h⟩ := h
        refine en_iastore dX11_send_119 (arM_110 z1 g23) (fun M24 eM24 => ?_)
        have h := h M24 eM24
        refine eg_aload_n 1 dX11_send_120 rfl rfl ?_
        refine eg_getR dX11_send_121 fl_11_69 rfl rfl (obM_60 z1) ?_
        show eg_W κ gM mtX11_send d (eQI κ gM post) 124 [(2, vI x13), (0, vR (60, 0)), (1, vI l1)] [vR (110, 0)] M24
        refine eg_iload_n 0 dX11_send_124 rfl rfl ?_
        refine eg_iconst dX11_send_125 ic_2 ?_
        refine eg_iadd dX11_send_126 ?_
        refine eg_aload_n 1 dX11_send_127 rfl rfl ?_
        refine eg_getR dX11_send_128 fl_11_32 rfl rfl (obM_60 z1) ?_
        show eg_W κ gM mtX11_send d (eQI κ gM post) 131 [(2, vI x13), (0, vR (60, 0)), (1, vI l1)] [vR (92, 0), vI (x13 + (2 : Int32)), vR (110, 0)] M24
        refine eg_iload_n 2 dX11_send_131 rfl rfl ?_
        obtain ⟨g25, h⟩ := h
        refine eg_iaload dX11_send_132 (arM_92 z1 g25) ?_
        obtain ⟨g26, h⟩ := h
        refine en_iastore dX11_send_133 (arM_110 z1 g26) (fun M27 eM27 => ?_)
        have h := h M27 eM27
        refine eg_aload_n 1 dX11_send_134 rfl rfl ?_
        refine eg_getR dX11_send_135 fl_11_69 rfl rfl (obM_60 z1) ?_
        show eg_W κ gM mtX11_send d (eQI κ gM post) 138 [(2, vI x13), (0, vR (60, 0)), (1, vI l1)] [vR (110, 0)] M27
        refine eg_iload_n 0 dX11_send_138 rfl rfl ?_
        refine eg_iconst dX11_send_139 ic_3 ?_
        refine eg_iadd dX11_send_140 ?_
        refine eg_iconst dX11_send_141 ic_0 ?_
        obtain ⟨g28, h⟩ := h
        refine en_iastore dX11_send_142 (arM_110 z1 g28) (fun M29 eM29 => ?_)
        have h := h M29 eM29
        refine eg_aload_n 1 dX11_send_143 rfl rfl ?_
        refine eg_getR dX11_send_144 fl_11_72 rfl rfl (obM_60 z1) ?_
        show eg_W κ gM mtX11_send d (eQI κ gM post) 147 [(2, vI x13), (0, vR (60, 0)), (1, vI l1)] [vR (111, 0)] M29
        refine eg_aload_n 1 dX11_send_147 rfl rfl ?_
        refine eg_getR dX11_send_148 fl_11_69 rfl rfl (obM_60 z1) ?_
        show eg_W κ gM mtX11_send d (eQI κ gM post) 151 [(2, vI x13), (0, vR (60, 0)), (1, vI l1)] [vR (110, 0), vR (111, 0)] M29
        obtain ⟨g30, h⟩ := h
        refine eg_callSV (av := [vR (111, 0), vR (110, 0)]) (st := []) dX11_send_151 ml_11_249 rfl rfl (Nat.le_of_ble_eq_true rfl) (eg_dd (by omega)) (sX11_lays (by omega) M29 ((111, 0) : eg_R) ((110, 0) : eg_R) (anM_111 z1) (anM_110 z1) g30) (fun M31 eM31 => ?_)
        have h := h M31 eM31
        refine eg_iconst dX11_send_154 ic_1 ?_
        exact eg_zreturn dX11_send_155 rfl (Or.inr rfl) h
      · have h := h.2 c21
        refine eg_aload_n 1 dX11_send_62 rfl rfl ?_
        refine eg_getR dX11_send_63 fl_11_69 rfl rfl (obM_60 z1) ?_
        show eg_W κ gM mtX11_send d (eQI κ gM post) 66 [(2, vI x13), (0, vR (60, 0)), (1, vI l1)] [vR (110, 0)] M18
        refine eg_iload_n 0 dX11_send_66 rfl rfl ?_
        refine eg_bipush dX11_send_67 bp_7 ?_
        refine eg_iadd dX11_send_69 ?_
        refine eg_dup2 dX11_send_70 rfl rfl ?_
        obtain ⟨g33, h⟩ := h
        refine eg_iaload dX11_send_71 (arM_110 z1 g33) ?_
        refine eg_aload_n 1 dX11_send_72 rfl rfl ?_
        refine eg_iload_n 2 dX11_send_73 rfl rfl ?_
        obtain ⟨g34, h⟩ := h
        refine eg_callVI (av := [vI l1]) (st := [vI (M18.1 (110, 0) (x13 + (7 : Int32)).toNatClampNeg), vI (x13 + (7 : Int32)), vR (110, 0)]) dX11_send_74 ml_11_412 rfl rfl (obM_60 z1) (by decide) rfl (Nat.le_of_ble_eq_true rfl) (eg_dd (by omega)) (sX11_plateOf (by omega) M18 l1  g34) (fun x36 M35 hp => ?_)
        obtain ⟨ex36, eM35⟩ := hp
        rw [eM35]
        have h := h x36 ex36
        refine eg_iadd dX11_send_77 ?_
        refine en_iastore dX11_send_78 (arM_110 z1 g33) (fun M37 eM37 => ?_)
        have h := h M37 eM37
        refine eg_iconst dX11_send_79 ic_0 ?_
        refine eg_istore_n dX11_send_80 rfl (by decide) (ls1 := [(3, vI (0 : Int32)), (2, vI x13), (0, vR (60, 0)), (1, vI l1)]) rfl ?_
        refine eg_sub [2, 3, 1, 0] rfl ?_
        exact h
    · have h := h.2 c8
      refine eg_iconst dX11_send_26 ic_0 ?_
      exact eg_zreturn dX11_send_27 rfl (Or.inl rfl) h
set_option maxRecDepth 10000 in
theorem vX11_send_81 {κ : eg_K} {d : Nat} (hd : 1 ≤ d) {post : Int32 → eg_H → Prop} (M : eg_H) (l1 : Int32) (l2 : Int32) (l3 : Int32) (h : (vp_in ((2 : Int32) + l3) 366 ∧ ((M.1 (110, 0) ((2 : Int32) + l3).toNatClampNeg) = l1 → (gX11_outOfLine M l3 ∧ (∀ M4 : eg_H, M4 = (fX11_outOfLine M l3) → (vp_in l2 366 ∧ (∀ M7 : eg_H, M7 = (sI M4 (110, 0) l2.toNatClampNeg (3 : Int32)) → (vp_in (l2 + (1 : Int32)) 366 ∧ (∀ M9 : eg_H, M9 = (sI M7 (110, 0) (l2 + (1 : Int32)).toNatClampNeg (-1 : Int32)) → (vp_in l1 24 ∧ (vp_in (l2 + (2 : Int32)) 366 ∧ (∀ M12 : eg_H, M12 = (sI M9 (110, 0) (l2 + (2 : Int32)).toNatClampNeg (M9.1 (92, 0) l1.toNatClampNeg)) → (vp_in (l2 + (3 : Int32)) 366 ∧ (∀ M14 : eg_H, M14 = (sI M12 (110, 0) (l2 + (3 : Int32)).toNatClampNeg (0 : Int32)) → (gX11_lays M14 ((111, 0) : eg_R) ((110, 0) : eg_R) ∧ (∀ M16 : eg_H, M16 = (fX11_lays M14 ((111, 0) : eg_R) ((110, 0) : eg_R)) → post (1 : Int32) M16)))))))))))))) ∧ ((¬ (M.1 (110, 0) ((2 : Int32) + l3).toNatClampNeg) = l1) → (∀ x18 : Int32, x18 = (l3 + (1 : Int32)) → eg_W κ gM mtX11_send d (eQI κ gM post) 81 [(0, vR (60, 0)), (1, vI l1), (2, vI l2), (3, vI x18)] [] M)))) : eg_W κ gM mtX11_send d (eQI κ gM post) 81 [(0, vR (60, 0)), (1, vI l1), (2, vI l2), (3, vI l3)] [] M := by
  refine eg_aload_n 0 dX11_send_81 rfl rfl ?_
  refine eg_getR dX11_send_82 fl_11_69 rfl rfl (obM_60 z1) ?_
  show eg_W κ gM mtX11_send d (eQI κ gM post) 85 [(0, vR (60, 0)), (1, vI l1), (2, vI l2), (3, vI l3)] [vR (110, 0)] M
  refine eg_iconst dX11_send_85 ic_2 ?_
  refine eg_iload_n 3 dX11_send_86 rfl rfl ?_
  refine eg_iadd dX11_send_87 ?_
  obtain ⟨g1, h⟩ := h
  refine eg_iaload dX11_send_88 (arM_110 z1 g1) ?_
  refine eg_iload_n 1 dX11_send_89 rfl rfl ?_
  refine eg_icmp_eq (tgt := 99) dX11_send_90 rfl (fun c2 => ?_) (fun c2 => ?_)
  · have h := h.1 c2
    refine eg_aload_n 0 dX11_send_99 rfl rfl ?_
    refine eg_iload_n 3 dX11_send_100 rfl rfl ?_
    obtain ⟨g3, h⟩ := h
    refine eg_callVV (av := [vI l3]) (st := []) dX11_send_101 ml_11_431 rfl rfl (obM_60 z1) (by decide) rfl (Nat.le_of_ble_eq_true rfl) (eg_dd (by omega)) (sX11_outOfLine (by omega) M l3  g3) (fun M4 eM4 => ?_)
    have h := h M4 eM4
    refine eg_aload_n 0 dX11_send_104 rfl rfl ?_
    refine eg_getR dX11_send_105 fl_11_69 rfl rfl (obM_60 z1) ?_
    show eg_W κ gM mtX11_send d (eQI κ gM post) 108 [(0, vR (60, 0)), (1, vI l1), (2, vI l2), (3, vI l3)] [vR (110, 0)] M4
    refine eg_iload_n 2 dX11_send_108 rfl rfl ?_
    refine eg_iconst dX11_send_109 ic_3 ?_
    obtain ⟨g6, h⟩ := h
    refine en_iastore dX11_send_110 (arM_110 z1 g6) (fun M7 eM7 => ?_)
    have h := h M7 eM7
    refine eg_aload_n 0 dX11_send_111 rfl rfl ?_
    refine eg_getR dX11_send_112 fl_11_69 rfl rfl (obM_60 z1) ?_
    show eg_W κ gM mtX11_send d (eQI κ gM post) 115 [(0, vR (60, 0)), (1, vI l1), (2, vI l2), (3, vI l3)] [vR (110, 0)] M7
    refine eg_iload_n 2 dX11_send_115 rfl rfl ?_
    refine eg_iconst dX11_send_116 ic_1 ?_
    refine eg_iadd dX11_send_117 ?_
    refine eg_iconst dX11_send_118 ic_m1 ?_
    obtain ⟨g8, h⟩ := h
    refine en_iastore dX11_send_119 (arM_110 z1 g8) (fun M9 eM9 => ?_)
    have h := h M9 eM9
    refine eg_aload_n 0 dX11_send_120 rfl rfl ?_
    refine eg_getR dX11_send_121 fl_11_69 rfl rfl (obM_60 z1) ?_
    show eg_W κ gM mtX11_send d (eQI κ gM post) 124 [(0, vR (60, 0)), (1, vI l1), (2, vI l2), (3, vI l3)] [vR (110, 0)] M9
    refine eg_iload_n 2 dX11_send_124 rfl rfl ?_
    refine eg_iconst dX11_send_125 ic_2 ?_
    refine eg_iadd dX11_send_126 ?_
    refine eg_aload_n 0 dX11_send_127 rfl rfl ?_
    refine eg_getR dX11_send_128 fl_11_32 rfl rfl (obM_60 z1) ?_
    show eg_W κ gM mtX11_send d (eQI κ gM post) 131 [(0, vR (60, 0)), (1, vI l1), (2, vI l2), (3, vI l3)] [vR (92, 0), vI (l2 + (2 : Int32)), vR (110, 0)] M9
    refine eg_iload_n 1 dX11_send_131 rfl rfl ?_
    obtain ⟨g10, h⟩ := h
    refine eg_iaload dX11_send_132 (arM_92 z1 g10) ?_
    obtain ⟨g11, h⟩ := h
    refine en_iastore dX11_send_133 (arM_110 z1 g11) (fun M12 eM12 => ?_)
    have h := h M12 eM12
    refine eg_aload_n 0 dX11_send_134 rfl rfl ?_
    refine eg_getR dX11_send_135 fl_11_69 rfl rfl (obM_60 z1) ?_
    show eg_W κ gM mtX11_send d (eQI κ gM post) 138 [(0, vR (60, 0)), (1, vI l1), (2, vI l2), (3, vI l3)] [vR (110, 0)] M12
    refine eg_iload_n 2 dX11_send_138 rfl rfl ?_
    refine eg_iconst dX11_send_139 ic_3 ?_
    refine eg_iadd dX11_send_140 ?_
    refine eg_iconst dX11_send_141 ic_0 ?_
    obtain ⟨g13, h⟩ := h
    refine en_iastore dX11_send_142 (arM_110 z1 g13) (fun M14 eM14 => ?_)
    have h := h M14 eM14
    refine eg_aload_n 0 dX11_send_143 rfl rfl ?_
    refine eg_getR dX11_send_144 fl_11_72 rfl rfl (obM_60 z1) ?_
    show eg_W κ gM mtX11_send d (eQI κ gM post) 147 [(0, vR (60, 0)), (1, vI l1), (2, vI l2), (3, vI l3)] [vR (111, 0)] M14
    refine eg_aload_n 0 dX11_send_147 rfl rfl ?_
    refine eg_getR dX11_send_148 fl_11_69 rfl rfl (obM_60 z1) ?_
    show eg_W κ gM mtX11_send d (eQI κ gM post) 151 [(0, vR (60, 0)), (1, vI l1), (2, vI l2), (3, vI l3)] [vR (110, 0), vR (111, 0)] M14
    obtain ⟨g15, h⟩ := h
    refine eg_callSV (av := [vR (111, 0), vR (110, 0)]) (st := []) dX11_send_151 ml_11_249 rfl rfl (Nat.le_of_ble_eq_true rfl) (eg_dd (by omega)) (sX11_lays (by omega) M14 ((111, 0) : eg_R) ((110, 0) : eg_R) (anM_111 z1) (anM_110 z1) g15) (fun M16 eM16 => ?_)
    have h := h M16 eM16
    refine eg_iconst dX11_send_154 ic_1 ?_
    exact eg_zreturn dX11_send_155 rfl (Or.inr rfl) h
  · have h := h.2 c2
    refine en_iinc (f := fun x18 => [(3, vI x18), (0, vR (60, 0)), (1, vI l1), (2, vI l2)]) 3 dX11_send_93 rfl rfl (by decide) rfl (fun x18 ex18 => ?_)
    have h := h x18 ex18
    refine eg_goto (tgt := 81) dX11_send_96 rfl ?_
    refine eg_sub [1, 2, 3, 0] rfl ?_
    exact h
theorem dX11_undo_0 : decode cX11_undo 0 = .ok (.aload_n 0, 1) := by decide +kernel
theorem dX11_undo_1 : decode cX11_undo 1 = .ok (.iconst 0, 1) := by decide +kernel
theorem dX11_undo_2 : decode cX11_undo 2 = .ok (.putfield 127, 3) := by decide +kernel
theorem dX11_undo_5 : decode cX11_undo 5 = .ok (.aload_n 0, 1) := by decide +kernel
theorem dX11_undo_6 : decode cX11_undo 6 = .ok (.getfield 237, 3) := by decide +kernel
theorem dX11_undo_9 : decode cX11_undo 9 = .ok (.ifCond .ne 5, 3) := by decide +kernel
theorem dX11_undo_12 : decode cX11_undo 12 = .ok (.iconst (-1), 1) := by decide +kernel
theorem dX11_undo_13 : decode cX11_undo 13 = .ok (.ireturn, 1) := by decide +kernel
theorem dX11_undo_14 : decode cX11_undo 14 = .ok (.aload_n 0, 1) := by decide +kernel
theorem dX11_undo_15 : decode cX11_undo 15 = .ok (.dup, 1) := by decide +kernel
theorem dX11_undo_16 : decode cX11_undo 16 = .ok (.getfield 237, 3) := by decide +kernel
theorem dX11_undo_19 : decode cX11_undo 19 = .ok (.iconst 1, 1) := by decide +kernel
theorem dX11_undo_20 : decode cX11_undo 20 = .ok (.isub, 1) := by decide +kernel
theorem dX11_undo_21 : decode cX11_undo 21 = .ok (.putfield 237, 3) := by decide +kernel
theorem dX11_undo_24 : decode cX11_undo 24 = .ok (.iconst 0, 1) := by decide +kernel
theorem dX11_undo_25 : decode cX11_undo 25 = .ok (.istore_n 1, 1) := by decide +kernel
theorem dX11_undo_26 : decode cX11_undo 26 = .ok (.iload_n 1, 1) := by decide +kernel
theorem dX11_undo_27 : decode cX11_undo 27 = .ok (.sipush 366, 3) := by decide +kernel
theorem dX11_undo_30 : decode cX11_undo 30 = .ok (.if_icmp .ge 30, 3) := by decide +kernel
theorem dX11_undo_33 : decode cX11_undo 33 = .ok (.aload_n 0, 1) := by decide +kernel
theorem dX11_undo_34 : decode cX11_undo 34 = .ok (.getfield 72, 3) := by decide +kernel
theorem dX11_undo_37 : decode cX11_undo 37 = .ok (.iload_n 1, 1) := by decide +kernel
theorem dX11_undo_38 : decode cX11_undo 38 = .ok (.aload_n 0, 1) := by decide +kernel
theorem dX11_undo_39 : decode cX11_undo 39 = .ok (.getfield 91, 3) := by decide +kernel
theorem dX11_undo_42 : decode cX11_undo 42 = .ok (.sipush 366, 3) := by decide +kernel
theorem dX11_undo_45 : decode cX11_undo 45 = .ok (.aload_n 0, 1) := by decide +kernel
theorem dX11_undo_46 : decode cX11_undo 46 = .ok (.getfield 237, 3) := by decide +kernel
theorem dX11_undo_49 : decode cX11_undo 49 = .ok (.imul, 1) := by decide +kernel
theorem dX11_undo_50 : decode cX11_undo 50 = .ok (.iload_n 1, 1) := by decide +kernel
theorem dX11_undo_51 : decode cX11_undo 51 = .ok (.iadd, 1) := by decide +kernel
theorem dX11_undo_52 : decode cX11_undo 52 = .ok (.iaload, 1) := by decide +kernel
theorem dX11_undo_53 : decode cX11_undo 53 = .ok (.iastore, 1) := by decide +kernel
theorem dX11_undo_54 : decode cX11_undo 54 = .ok (.iinc 1 1, 3) := by decide +kernel
theorem dX11_undo_57 : decode cX11_undo 57 = .ok (.goto (-31), 3) := by decide +kernel
theorem dX11_undo_60 : decode cX11_undo 60 = .ok (.aload_n 0, 1) := by decide +kernel
theorem dX11_undo_61 : decode cX11_undo 61 = .ok (.invokevirtual 484, 3) := by decide +kernel
theorem dX11_undo_64 : decode cX11_undo 64 = .ok (.aload_n 0, 1) := by decide +kernel
theorem dX11_undo_65 : decode cX11_undo 65 = .ok (.getfield 237, 3) := by decide +kernel
theorem dX11_undo_68 : decode cX11_undo 68 = .ok (.ireturn, 1) := by decide +kernel
set_option maxRecDepth 10000 in
theorem vX11_undo_0 {κ : eg_K} {d : Nat} {post : Int32 → eg_H → Prop} (M : eg_H)  (h : (∀ M1 : eg_H, M1 = (sI M (60, 0) 2 (0 : Int32)) → ((¬ (M1.1 (60, 0) 69) = 0) → (∀ M3 : eg_H, M3 = (sI M1 (60, 0) 69 ((M1.1 (60, 0) 69) - (1 : Int32))) → eg_W κ gM mtX11_undo d (eQI κ gM post) 26 [(0, vR (60, 0)), (1, vI (0 : Int32))] [] M3)) ∧ ((M1.1 (60, 0) 69) = 0 → post (-1 : Int32) M1))) : eg_W κ gM mtX11_undo d (eQI κ gM post) 0 [(0, vR (60, 0))] [] M := by
  refine eg_aload_n 0 dX11_undo_0 rfl rfl ?_
  refine eg_iconst dX11_undo_1 ic_0 ?_
  refine en_putI dX11_undo_2 fl_11_127 rfl rfl (obM_60 z1) (fun M1 eM1 => ?_)
  have h := h M1 eM1
  refine eg_aload_n 0 dX11_undo_5 rfl rfl ?_
  refine eg_getI dX11_undo_6 fl_11_237 rfl trivial (obM_60 z1) ?_
  refine eg_if_ne (tgt := 14) dX11_undo_9 rfl (fun c2 => ?_) (fun c2 => ?_)
  · have h := h.1 c2
    refine eg_aload_n 0 dX11_undo_14 rfl rfl ?_
    refine eg_dup dX11_undo_15 rfl ?_
    refine eg_getI dX11_undo_16 fl_11_237 rfl trivial (obM_60 z1) ?_
    refine eg_iconst dX11_undo_19 ic_1 ?_
    refine eg_isub dX11_undo_20 ?_
    refine en_putI dX11_undo_21 fl_11_237 rfl rfl (obM_60 z1) (fun M3 eM3 => ?_)
    have h := h M3 eM3
    refine eg_iconst dX11_undo_24 ic_0 ?_
    refine eg_istore_n dX11_undo_25 rfl (by decide) (ls1 := [(1, vI (0 : Int32)), (0, vR (60, 0))]) rfl ?_
    refine eg_sub [1, 0] rfl ?_
    exact h
  · have h := h.2 c2
    refine eg_iconst dX11_undo_12 ic_m1 ?_
    exact eg_ireturn dX11_undo_13 rfl h
set_option maxRecDepth 10000 in
theorem vX11_undo_26 {κ : eg_K} {d : Nat} (hd : 1 ≤ d) {post : Int32 → eg_H → Prop} (M : eg_H) (l1 : Int32) (h : ((366 : Int32) ≤ l1 → (∀ M2 : eg_H, M2 = (fX11_layRow M) → post (M2.1 (60, 0) 69) M2)) ∧ ((¬ (366 : Int32) ≤ l1) → (vp_in (((366 : Int32) * (M.1 (60, 0) 69)) + l1) 7320 ∧ (vp_in l1 366 ∧ (∀ M6 : eg_H, M6 = (sI M (111, 0) l1.toNatClampNeg (M.1 (131, 0) (((366 : Int32) * (M.1 (60, 0) 69)) + l1).toNatClampNeg)) → (∀ x7 : Int32, x7 = (l1 + (1 : Int32)) → eg_W κ gM mtX11_undo d (eQI κ gM post) 26 [(0, vR (60, 0)), (1, vI x7)] [] M6)))))) : eg_W κ gM mtX11_undo d (eQI κ gM post) 26 [(0, vR (60, 0)), (1, vI l1)] [] M := by
  refine eg_iload_n 1 dX11_undo_26 rfl rfl ?_
  refine eg_sipush dX11_undo_27 sp_366 ?_
  refine eg_icmp_ge (tgt := 60) dX11_undo_30 rfl (fun c1 => ?_) (fun c1 => ?_)
  · have h := h.1 c1
    refine eg_aload_n 0 dX11_undo_60 rfl rfl ?_
    refine eg_callVV (av := []) (st := []) dX11_undo_61 ml_11_484 rfl rfl (obM_60 z1) (by decide) rfl (Nat.le_of_ble_eq_true rfl) (eg_dd (by omega)) (sX11_layRow (by omega) M   ) (fun M2 eM2 => ?_)
    have h := h M2 eM2
    refine eg_aload_n 0 dX11_undo_64 rfl rfl ?_
    refine eg_getI dX11_undo_65 fl_11_237 rfl trivial (obM_60 z1) ?_
    exact eg_ireturn dX11_undo_68 rfl h
  · have h := h.2 c1
    refine eg_aload_n 0 dX11_undo_33 rfl rfl ?_
    refine eg_getR dX11_undo_34 fl_11_72 rfl rfl (obM_60 z1) ?_
    show eg_W κ gM mtX11_undo d (eQI κ gM post) 37 [(0, vR (60, 0)), (1, vI l1)] [vR (111, 0)] M
    refine eg_iload_n 1 dX11_undo_37 rfl rfl ?_
    refine eg_aload_n 0 dX11_undo_38 rfl rfl ?_
    refine eg_getR dX11_undo_39 fl_11_91 rfl rfl (obM_60 z1) ?_
    show eg_W κ gM mtX11_undo d (eQI κ gM post) 42 [(0, vR (60, 0)), (1, vI l1)] [vR (131, 0), vI l1, vR (111, 0)] M
    refine eg_sipush dX11_undo_42 sp_366 ?_
    refine eg_aload_n 0 dX11_undo_45 rfl rfl ?_
    refine eg_getI dX11_undo_46 fl_11_237 rfl trivial (obM_60 z1) ?_
    refine eg_imul dX11_undo_49 ?_
    refine eg_iload_n 1 dX11_undo_50 rfl rfl ?_
    refine eg_iadd dX11_undo_51 ?_
    obtain ⟨g4, h⟩ := h
    refine eg_iaload dX11_undo_52 (arM_131 z1 g4) ?_
    obtain ⟨g5, h⟩ := h
    refine en_iastore dX11_undo_53 (arM_111 z1 g5) (fun M6 eM6 => ?_)
    have h := h M6 eM6
    refine en_iinc (f := fun x7 => [(1, vI x7), (0, vR (60, 0))]) 1 dX11_undo_54 rfl rfl (by decide) rfl (fun x7 ex7 => ?_)
    have h := h x7 ex7
    refine eg_goto (tgt := 26) dX11_undo_57 rfl ?_
    refine eg_sub [1, 0] rfl ?_
    exact h
theorem dX11_waited_0 : decode cX11_waited 0 = .ok (.aload_n 0, 1) := by decide +kernel
theorem dX11_waited_1 : decode cX11_waited 1 = .ok (.iconst 0, 1) := by decide +kernel
theorem dX11_waited_2 : decode cX11_waited 2 = .ok (.putfield 127, 3) := by decide +kernel
theorem dX11_waited_5 : decode cX11_waited 5 = .ok (.iload_n 1, 1) := by decide +kernel
theorem dX11_waited_6 : decode cX11_waited 6 = .ok (.invokestatic 487, 3) := by decide +kernel
theorem dX11_waited_9 : decode cX11_waited 9 = .ok (.ifCond .ne 5, 3) := by decide +kernel
theorem dX11_waited_12 : decode cX11_waited 12 = .ok (.iconst (-1), 1) := by decide +kernel
theorem dX11_waited_13 : decode cX11_waited 13 = .ok (.ireturn, 1) := by decide +kernel
theorem dX11_waited_14 : decode cX11_waited 14 = .ok (.aload_n 0, 1) := by decide +kernel
theorem dX11_waited_15 : decode cX11_waited 15 = .ok (.invokevirtual 243, 3) := by decide +kernel
theorem dX11_waited_18 : decode cX11_waited 18 = .ok (.aload_n 0, 1) := by decide +kernel
theorem dX11_waited_19 : decode cX11_waited 19 = .ok (.iload_n 1, 1) := by decide +kernel
theorem dX11_waited_20 : decode cX11_waited 20 = .ok (.invokevirtual 490, 3) := by decide +kernel
theorem dX11_waited_23 : decode cX11_waited 23 = .ok (.aload_n 0, 1) := by decide +kernel
theorem dX11_waited_24 : decode cX11_waited 24 = .ok (.iconst (-1), 1) := by decide +kernel
theorem dX11_waited_25 : decode cX11_waited 25 = .ok (.invokevirtual 493, 3) := by decide +kernel
theorem dX11_waited_28 : decode cX11_waited 28 = .ok (.ireturn, 1) := by decide +kernel
set_option maxRecDepth 10000 in
theorem vX11_waited_0 {κ : eg_K} {d : Nat} (hd : 2 ≤ d) {post : Int32 → eg_H → Prop} (M : eg_H) (l1 : Int32) (h : (∀ M1 : eg_H, M1 = (sI M (60, 0) 2 (0 : Int32)) → (∀ x3 : Int32, x3 = (fX11_isTime M1 l1) → ((¬ x3 = 0) → (gX11_clears M1 ∧ (∀ M6 : eg_H, M6 = (fX11_clears M1) → eCV κ gM mtX11_runs d [vR (60, 0), vI l1] M6 (fun M8 => (gX11_waitedOf M8 (-1 : Int32) ∧ (∀ x12 : Int32, x12 = (fX11_waitedOf M8 (-1 : Int32)) → post x12 M8)))))) ∧ (x3 = 0 → post (-1 : Int32) M1)))) : eg_W κ gM mtX11_waited d (eQI κ gM post) 0 [(0, vR (60, 0)), (1, vI l1)] [] M := by
  refine eg_aload_n 0 dX11_waited_0 rfl rfl ?_
  refine eg_iconst dX11_waited_1 ic_0 ?_
  refine en_putI dX11_waited_2 fl_11_127 rfl rfl (obM_60 z1) (fun M1 eM1 => ?_)
  have h := h M1 eM1
  refine eg_iload_n 1 dX11_waited_5 rfl rfl ?_
  refine eg_callSI (av := [vI l1]) (st := []) dX11_waited_6 ml_11_487 rfl rfl (Nat.le_of_ble_eq_true rfl) (eg_dd (by omega)) (sX11_isTime (by omega) M1 l1  ) (fun x3 M2 hp => ?_)
  obtain ⟨ex3, eM2⟩ := hp
  rw [eM2]
  have h := h x3 ex3
  refine eg_if_ne (tgt := 14) dX11_waited_9 rfl (fun c4 => ?_) (fun c4 => ?_)
  · have h := h.1 c4
    refine eg_aload_n 0 dX11_waited_14 rfl rfl ?_
    obtain ⟨g5, h⟩ := h
    refine eg_callVV (av := []) (st := []) dX11_waited_15 ml_11_243 rfl rfl (obM_60 z1) (by decide) rfl (Nat.le_of_ble_eq_true rfl) (eg_dd (by omega)) (sX11_clears (by omega) M1   g5) (fun M6 eM6 => ?_)
    have h := h M6 eM6
    refine eg_aload_n 0 dX11_waited_18 rfl rfl ?_
    refine eg_iload_n 1 dX11_waited_19 rfl rfl ?_
    obtain ⟨q9, hq9, h⟩ := h
    refine eg_callVV (av := [vI l1]) (st := []) dX11_waited_20 ml_11_490 rfl rfl (obM_60 z1) (by decide) rfl (Nat.le_of_ble_eq_true rfl) (eg_dd (by omega)) hq9 (fun M8 hp => ?_)
    have h := h M8 hp
    refine eg_aload_n 0 dX11_waited_23 rfl rfl ?_
    refine eg_iconst dX11_waited_24 ic_m1 ?_
    obtain ⟨g10, h⟩ := h
    refine eg_callVI (av := [vI (-1 : Int32)]) (st := []) dX11_waited_25 ml_11_493 rfl rfl (obM_60 z1) (by decide) rfl (Nat.le_of_ble_eq_true rfl) (eg_dd (by omega)) (sX11_waitedOf (by omega) M8 (-1 : Int32)  g10) (fun x12 M11 hp => ?_)
    obtain ⟨ex12, eM11⟩ := hp
    rw [eM11]
    have h := h x12 ex12
    exact eg_ireturn dX11_waited_28 rfl h
  · have h := h.2 c4
    refine eg_iconst dX11_waited_12 ic_m1 ?_
    exact eg_ireturn dX11_waited_13 rfl h
theorem dX11_slow_0 : decode cX11_slow 0 = .ok (.aload_n 0, 1) := by decide +kernel
theorem dX11_slow_1 : decode cX11_slow 1 = .ok (.iconst 0, 1) := by decide +kernel
theorem dX11_slow_2 : decode cX11_slow 2 = .ok (.putfield 127, 3) := by decide +kernel
theorem dX11_slow_5 : decode cX11_slow 5 = .ok (.aload_n 0, 1) := by decide +kernel
theorem dX11_slow_6 : decode cX11_slow 6 = .ok (.iload_n 1, 1) := by decide +kernel
theorem dX11_slow_7 : decode cX11_slow 7 = .ok (.invokevirtual 472, 3) := by decide +kernel
theorem dX11_slow_10 : decode cX11_slow 10 = .ok (.ifCond .eq 10, 3) := by decide +kernel
theorem dX11_slow_13 : decode cX11_slow 13 = .ok (.iload_n 2, 1) := by decide +kernel
theorem dX11_slow_14 : decode cX11_slow 14 = .ok (.invokestatic 487, 3) := by decide +kernel
theorem dX11_slow_17 : decode cX11_slow 17 = .ok (.ifCond .ne 7, 3) := by decide +kernel
theorem dX11_slow_20 : decode cX11_slow 20 = .ok (.ldc_w 496, 3) := by decide +kernel
theorem dX11_slow_23 : decode cX11_slow 23 = .ok (.ireturn, 1) := by decide +kernel
theorem dX11_slow_24 : decode cX11_slow 24 = .ok (.aload_n 0, 1) := by decide +kernel
theorem dX11_slow_25 : decode cX11_slow 25 = .ok (.invokevirtual 243, 3) := by decide +kernel
theorem dX11_slow_28 : decode cX11_slow 28 = .ok (.aload_n 0, 1) := by decide +kernel
theorem dX11_slow_29 : decode cX11_slow 29 = .ok (.iload_n 2, 1) := by decide +kernel
theorem dX11_slow_30 : decode cX11_slow 30 = .ok (.invokevirtual 490, 3) := by decide +kernel
theorem dX11_slow_33 : decode cX11_slow 33 = .ok (.aload_n 0, 1) := by decide +kernel
theorem dX11_slow_34 : decode cX11_slow 34 = .ok (.iload_n 1, 1) := by decide +kernel
theorem dX11_slow_35 : decode cX11_slow 35 = .ok (.invokevirtual 493, 3) := by decide +kernel
theorem dX11_slow_38 : decode cX11_slow 38 = .ok (.istore_n 3, 1) := by decide +kernel
theorem dX11_slow_39 : decode cX11_slow 39 = .ok (.aload_n 0, 1) := by decide +kernel
theorem dX11_slow_40 : decode cX11_slow 40 = .ok (.iload_n 1, 1) := by decide +kernel
theorem dX11_slow_41 : decode cX11_slow 41 = .ok (.putfield 339, 3) := by decide +kernel
theorem dX11_slow_44 : decode cX11_slow 44 = .ok (.aload_n 0, 1) := by decide +kernel
theorem dX11_slow_45 : decode cX11_slow 45 = .ok (.iload_n 2, 1) := by decide +kernel
theorem dX11_slow_46 : decode cX11_slow 46 = .ok (.invokevirtual 490, 3) := by decide +kernel
theorem dX11_slow_49 : decode cX11_slow 49 = .ok (.iload_n 3, 1) := by decide +kernel
theorem dX11_slow_50 : decode cX11_slow 50 = .ok (.aload_n 0, 1) := by decide +kernel
theorem dX11_slow_51 : decode cX11_slow 51 = .ok (.iload_n 1, 1) := by decide +kernel
theorem dX11_slow_52 : decode cX11_slow 52 = .ok (.invokevirtual 493, 3) := by decide +kernel
theorem dX11_slow_55 : decode cX11_slow 55 = .ok (.isub, 1) := by decide +kernel
theorem dX11_slow_56 : decode cX11_slow 56 = .ok (.ireturn, 1) := by decide +kernel
set_option maxRecDepth 10000 in
theorem vX11_slow_0 {κ : eg_K} {d : Nat} (hd : 2 ≤ d) {post : Int32 → eg_H → Prop} (M : eg_H) (l1 : Int32) (l2 : Int32) (h : (∀ M1 : eg_H, M1 = (sI M (60, 0) 2 (0 : Int32)) → (∀ x3 : Int32, x3 = (fX11_isGuest M1 l1) → (x3 = 0 → post (-2147483648 : Int32) M1) ∧ ((¬ x3 = 0) → (∀ x6 : Int32, x6 = (fX11_isTime M1 l2) → ((¬ x6 = 0) → (gX11_clears M1 ∧ (∀ M9 : eg_H, M9 = (fX11_clears M1) → eCV κ gM mtX11_runs d [vR (60, 0), vI l2] M9 (fun M11 => (gX11_waitedOf M11 l1 ∧ (∀ x15 : Int32, x15 = (fX11_waitedOf M11 l1) → (∀ M16 : eg_H, M16 = (sI M11 (60, 0) 52 l1) → eCV κ gM mtX11_runs d [vR (60, 0), vI l2] M16 (fun M17 => (gX11_waitedOf M17 l1 ∧ (∀ x21 : Int32, x21 = (fX11_waitedOf M17 l1) → post (x15 - x21) M17)))))))))) ∧ (x6 = 0 → post (-2147483648 : Int32) M1)))))) : eg_W κ gM mtX11_slow d (eQI κ gM post) 0 [(0, vR (60, 0)), (1, vI l1), (2, vI l2)] [] M := by
  refine eg_aload_n 0 dX11_slow_0 rfl rfl ?_
  refine eg_iconst dX11_slow_1 ic_0 ?_
  refine en_putI dX11_slow_2 fl_11_127 rfl rfl (obM_60 z1) (fun M1 eM1 => ?_)
  have h := h M1 eM1
  refine eg_aload_n 0 dX11_slow_5 rfl rfl ?_
  refine eg_iload_n 1 dX11_slow_6 rfl rfl ?_
  refine eg_callVI (av := [vI l1]) (st := []) dX11_slow_7 ml_11_472 rfl rfl (obM_60 z1) (by decide) rfl (Nat.le_of_ble_eq_true rfl) (eg_dd (by omega)) (sX11_isGuest (by omega) M1 l1  ) (fun x3 M2 hp => ?_)
  obtain ⟨ex3, eM2⟩ := hp
  rw [eM2]
  have h := h x3 ex3
  refine eg_if_eq (tgt := 20) dX11_slow_10 rfl (fun c4 => ?_) (fun c4 => ?_)
  · have h := h.1 c4
    refine eg_ldcw dX11_slow_20 kc_11_496 ?_
    exact eg_ireturn dX11_slow_23 rfl h
  · have h := h.2 c4
    refine eg_iload_n 2 dX11_slow_13 rfl rfl ?_
    refine eg_callSI (av := [vI l2]) (st := []) dX11_slow_14 ml_11_487 rfl rfl (Nat.le_of_ble_eq_true rfl) (eg_dd (by omega)) (sX11_isTime (by omega) M1 l2  ) (fun x6 M5 hp => ?_)
    obtain ⟨ex6, eM5⟩ := hp
    rw [eM5]
    have h := h x6 ex6
    refine eg_if_ne (tgt := 24) dX11_slow_17 rfl (fun c7 => ?_) (fun c7 => ?_)
    · have h := h.1 c7
      refine eg_aload_n 0 dX11_slow_24 rfl rfl ?_
      obtain ⟨g8, h⟩ := h
      refine eg_callVV (av := []) (st := []) dX11_slow_25 ml_11_243 rfl rfl (obM_60 z1) (by decide) rfl (Nat.le_of_ble_eq_true rfl) (eg_dd (by omega)) (sX11_clears (by omega) M1   g8) (fun M9 eM9 => ?_)
      have h := h M9 eM9
      refine eg_aload_n 0 dX11_slow_28 rfl rfl ?_
      refine eg_iload_n 2 dX11_slow_29 rfl rfl ?_
      obtain ⟨q12, hq12, h⟩ := h
      refine eg_callVV (av := [vI l2]) (st := []) dX11_slow_30 ml_11_490 rfl rfl (obM_60 z1) (by decide) rfl (Nat.le_of_ble_eq_true rfl) (eg_dd (by omega)) hq12 (fun M11 hp => ?_)
      have h := h M11 hp
      refine eg_aload_n 0 dX11_slow_33 rfl rfl ?_
      refine eg_iload_n 1 dX11_slow_34 rfl rfl ?_
      obtain ⟨g13, h⟩ := h
      refine eg_callVI (av := [vI l1]) (st := []) dX11_slow_35 ml_11_493 rfl rfl (obM_60 z1) (by decide) rfl (Nat.le_of_ble_eq_true rfl) (eg_dd (by omega)) (sX11_waitedOf (by omega) M11 l1  g13) (fun x15 M14 hp => ?_)
      obtain ⟨ex15, eM14⟩ := hp
      rw [eM14]
      have h := h x15 ex15
      refine eg_istore_n dX11_slow_38 rfl (by decide) (ls1 := [(3, vI x15), (0, vR (60, 0)), (1, vI l1), (2, vI l2)]) rfl ?_
      refine eg_aload_n 1 dX11_slow_39 rfl rfl ?_
      refine eg_iload_n 2 dX11_slow_40 rfl rfl ?_
      refine en_putI dX11_slow_41 fl_11_339 rfl rfl (obM_60 z1) (fun M16 eM16 => ?_)
      have h := h M16 eM16
      refine eg_aload_n 1 dX11_slow_44 rfl rfl ?_
      refine eg_iload_n 3 dX11_slow_45 rfl rfl ?_
      obtain ⟨q18, hq18, h⟩ := h
      refine eg_callVV (av := [vI l2]) (st := []) dX11_slow_46 ml_11_490 rfl rfl (obM_60 z1) (by decide) rfl (Nat.le_of_ble_eq_true rfl) (eg_dd (by omega)) hq18 (fun M17 hp => ?_)
      have h := h M17 hp
      refine eg_iload_n 0 dX11_slow_49 rfl rfl ?_
      refine eg_aload_n 1 dX11_slow_50 rfl rfl ?_
      refine eg_iload_n 2 dX11_slow_51 rfl rfl ?_
      obtain ⟨g19, h⟩ := h
      refine eg_callVI (av := [vI l1]) (st := [vI x15]) dX11_slow_52 ml_11_493 rfl rfl (obM_60 z1) (by decide) rfl (Nat.le_of_ble_eq_true rfl) (eg_dd (by omega)) (sX11_waitedOf (by omega) M17 l1  g19) (fun x21 M20 hp => ?_)
      obtain ⟨ex21, eM20⟩ := hp
      rw [eM20]
      have h := h x21 ex21
      refine eg_isub dX11_slow_55 ?_
      exact eg_ireturn dX11_slow_56 rfl h
    · have h := h.2 c7
      refine eg_ldcw dX11_slow_20 kc_11_496 ?_
      exact eg_ireturn dX11_slow_23 rfl h
theorem dX11_many_0 : decode cX11_many 0 = .ok (.aload_n 0, 1) := by decide +kernel
theorem dX11_many_1 : decode cX11_many 1 = .ok (.iconst 0, 1) := by decide +kernel
theorem dX11_many_2 : decode cX11_many 2 = .ok (.putfield 127, 3) := by decide +kernel
theorem dX11_many_5 : decode cX11_many 5 = .ok (.aload_n 0, 1) := by decide +kernel
theorem dX11_many_6 : decode cX11_many 6 = .ok (.iload_n 1, 1) := by decide +kernel
theorem dX11_many_7 : decode cX11_many 7 = .ok (.invokevirtual 478, 3) := by decide +kernel
theorem dX11_many_10 : decode cX11_many 10 = .ok (.ifCond .eq 17, 3) := by decide +kernel
theorem dX11_many_13 : decode cX11_many 13 = .ok (.iload_n 2, 1) := by decide +kernel
theorem dX11_many_14 : decode cX11_many 14 = .ok (.invokestatic 487, 3) := by decide +kernel
theorem dX11_many_17 : decode cX11_many 17 = .ok (.ifCond .eq 10, 3) := by decide +kernel
theorem dX11_many_20 : decode cX11_many 20 = .ok (.iload_n 3, 1) := by decide +kernel
theorem dX11_many_21 : decode cX11_many 21 = .ok (.invokestatic 497, 3) := by decide +kernel
theorem dX11_many_24 : decode cX11_many 24 = .ok (.ifCond .ne 5, 3) := by decide +kernel
theorem dX11_many_27 : decode cX11_many 27 = .ok (.iconst (-1), 1) := by decide +kernel
theorem dX11_many_28 : decode cX11_many 28 = .ok (.ireturn, 1) := by decide +kernel
theorem dX11_many_29 : decode cX11_many 29 = .ok (.iconst 1, 1) := by decide +kernel
theorem dX11_many_30 : decode cX11_many 30 = .ok (.istore 4, 2) := by decide +kernel
theorem dX11_many_32 : decode cX11_many 32 = .ok (.iload 4, 2) := by decide +kernel
theorem dX11_many_34 : decode cX11_many 34 = .ok (.iconst 5, 1) := by decide +kernel
theorem dX11_many_35 : decode cX11_many 35 = .ok (.if_icmp .ge 41, 3) := by decide +kernel
theorem dX11_many_38 : decode cX11_many 38 = .ok (.aload_n 0, 1) := by decide +kernel
theorem dX11_many_39 : decode cX11_many 39 = .ok (.invokevirtual 243, 3) := by decide +kernel
theorem dX11_many_42 : decode cX11_many 42 = .ok (.aload_n 0, 1) := by decide +kernel
theorem dX11_many_43 : decode cX11_many 43 = .ok (.iload_n 1, 1) := by decide +kernel
theorem dX11_many_44 : decode cX11_many 44 = .ok (.putfield 342, 3) := by decide +kernel
theorem dX11_many_47 : decode cX11_many 47 = .ok (.aload_n 0, 1) := by decide +kernel
theorem dX11_many_48 : decode cX11_many 48 = .ok (.iload 4, 2) := by decide +kernel
theorem dX11_many_50 : decode cX11_many 50 = .ok (.putfield 441, 3) := by decide +kernel
theorem dX11_many_53 : decode cX11_many 53 = .ok (.aload_n 0, 1) := by decide +kernel
theorem dX11_many_54 : decode cX11_many 54 = .ok (.iload_n 2, 1) := by decide +kernel
theorem dX11_many_55 : decode cX11_many 55 = .ok (.invokevirtual 490, 3) := by decide +kernel
theorem dX11_many_58 : decode cX11_many 58 = .ok (.aload_n 0, 1) := by decide +kernel
theorem dX11_many_59 : decode cX11_many 59 = .ok (.iconst (-1), 1) := by decide +kernel
theorem dX11_many_60 : decode cX11_many 60 = .ok (.invokevirtual 493, 3) := by decide +kernel
theorem dX11_many_63 : decode cX11_many 63 = .ok (.iload_n 3, 1) := by decide +kernel
theorem dX11_many_64 : decode cX11_many 64 = .ok (.if_icmp .gt 6, 3) := by decide +kernel
theorem dX11_many_67 : decode cX11_many 67 = .ok (.iload 4, 2) := by decide +kernel
theorem dX11_many_69 : decode cX11_many 69 = .ok (.ireturn, 1) := by decide +kernel
theorem dX11_many_70 : decode cX11_many 70 = .ok (.iinc 4 1, 3) := by decide +kernel
theorem dX11_many_73 : decode cX11_many 73 = .ok (.goto (-41), 3) := by decide +kernel
theorem dX11_many_76 : decode cX11_many 76 = .ok (.bipush (-2), 2) := by decide +kernel
theorem dX11_many_78 : decode cX11_many 78 = .ok (.ireturn, 1) := by decide +kernel
set_option maxRecDepth 10000 in
theorem vX11_many_0 {κ : eg_K} {d : Nat} (hd : 2 ≤ d) {post : Int32 → eg_H → Prop} (M : eg_H) (l1 : Int32) (l2 : Int32) (l3 : Int32) (h : (∀ M1 : eg_H, M1 = (sI M (60, 0) 2 (0 : Int32)) → (∀ x3 : Int32, x3 = (fX11_isStation M1 l1) → (x3 = 0 → post (-1 : Int32) M1) ∧ ((¬ x3 = 0) → (∀ x6 : Int32, x6 = (fX11_isTime M1 l2) → (x6 = 0 → post (-1 : Int32) M1) ∧ ((¬ x6 = 0) → (∀ x9 : Int32, x9 = (fX11_isBound M1 l3) → ((¬ x9 = 0) → eg_W κ gM mtX11_many d (eQI κ gM post) 32 [(0, vR (60, 0)), (1, vI l1), (2, vI l2), (3, vI l3), (4, vI (1 : Int32))] [] M1) ∧ (x9 = 0 → post (-1 : Int32) M1)))))))) : eg_W κ gM mtX11_many d (eQI κ gM post) 0 [(0, vR (60, 0)), (1, vI l1), (2, vI l2), (3, vI l3)] [] M := by
  refine eg_aload_n 0 dX11_many_0 rfl rfl ?_
  refine eg_iconst dX11_many_1 ic_0 ?_
  refine en_putI dX11_many_2 fl_11_127 rfl rfl (obM_60 z1) (fun M1 eM1 => ?_)
  have h := h M1 eM1
  refine eg_aload_n 0 dX11_many_5 rfl rfl ?_
  refine eg_iload_n 1 dX11_many_6 rfl rfl ?_
  refine eg_callVI (av := [vI l1]) (st := []) dX11_many_7 ml_11_478 rfl rfl (obM_60 z1) (by decide) rfl (Nat.le_of_ble_eq_true rfl) (eg_dd (by omega)) (sX11_isStation (by omega) M1 l1  ) (fun x3 M2 hp => ?_)
  obtain ⟨ex3, eM2⟩ := hp
  rw [eM2]
  have h := h x3 ex3
  refine eg_if_eq (tgt := 27) dX11_many_10 rfl (fun c4 => ?_) (fun c4 => ?_)
  · have h := h.1 c4
    refine eg_iconst dX11_many_27 ic_m1 ?_
    exact eg_ireturn dX11_many_28 rfl h
  · have h := h.2 c4
    refine eg_iload_n 2 dX11_many_13 rfl rfl ?_
    refine eg_callSI (av := [vI l2]) (st := []) dX11_many_14 ml_11_487 rfl rfl (Nat.le_of_ble_eq_true rfl) (eg_dd (by omega)) (sX11_isTime (by omega) M1 l2  ) (fun x6 M5 hp => ?_)
    obtain ⟨ex6, eM5⟩ := hp
    rw [eM5]
    have h := h x6 ex6
    refine eg_if_eq (tgt := 27) dX11_many_17 rfl (fun c7 => ?_) (fun c7 => ?_)
    · have h := h.1 c7
      refine eg_iconst dX11_many_27 ic_m1 ?_
      exact eg_ireturn dX11_many_28 rfl h
    · have h := h.2 c7
      refine eg_iload_n 3 dX11_many_20 rfl rfl ?_
      refine eg_callSI (av := [vI l3]) (st := []) dX11_many_21 ml_11_497 rfl rfl (Nat.le_of_ble_eq_true rfl) (eg_dd (by omega)) (sX11_isBound (by omega) M1 l3  ) (fun x9 M8 hp => ?_)
      obtain ⟨ex9, eM8⟩ := hp
      rw [eM8]
      have h := h x9 ex9
      refine eg_if_ne (tgt := 29) dX11_many_24 rfl (fun c10 => ?_) (fun c10 => ?_)
      · have h := h.1 c10
        refine eg_iconst dX11_many_29 ic_1 ?_
        refine eg_istore dX11_many_30 (by decide) (ls1 := [(4, vI (1 : Int32)), (0, vR (60, 0)), (1, vI l1), (2, vI l2), (3, vI l3)]) rfl ?_
        refine eg_sub [1, 2, 3, 4, 0] rfl ?_
        exact h
      · have h := h.2 c10
        refine eg_iconst dX11_many_27 ic_m1 ?_
        exact eg_ireturn dX11_many_28 rfl h
set_option maxRecDepth 10000 in
theorem vX11_many_32 {κ : eg_K} {d : Nat} (hd : 2 ≤ d) {post : Int32 → eg_H → Prop} (M : eg_H) (l1 : Int32) (l2 : Int32) (l3 : Int32) (l4 : Int32) (h : ((5 : Int32) ≤ l4 → post (-2 : Int32) M) ∧ ((¬ (5 : Int32) ≤ l4) → (gX11_clears M ∧ (∀ M3 : eg_H, M3 = (fX11_clears M) → (∀ M5 : eg_H, M5 = (sI M3 (60, 0) 53 l1) → (∀ M6 : eg_H, M6 = (sI M5 (60, 0) 54 l4) → eCV κ gM mtX11_runs d [vR (60, 0), vI l2] M6 (fun M7 => (gX11_waitedOf M7 (-1 : Int32) ∧ (∀ x11 : Int32, x11 = (fX11_waitedOf M7 (-1 : Int32)) → (l3 < x11 → (∀ x13 : Int32, x13 = (l4 + (1 : Int32)) → eg_W κ gM mtX11_many d (eQI κ gM post) 32 [(0, vR (60, 0)), (1, vI l1), (2, vI l2), (3, vI l3), (4, vI x13)] [] M7)) ∧ ((¬ l3 < x11) → post l4 M7)))))))))) : eg_W κ gM mtX11_many d (eQI κ gM post) 32 [(0, vR (60, 0)), (1, vI l1), (2, vI l2), (3, vI l3), (4, vI l4)] [] M := by
  refine eg_iload 4 dX11_many_32 rfl ?_
  refine eg_iconst dX11_many_34 ic_5 ?_
  refine eg_icmp_ge (tgt := 76) dX11_many_35 rfl (fun c1 => ?_) (fun c1 => ?_)
  · have h := h.1 c1
    refine eg_bipush dX11_many_76 bp_m2 ?_
    exact eg_ireturn dX11_many_78 rfl h
  · have h := h.2 c1
    refine eg_aload_n 0 dX11_many_38 rfl rfl ?_
    obtain ⟨g2, h⟩ := h
    refine eg_callVV (av := []) (st := []) dX11_many_39 ml_11_243 rfl rfl (obM_60 z1) (by decide) rfl (Nat.le_of_ble_eq_true rfl) (eg_dd (by omega)) (sX11_clears (by omega) M   g2) (fun M3 eM3 => ?_)
    have h := h M3 eM3
    refine eg_aload_n 0 dX11_many_42 rfl rfl ?_
    refine eg_iload_n 1 dX11_many_43 rfl rfl ?_
    refine en_putI dX11_many_44 fl_11_342 rfl rfl (obM_60 z1) (fun M5 eM5 => ?_)
    have h := h M5 eM5
    refine eg_aload_n 0 dX11_many_47 rfl rfl ?_
    refine eg_iload 4 dX11_many_48 rfl ?_
    refine en_putI dX11_many_50 fl_11_441 rfl rfl (obM_60 z1) (fun M6 eM6 => ?_)
    have h := h M6 eM6
    refine eg_aload_n 0 dX11_many_53 rfl rfl ?_
    refine eg_iload_n 2 dX11_many_54 rfl rfl ?_
    obtain ⟨q8, hq8, h⟩ := h
    refine eg_callVV (av := [vI l2]) (st := []) dX11_many_55 ml_11_490 rfl rfl (obM_60 z1) (by decide) rfl (Nat.le_of_ble_eq_true rfl) (eg_dd (by omega)) hq8 (fun M7 hp => ?_)
    have h := h M7 hp
    refine eg_aload_n 0 dX11_many_58 rfl rfl ?_
    refine eg_iconst dX11_many_59 ic_m1 ?_
    obtain ⟨g9, h⟩ := h
    refine eg_callVI (av := [vI (-1 : Int32)]) (st := []) dX11_many_60 ml_11_493 rfl rfl (obM_60 z1) (by decide) rfl (Nat.le_of_ble_eq_true rfl) (eg_dd (by omega)) (sX11_waitedOf (by omega) M7 (-1 : Int32)  g9) (fun x11 M10 hp => ?_)
    obtain ⟨ex11, eM10⟩ := hp
    rw [eM10]
    have h := h x11 ex11
    refine eg_iload_n 3 dX11_many_63 rfl rfl ?_
    refine eg_icmp_gt (tgt := 70) dX11_many_64 rfl (fun c12 => ?_) (fun c12 => ?_)
    · have h := h.1 c12
      refine en_iinc (f := fun x13 => [(4, vI x13), (0, vR (60, 0)), (1, vI l1), (2, vI l2), (3, vI l3)]) 4 dX11_many_70 rfl rfl (by decide) rfl (fun x13 ex13 => ?_)
      have h := h x13 ex13
      refine eg_goto (tgt := 32) dX11_many_73 rfl ?_
      refine eg_sub [1, 2, 3, 4, 0] rfl ?_
      exact h
    · have h := h.2 c12
      refine eg_iload 4 dX11_many_67 rfl ?_
      exact eg_ireturn dX11_many_69 rfl h
theorem dX11_nextOrder_0 : decode cX11_nextOrder 0 = .ok (.iload_n 1, 1) := by decide +kernel
theorem dX11_nextOrder_1 : decode cX11_nextOrder 1 = .ok (.iconst 2, 1) := by decide +kernel
theorem dX11_nextOrder_2 : decode cX11_nextOrder 2 = .ok (.isub, 1) := by decide +kernel
theorem dX11_nextOrder_3 : decode cX11_nextOrder 3 = .ok (.istore_n 2, 1) := by decide +kernel
theorem dX11_nextOrder_4 : decode cX11_nextOrder 4 = .ok (.iload_n 2, 1) := by decide +kernel
theorem dX11_nextOrder_5 : decode cX11_nextOrder 5 = .ok (.ifCond .lt 20, 3) := by decide +kernel
theorem dX11_nextOrder_8 : decode cX11_nextOrder 8 = .ok (.aload_n 0, 1) := by decide +kernel
theorem dX11_nextOrder_9 : decode cX11_nextOrder 9 = .ok (.iload_n 2, 1) := by decide +kernel
theorem dX11_nextOrder_10 : decode cX11_nextOrder 10 = .ok (.iaload, 1) := by decide +kernel
theorem dX11_nextOrder_11 : decode cX11_nextOrder 11 = .ok (.aload_n 0, 1) := by decide +kernel
theorem dX11_nextOrder_12 : decode cX11_nextOrder 12 = .ok (.iload_n 2, 1) := by decide +kernel
theorem dX11_nextOrder_13 : decode cX11_nextOrder 13 = .ok (.iconst 1, 1) := by decide +kernel
theorem dX11_nextOrder_14 : decode cX11_nextOrder 14 = .ok (.iadd, 1) := by decide +kernel
theorem dX11_nextOrder_15 : decode cX11_nextOrder 15 = .ok (.iaload, 1) := by decide +kernel
theorem dX11_nextOrder_16 : decode cX11_nextOrder 16 = .ok (.if_icmp .le 9, 3) := by decide +kernel
theorem dX11_nextOrder_19 : decode cX11_nextOrder 19 = .ok (.iinc 2 (-1), 3) := by decide +kernel
theorem dX11_nextOrder_22 : decode cX11_nextOrder 22 = .ok (.goto (-18), 3) := by decide +kernel
theorem dX11_nextOrder_25 : decode cX11_nextOrder 25 = .ok (.iload_n 2, 1) := by decide +kernel
theorem dX11_nextOrder_26 : decode cX11_nextOrder 26 = .ok (.ifCond .ge 5, 3) := by decide +kernel
theorem dX11_nextOrder_29 : decode cX11_nextOrder 29 = .ok (.iconst 0, 1) := by decide +kernel
theorem dX11_nextOrder_30 : decode cX11_nextOrder 30 = .ok (.ireturn, 1) := by decide +kernel
theorem dX11_nextOrder_31 : decode cX11_nextOrder 31 = .ok (.iload_n 1, 1) := by decide +kernel
theorem dX11_nextOrder_32 : decode cX11_nextOrder 32 = .ok (.iconst 1, 1) := by decide +kernel
theorem dX11_nextOrder_33 : decode cX11_nextOrder 33 = .ok (.isub, 1) := by decide +kernel
theorem dX11_nextOrder_34 : decode cX11_nextOrder 34 = .ok (.istore_n 3, 1) := by decide +kernel
theorem dX11_nextOrder_35 : decode cX11_nextOrder 35 = .ok (.aload_n 0, 1) := by decide +kernel
theorem dX11_nextOrder_36 : decode cX11_nextOrder 36 = .ok (.iload_n 3, 1) := by decide +kernel
theorem dX11_nextOrder_37 : decode cX11_nextOrder 37 = .ok (.iaload, 1) := by decide +kernel
theorem dX11_nextOrder_38 : decode cX11_nextOrder 38 = .ok (.aload_n 0, 1) := by decide +kernel
theorem dX11_nextOrder_39 : decode cX11_nextOrder 39 = .ok (.iload_n 2, 1) := by decide +kernel
theorem dX11_nextOrder_40 : decode cX11_nextOrder 40 = .ok (.iaload, 1) := by decide +kernel
theorem dX11_nextOrder_41 : decode cX11_nextOrder 41 = .ok (.if_icmp .ge 9, 3) := by decide +kernel
theorem dX11_nextOrder_44 : decode cX11_nextOrder 44 = .ok (.iinc 3 (-1), 3) := by decide +kernel
theorem dX11_nextOrder_47 : decode cX11_nextOrder 47 = .ok (.goto (-12), 3) := by decide +kernel
theorem dX11_nextOrder_50 : decode cX11_nextOrder 50 = .ok (.aload_n 0, 1) := by decide +kernel
theorem dX11_nextOrder_51 : decode cX11_nextOrder 51 = .ok (.iload_n 2, 1) := by decide +kernel
theorem dX11_nextOrder_52 : decode cX11_nextOrder 52 = .ok (.iaload, 1) := by decide +kernel
theorem dX11_nextOrder_53 : decode cX11_nextOrder 53 = .ok (.istore 4, 2) := by decide +kernel
theorem dX11_nextOrder_55 : decode cX11_nextOrder 55 = .ok (.aload_n 0, 1) := by decide +kernel
theorem dX11_nextOrder_56 : decode cX11_nextOrder 56 = .ok (.iload_n 2, 1) := by decide +kernel
theorem dX11_nextOrder_57 : decode cX11_nextOrder 57 = .ok (.aload_n 0, 1) := by decide +kernel
theorem dX11_nextOrder_58 : decode cX11_nextOrder 58 = .ok (.iload_n 3, 1) := by decide +kernel
theorem dX11_nextOrder_59 : decode cX11_nextOrder 59 = .ok (.iaload, 1) := by decide +kernel
theorem dX11_nextOrder_60 : decode cX11_nextOrder 60 = .ok (.iastore, 1) := by decide +kernel
theorem dX11_nextOrder_61 : decode cX11_nextOrder 61 = .ok (.aload_n 0, 1) := by decide +kernel
theorem dX11_nextOrder_62 : decode cX11_nextOrder 62 = .ok (.iload_n 3, 1) := by decide +kernel
theorem dX11_nextOrder_63 : decode cX11_nextOrder 63 = .ok (.iload 4, 2) := by decide +kernel
theorem dX11_nextOrder_65 : decode cX11_nextOrder 65 = .ok (.iastore, 1) := by decide +kernel
theorem dX11_nextOrder_66 : decode cX11_nextOrder 66 = .ok (.iload_n 2, 1) := by decide +kernel
theorem dX11_nextOrder_67 : decode cX11_nextOrder 67 = .ok (.iconst 1, 1) := by decide +kernel
theorem dX11_nextOrder_68 : decode cX11_nextOrder 68 = .ok (.iadd, 1) := by decide +kernel
theorem dX11_nextOrder_69 : decode cX11_nextOrder 69 = .ok (.istore 5, 2) := by decide +kernel
theorem dX11_nextOrder_71 : decode cX11_nextOrder 71 = .ok (.iload_n 1, 1) := by decide +kernel
theorem dX11_nextOrder_72 : decode cX11_nextOrder 72 = .ok (.iconst 1, 1) := by decide +kernel
theorem dX11_nextOrder_73 : decode cX11_nextOrder 73 = .ok (.isub, 1) := by decide +kernel
theorem dX11_nextOrder_74 : decode cX11_nextOrder 74 = .ok (.istore 6, 2) := by decide +kernel
theorem dX11_nextOrder_76 : decode cX11_nextOrder 76 = .ok (.iload 5, 2) := by decide +kernel
theorem dX11_nextOrder_78 : decode cX11_nextOrder 78 = .ok (.iload 6, 2) := by decide +kernel
theorem dX11_nextOrder_80 : decode cX11_nextOrder 80 = .ok (.if_icmp .ge 32, 3) := by decide +kernel
theorem dX11_nextOrder_83 : decode cX11_nextOrder 83 = .ok (.aload_n 0, 1) := by decide +kernel
theorem dX11_nextOrder_84 : decode cX11_nextOrder 84 = .ok (.iload 5, 2) := by decide +kernel
theorem dX11_nextOrder_86 : decode cX11_nextOrder 86 = .ok (.iaload, 1) := by decide +kernel
theorem dX11_nextOrder_87 : decode cX11_nextOrder 87 = .ok (.istore 4, 2) := by decide +kernel
theorem dX11_nextOrder_89 : decode cX11_nextOrder 89 = .ok (.aload_n 0, 1) := by decide +kernel
theorem dX11_nextOrder_90 : decode cX11_nextOrder 90 = .ok (.iload 5, 2) := by decide +kernel
theorem dX11_nextOrder_92 : decode cX11_nextOrder 92 = .ok (.aload_n 0, 1) := by decide +kernel
theorem dX11_nextOrder_93 : decode cX11_nextOrder 93 = .ok (.iload 6, 2) := by decide +kernel
theorem dX11_nextOrder_95 : decode cX11_nextOrder 95 = .ok (.iaload, 1) := by decide +kernel
theorem dX11_nextOrder_96 : decode cX11_nextOrder 96 = .ok (.iastore, 1) := by decide +kernel
theorem dX11_nextOrder_97 : decode cX11_nextOrder 97 = .ok (.aload_n 0, 1) := by decide +kernel
theorem dX11_nextOrder_98 : decode cX11_nextOrder 98 = .ok (.iload 6, 2) := by decide +kernel
theorem dX11_nextOrder_100 : decode cX11_nextOrder 100 = .ok (.iload 4, 2) := by decide +kernel
theorem dX11_nextOrder_102 : decode cX11_nextOrder 102 = .ok (.iastore, 1) := by decide +kernel
theorem dX11_nextOrder_103 : decode cX11_nextOrder 103 = .ok (.iinc 5 1, 3) := by decide +kernel
theorem dX11_nextOrder_106 : decode cX11_nextOrder 106 = .ok (.iinc 6 (-1), 3) := by decide +kernel
theorem dX11_nextOrder_109 : decode cX11_nextOrder 109 = .ok (.goto (-33), 3) := by decide +kernel
theorem dX11_nextOrder_112 : decode cX11_nextOrder 112 = .ok (.iconst 1, 1) := by decide +kernel
theorem dX11_nextOrder_113 : decode cX11_nextOrder 113 = .ok (.ireturn, 1) := by decide +kernel
set_option maxRecDepth 10000 in
theorem vX11_nextOrder_0 {κ : eg_K} {d : Nat} {post : Int32 → eg_H → Prop} (M : eg_H) {l0 : eg_R} {nl0 : Nat} (hl0 : l0 ∈ gM.1 ∧ gM.2.1 l0 = (1, nl0)) (l1 : Int32) (h : (∀ x1 : Int32, x1 = (l1 - (2 : Int32)) → eg_W κ gM mtX11_nextOrder d (eQI κ gM post) 4 [(0, vR l0), (1, vI l1), (2, vI x1)] [] M)) : eg_W κ gM mtX11_nextOrder d (eQI κ gM post) 0 [(0, vR l0), (1, vI l1)] [] M := by
  refine eg_iload_n 1 dX11_nextOrder_0 rfl rfl ?_
  refine eg_iconst dX11_nextOrder_1 ic_2 ?_
  refine eg_isub dX11_nextOrder_2 ?_
  refine en_istore_n (f := fun x1 => [(2, vI x1), (0, vR l0), (1, vI l1)]) dX11_nextOrder_3 rfl (by decide) rfl (fun x1 ex1 => ?_)
  have h := h x1 ex1
  refine eg_sub [1, 2, 0] rfl ?_
  exact h
set_option maxRecDepth 10000 in
theorem vX11_nextOrder_4 {κ : eg_K} {d : Nat} {post : Int32 → eg_H → Prop} (M : eg_H) {l0 : eg_R} {nl0 : Nat} (hl0 : l0 ∈ gM.1 ∧ gM.2.1 l0 = (1, nl0)) (l1 : Int32) (l2 : Int32) (h : (l2 < 0 → (0 ≤ l2 → (∀ x3 : Int32, x3 = (l1 - (1 : Int32)) → eg_W κ gM mtX11_nextOrder d (eQI κ gM post) 35 [(0, vR l0), (1, vI l1), (2, vI l2), (3, vI x3)] [] M)) ∧ ((¬ 0 ≤ l2) → post (0 : Int32) M)) ∧ ((¬ l2 < 0) → (vp_in l2 nl0 ∧ (vp_in (l2 + (1 : Int32)) nl0 ∧ ((M.1 l0 l2.toNatClampNeg) ≤ (M.1 l0 (l2 + (1 : Int32)).toNatClampNeg) → (0 ≤ l2 → (∀ x8 : Int32, x8 = (l1 - (1 : Int32)) → eg_W κ gM mtX11_nextOrder d (eQI κ gM post) 35 [(0, vR l0), (1, vI l1), (2, vI l2), (3, vI x8)] [] M)) ∧ ((¬ 0 ≤ l2) → post (0 : Int32) M)) ∧ ((¬ (M.1 l0 l2.toNatClampNeg) ≤ (M.1 l0 (l2 + (1 : Int32)).toNatClampNeg)) → (∀ x9 : Int32, x9 = (l2 + (-1 : Int32)) → eg_W κ gM mtX11_nextOrder d (eQI κ gM post) 4 [(0, vR l0), (1, vI l1), (2, vI x9)] [] M)))))) : eg_W κ gM mtX11_nextOrder d (eQI κ gM post) 4 [(0, vR l0), (1, vI l1), (2, vI l2)] [] M := by
  refine eg_iload_n 2 dX11_nextOrder_4 rfl rfl ?_
  refine eg_if_lt (tgt := 25) dX11_nextOrder_5 rfl (fun c1 => ?_) (fun c1 => ?_)
  · have h := h.1 c1
    refine eg_iload_n 2 dX11_nextOrder_25 rfl rfl ?_
    refine eg_if_ge (tgt := 31) dX11_nextOrder_26 rfl (fun c2 => ?_) (fun c2 => ?_)
    · have h := h.1 c2
      refine eg_iload_n 1 dX11_nextOrder_31 rfl rfl ?_
      refine eg_iconst dX11_nextOrder_32 ic_1 ?_
      refine eg_isub dX11_nextOrder_33 ?_
      refine en_istore_n (f := fun x3 => [(3, vI x3), (0, vR l0), (1, vI l1), (2, vI l2)]) dX11_nextOrder_34 rfl (by decide) rfl (fun x3 ex3 => ?_)
      have h := h x3 ex3
      refine eg_sub [1, 2, 3, 0] rfl ?_
      exact h
    · have h := h.2 c2
      refine eg_iconst dX11_nextOrder_29 ic_0 ?_
      exact eg_zreturn dX11_nextOrder_30 rfl (Or.inl rfl) h
  · have h := h.2 c1
    refine eg_aload_n 0 dX11_nextOrder_8 rfl rfl ?_
    refine eg_iload_n 2 dX11_nextOrder_9 rfl rfl ?_
    obtain ⟨g4, h⟩ := h
    refine eg_iaload dX11_nextOrder_10 (eg_arA hl0 g4) ?_
    refine eg_aload_n 0 dX11_nextOrder_11 rfl rfl ?_
    refine eg_iload_n 2 dX11_nextOrder_12 rfl rfl ?_
    refine eg_iconst dX11_nextOrder_13 ic_1 ?_
    refine eg_iadd dX11_nextOrder_14 ?_
    obtain ⟨g5, h⟩ := h
    refine eg_iaload dX11_nextOrder_15 (eg_arA hl0 g5) ?_
    refine eg_icmp_le (tgt := 25) dX11_nextOrder_16 rfl (fun c6 => ?_) (fun c6 => ?_)
    · have h := h.1 c6
      refine eg_iload_n 2 dX11_nextOrder_25 rfl rfl ?_
      refine eg_if_ge (tgt := 31) dX11_nextOrder_26 rfl (fun c7 => ?_) (fun c7 => ?_)
      · have h := h.1 c7
        refine eg_iload_n 1 dX11_nextOrder_31 rfl rfl ?_
        refine eg_iconst dX11_nextOrder_32 ic_1 ?_
        refine eg_isub dX11_nextOrder_33 ?_
        refine en_istore_n (f := fun x8 => [(3, vI x8), (0, vR l0), (1, vI l1), (2, vI l2)]) dX11_nextOrder_34 rfl (by decide) rfl (fun x8 ex8 => ?_)
        have h := h x8 ex8
        refine eg_sub [1, 2, 3, 0] rfl ?_
        exact h
      · have h := h.2 c7
        refine eg_iconst dX11_nextOrder_29 ic_0 ?_
        exact eg_zreturn dX11_nextOrder_30 rfl (Or.inl rfl) h
    · have h := h.2 c6
      refine en_iinc (f := fun x9 => [(2, vI x9), (0, vR l0), (1, vI l1)]) 2 dX11_nextOrder_19 rfl rfl (by decide) rfl (fun x9 ex9 => ?_)
      have h := h x9 ex9
      refine eg_goto (tgt := 4) dX11_nextOrder_22 rfl ?_
      refine eg_sub [1, 2, 0] rfl ?_
      exact h
set_option maxRecDepth 10000 in
theorem vX11_nextOrder_35 {κ : eg_K} {d : Nat} {post : Int32 → eg_H → Prop} (M : eg_H) {l0 : eg_R} {nl0 : Nat} (hl0 : l0 ∈ gM.1 ∧ gM.2.1 l0 = (1, nl0)) (l1 : Int32) (l2 : Int32) (l3 : Int32) (h : (vp_in l3 nl0 ∧ (vp_in l2 nl0 ∧ ((M.1 l0 l2.toNatClampNeg) ≤ (M.1 l0 l3.toNatClampNeg) → (∀ x4 : Int32, x4 = (M.1 l0 l2.toNatClampNeg) → (∀ M5 : eg_H, M5 = (sI M l0 l2.toNatClampNeg (M.1 l0 l3.toNatClampNeg)) → (∀ M6 : eg_H, M6 = (sI M5 l0 l3.toNatClampNeg x4) → (∀ x7 : Int32, x7 = (l2 + (1 : Int32)) → (∀ x8 : Int32, x8 = (l1 - (1 : Int32)) → eg_W κ gM mtX11_nextOrder d (eQI κ gM post) 76 [(0, vR l0), (5, vI x7), (6, vI x8)] [] M6)))))) ∧ ((¬ (M.1 l0 l2.toNatClampNeg) ≤ (M.1 l0 l3.toNatClampNeg)) → (∀ x9 : Int32, x9 = (l3 + (-1 : Int32)) → eg_W κ gM mtX11_nextOrder d (eQI κ gM post) 35 [(0, vR l0), (1, vI l1), (2, vI l2), (3, vI x9)] [] M))))) : eg_W κ gM mtX11_nextOrder d (eQI κ gM post) 35 [(0, vR l0), (1, vI l1), (2, vI l2), (3, vI l3)] [] M := by
  refine eg_aload_n 0 dX11_nextOrder_35 rfl rfl ?_
  refine eg_iload_n 3 dX11_nextOrder_36 rfl rfl ?_
  obtain ⟨g1, h⟩ := h
  refine eg_iaload dX11_nextOrder_37 (eg_arA hl0 g1) ?_
  refine eg_aload_n 0 dX11_nextOrder_38 rfl rfl ?_
  refine eg_iload_n 2 dX11_nextOrder_39 rfl rfl ?_
  obtain ⟨g2, h⟩ := h
  refine eg_iaload dX11_nextOrder_40 (eg_arA hl0 g2) ?_
  refine eg_icmp_ge (tgt := 50) dX11_nextOrder_41 rfl (fun c3 => ?_) (fun c3 => ?_)
  · have h := h.1 c3
    refine eg_aload_n 0 dX11_nextOrder_50 rfl rfl ?_
    refine eg_iload_n 2 dX11_nextOrder_51 rfl rfl ?_
    refine eg_iaload dX11_nextOrder_52 (eg_arA hl0 g2) ?_
    refine en_istore (f := fun x4 => [(4, vI x4), (0, vR l0), (1, vI l1), (2, vI l2), (3, vI l3)]) dX11_nextOrder_53 (by decide) rfl (fun x4 ex4 => ?_)
    have h := h x4 ex4
    refine eg_aload_n 1 dX11_nextOrder_55 rfl rfl ?_
    refine eg_iload_n 3 dX11_nextOrder_56 rfl rfl ?_
    refine eg_aload_n 1 dX11_nextOrder_57 rfl rfl ?_
    refine eg_iload_n 4 dX11_nextOrder_58 rfl rfl ?_
    refine eg_iaload dX11_nextOrder_59 (eg_arA hl0 g1) ?_
    refine en_iastore dX11_nextOrder_60 (eg_arA hl0 g2) (fun M5 eM5 => ?_)
    have h := h M5 eM5
    refine eg_aload_n 1 dX11_nextOrder_61 rfl rfl ?_
    refine eg_iload_n 4 dX11_nextOrder_62 rfl rfl ?_
    refine eg_iload 0 dX11_nextOrder_63 rfl ?_
    refine en_iastore dX11_nextOrder_65 (eg_arA hl0 g1) (fun M6 eM6 => ?_)
    have h := h M6 eM6
    refine eg_iload_n 3 dX11_nextOrder_66 rfl rfl ?_
    refine eg_iconst dX11_nextOrder_67 ic_1 ?_
    refine eg_iadd dX11_nextOrder_68 ?_
    refine en_istore (f := fun x7 => [(5, vI x7), (4, vI x4), (0, vR l0), (1, vI l1), (2, vI l2), (3, vI l3)]) dX11_nextOrder_69 (by decide) rfl (fun x7 ex7 => ?_)
    have h := h x7 ex7
    refine eg_iload_n 3 dX11_nextOrder_71 rfl rfl ?_
    refine eg_iconst dX11_nextOrder_72 ic_1 ?_
    refine eg_isub dX11_nextOrder_73 ?_
    refine en_istore (f := fun x8 => [(6, vI x8), (5, vI x7), (4, vI x4), (0, vR l0), (1, vI l1), (2, vI l2), (3, vI l3)]) dX11_nextOrder_74 (by decide) rfl (fun x8 ex8 => ?_)
    have h := h x8 ex8
    refine eg_sub [3, 1, 0] rfl ?_
    exact h
  · have h := h.2 c3
    refine en_iinc (f := fun x9 => [(3, vI x9), (0, vR l0), (1, vI l1), (2, vI l2)]) 3 dX11_nextOrder_44 rfl rfl (by decide) rfl (fun x9 ex9 => ?_)
    have h := h x9 ex9
    refine eg_goto (tgt := 35) dX11_nextOrder_47 rfl ?_
    refine eg_sub [1, 2, 3, 0] rfl ?_
    exact h
set_option maxRecDepth 10000 in
theorem vX11_nextOrder_76 {κ : eg_K} {d : Nat} {post : Int32 → eg_H → Prop} (M : eg_H) {l0 : eg_R} {nl0 : Nat} (hl0 : l0 ∈ gM.1 ∧ gM.2.1 l0 = (1, nl0)) (l5 : Int32) (l6 : Int32) (h : (l6 ≤ l5 → post (1 : Int32) M) ∧ ((¬ l6 ≤ l5) → (vp_in l5 nl0 ∧ (∀ x3 : Int32, x3 = (M.1 l0 l5.toNatClampNeg) → (vp_in l6 nl0 ∧ (∀ M5 : eg_H, M5 = (sI M l0 l5.toNatClampNeg (M.1 l0 l6.toNatClampNeg)) → (∀ M6 : eg_H, M6 = (sI M5 l0 l6.toNatClampNeg x3) → (∀ x7 : Int32, x7 = (l5 + (1 : Int32)) → (∀ x8 : Int32, x8 = (l6 + (-1 : Int32)) → eg_W κ gM mtX11_nextOrder d (eQI κ gM post) 76 [(0, vR l0), (5, vI x7), (6, vI x8)] [] M6))))))))) : eg_W κ gM mtX11_nextOrder d (eQI κ gM post) 76 [(0, vR l0), (5, vI l5), (6, vI l6)] [] M := by
  refine eg_iload 1 dX11_nextOrder_76 rfl ?_
  refine eg_iload 2 dX11_nextOrder_78 rfl ?_
  refine eg_icmp_ge (tgt := 112) dX11_nextOrder_80 rfl (fun c1 => ?_) (fun c1 => ?_)
  · have h := h.1 c1
    refine eg_iconst dX11_nextOrder_112 ic_1 ?_
    exact eg_zreturn dX11_nextOrder_113 rfl (Or.inr rfl) h
  · have h := h.2 c1
    refine eg_aload_n 0 dX11_nextOrder_83 rfl rfl ?_
    refine eg_iload 1 dX11_nextOrder_84 rfl ?_
    obtain ⟨g2, h⟩ := h
    refine eg_iaload dX11_nextOrder_86 (eg_arA hl0 g2) ?_
    refine en_istore (f := fun x3 => [(4, vI x3), (0, vR l0), (5, vI l5), (6, vI l6)]) dX11_nextOrder_87 (by decide) rfl (fun x3 ex3 => ?_)
    have h := h x3 ex3
    refine eg_aload_n 1 dX11_nextOrder_89 rfl rfl ?_
    refine eg_iload 2 dX11_nextOrder_90 rfl ?_
    refine eg_aload_n 1 dX11_nextOrder_92 rfl rfl ?_
    refine eg_iload 3 dX11_nextOrder_93 rfl ?_
    obtain ⟨g4, h⟩ := h
    refine eg_iaload dX11_nextOrder_95 (eg_arA hl0 g4) ?_
    refine en_iastore dX11_nextOrder_96 (eg_arA hl0 g2) (fun M5 eM5 => ?_)
    have h := h M5 eM5
    refine eg_aload_n 1 dX11_nextOrder_97 rfl rfl ?_
    refine eg_iload 3 dX11_nextOrder_98 rfl ?_
    refine eg_iload 0 dX11_nextOrder_100 rfl ?_
    refine en_iastore dX11_nextOrder_102 (eg_arA hl0 g4) (fun M6 eM6 => ?_)
    have h := h M6 eM6
    refine en_iinc (f := fun x7 => [(5, vI x7), (4, vI x3), (0, vR l0), (6, vI l6)]) 2 dX11_nextOrder_103 rfl rfl (by decide) rfl (fun x7 ex7 => ?_)
    have h := h x7 ex7
    refine en_iinc (f := fun x8 => [(6, vI x8), (5, vI x7), (4, vI x3), (0, vR l0)]) 3 dX11_nextOrder_106 rfl rfl (by decide) rfl (fun x8 ex8 => ?_)
    have h := h x8 ex8
    refine eg_goto (tgt := 76) dX11_nextOrder_109 rfl ?_
    refine eg_sub [3, 1, 0] rfl ?_
    exact h
theorem dX11_best_0 : decode cX11_best 0 = .ok (.aload_n 0, 1) := by decide +kernel
theorem dX11_best_1 : decode cX11_best 1 = .ok (.iconst 0, 1) := by decide +kernel
theorem dX11_best_2 : decode cX11_best 2 = .ok (.putfield 127, 3) := by decide +kernel
theorem dX11_best_5 : decode cX11_best 5 = .ok (.aload_n 0, 1) := by decide +kernel
theorem dX11_best_6 : decode cX11_best 6 = .ok (.getfield 209, 3) := by decide +kernel
theorem dX11_best_9 : decode cX11_best 9 = .ok (.ifCond .eq 22, 3) := by decide +kernel
theorem dX11_best_12 : decode cX11_best 12 = .ok (.iload_n 1, 1) := by decide +kernel
theorem dX11_best_13 : decode cX11_best 13 = .ok (.invokestatic 487, 3) := by decide +kernel
theorem dX11_best_16 : decode cX11_best 16 = .ok (.ifCond .eq 15, 3) := by decide +kernel
theorem dX11_best_19 : decode cX11_best 19 = .ok (.iload_n 2, 1) := by decide +kernel
theorem dX11_best_20 : decode cX11_best 20 = .ok (.iconst 0, 1) := by decide +kernel
theorem dX11_best_21 : decode cX11_best 21 = .ok (.aload_n 0, 1) := by decide +kernel
theorem dX11_best_22 : decode cX11_best 22 = .ok (.getfield 209, 3) := by decide +kernel
theorem dX11_best_25 : decode cX11_best 25 = .ok (.invokestatic 171, 3) := by decide +kernel
theorem dX11_best_28 : decode cX11_best 28 = .ok (.ifCond .ne 5, 3) := by decide +kernel
theorem dX11_best_31 : decode cX11_best 31 = .ok (.iconst (-1), 1) := by decide +kernel
theorem dX11_best_32 : decode cX11_best 32 = .ok (.ireturn, 1) := by decide +kernel
theorem dX11_best_33 : decode cX11_best 33 = .ok (.iconst 0, 1) := by decide +kernel
theorem dX11_best_34 : decode cX11_best 34 = .ok (.istore_n 3, 1) := by decide +kernel
theorem dX11_best_35 : decode cX11_best 35 = .ok (.iload_n 3, 1) := by decide +kernel
theorem dX11_best_36 : decode cX11_best 36 = .ok (.iconst 5, 1) := by decide +kernel
theorem dX11_best_37 : decode cX11_best 37 = .ok (.if_icmp .ge 16, 3) := by decide +kernel
theorem dX11_best_40 : decode cX11_best 40 = .ok (.aload_n 0, 1) := by decide +kernel
theorem dX11_best_41 : decode cX11_best 41 = .ok (.getfield 94, 3) := by decide +kernel
theorem dX11_best_44 : decode cX11_best 44 = .ok (.iload_n 3, 1) := by decide +kernel
theorem dX11_best_45 : decode cX11_best 45 = .ok (.iload_n 3, 1) := by decide +kernel
theorem dX11_best_46 : decode cX11_best 46 = .ok (.iastore, 1) := by decide +kernel
theorem dX11_best_47 : decode cX11_best 47 = .ok (.iinc 3 1, 3) := by decide +kernel
theorem dX11_best_50 : decode cX11_best 50 = .ok (.goto (-15), 3) := by decide +kernel
theorem dX11_best_53 : decode cX11_best 53 = .ok (.iconst (-1), 1) := by decide +kernel
theorem dX11_best_54 : decode cX11_best 54 = .ok (.istore_n 3, 1) := by decide +kernel
theorem dX11_best_55 : decode cX11_best 55 = .ok (.iconst 1, 1) := by decide +kernel
theorem dX11_best_56 : decode cX11_best 56 = .ok (.istore 4, 2) := by decide +kernel
theorem dX11_best_58 : decode cX11_best 58 = .ok (.iload 4, 2) := by decide +kernel
theorem dX11_best_60 : decode cX11_best 60 = .ok (.ifCond .eq 106, 3) := by decide +kernel
theorem dX11_best_63 : decode cX11_best 63 = .ok (.aload_n 0, 1) := by decide +kernel
theorem dX11_best_64 : decode cX11_best 64 = .ok (.invokevirtual 243, 3) := by decide +kernel
theorem dX11_best_67 : decode cX11_best 67 = .ok (.iconst 0, 1) := by decide +kernel
theorem dX11_best_68 : decode cX11_best 68 = .ok (.istore 5, 2) := by decide +kernel
theorem dX11_best_70 : decode cX11_best 70 = .ok (.iload 5, 2) := by decide +kernel
theorem dX11_best_72 : decode cX11_best 72 = .ok (.iconst 5, 1) := by decide +kernel
theorem dX11_best_73 : decode cX11_best 73 = .ok (.if_icmp .ge 23, 3) := by decide +kernel
theorem dX11_best_76 : decode cX11_best 76 = .ok (.aload_n 0, 1) := by decide +kernel
theorem dX11_best_77 : decode cX11_best 77 = .ok (.getfield 81, 3) := by decide +kernel
theorem dX11_best_80 : decode cX11_best 80 = .ok (.iload 5, 2) := by decide +kernel
theorem dX11_best_82 : decode cX11_best 82 = .ok (.aload_n 0, 1) := by decide +kernel
theorem dX11_best_83 : decode cX11_best 83 = .ok (.getfield 94, 3) := by decide +kernel
theorem dX11_best_86 : decode cX11_best 86 = .ok (.iload 5, 2) := by decide +kernel
theorem dX11_best_88 : decode cX11_best 88 = .ok (.iaload, 1) := by decide +kernel
theorem dX11_best_89 : decode cX11_best 89 = .ok (.iastore, 1) := by decide +kernel
theorem dX11_best_90 : decode cX11_best 90 = .ok (.iinc 5 1, 3) := by decide +kernel
theorem dX11_best_93 : decode cX11_best 93 = .ok (.goto (-23), 3) := by decide +kernel
theorem dX11_best_96 : decode cX11_best 96 = .ok (.aload_n 0, 1) := by decide +kernel
theorem dX11_best_97 : decode cX11_best 97 = .ok (.iload_n 1, 1) := by decide +kernel
theorem dX11_best_98 : decode cX11_best 98 = .ok (.invokevirtual 490, 3) := by decide +kernel
theorem dX11_best_101 : decode cX11_best 101 = .ok (.aload_n 0, 1) := by decide +kernel
theorem dX11_best_102 : decode cX11_best 102 = .ok (.iconst (-1), 1) := by decide +kernel
theorem dX11_best_103 : decode cX11_best 103 = .ok (.invokevirtual 493, 3) := by decide +kernel
theorem dX11_best_106 : decode cX11_best 106 = .ok (.istore 5, 2) := by decide +kernel
theorem dX11_best_108 : decode cX11_best 108 = .ok (.iload_n 3, 1) := by decide +kernel
theorem dX11_best_109 : decode cX11_best 109 = .ok (.ifCond .lt 9, 3) := by decide +kernel
theorem dX11_best_112 : decode cX11_best 112 = .ok (.iload 5, 2) := by decide +kernel
theorem dX11_best_114 : decode cX11_best 114 = .ok (.iload_n 3, 1) := by decide +kernel
theorem dX11_best_115 : decode cX11_best 115 = .ok (.if_icmp .ge 35, 3) := by decide +kernel
theorem dX11_best_118 : decode cX11_best 118 = .ok (.iload 5, 2) := by decide +kernel
theorem dX11_best_120 : decode cX11_best 120 = .ok (.istore_n 3, 1) := by decide +kernel
theorem dX11_best_121 : decode cX11_best 121 = .ok (.iconst 0, 1) := by decide +kernel
theorem dX11_best_122 : decode cX11_best 122 = .ok (.istore 6, 2) := by decide +kernel
theorem dX11_best_124 : decode cX11_best 124 = .ok (.iload 6, 2) := by decide +kernel
theorem dX11_best_126 : decode cX11_best 126 = .ok (.iconst 5, 1) := by decide +kernel
theorem dX11_best_127 : decode cX11_best 127 = .ok (.if_icmp .ge 23, 3) := by decide +kernel
theorem dX11_best_130 : decode cX11_best 130 = .ok (.aload_n 0, 1) := by decide +kernel
theorem dX11_best_131 : decode cX11_best 131 = .ok (.getfield 97, 3) := by decide +kernel
theorem dX11_best_134 : decode cX11_best 134 = .ok (.iload 6, 2) := by decide +kernel
theorem dX11_best_136 : decode cX11_best 136 = .ok (.aload_n 0, 1) := by decide +kernel
theorem dX11_best_137 : decode cX11_best 137 = .ok (.getfield 94, 3) := by decide +kernel
theorem dX11_best_140 : decode cX11_best 140 = .ok (.iload 6, 2) := by decide +kernel
theorem dX11_best_142 : decode cX11_best 142 = .ok (.iaload, 1) := by decide +kernel
theorem dX11_best_143 : decode cX11_best 143 = .ok (.iastore, 1) := by decide +kernel
theorem dX11_best_144 : decode cX11_best 144 = .ok (.iinc 6 1, 3) := by decide +kernel
theorem dX11_best_147 : decode cX11_best 147 = .ok (.goto (-23), 3) := by decide +kernel
theorem dX11_best_150 : decode cX11_best 150 = .ok (.aload_n 0, 1) := by decide +kernel
theorem dX11_best_151 : decode cX11_best 151 = .ok (.getfield 94, 3) := by decide +kernel
theorem dX11_best_154 : decode cX11_best 154 = .ok (.aload_n 0, 1) := by decide +kernel
theorem dX11_best_155 : decode cX11_best 155 = .ok (.getfield 209, 3) := by decide +kernel
theorem dX11_best_158 : decode cX11_best 158 = .ok (.invokestatic 500, 3) := by decide +kernel
theorem dX11_best_161 : decode cX11_best 161 = .ok (.istore 4, 2) := by decide +kernel
theorem dX11_best_163 : decode cX11_best 163 = .ok (.goto (-105), 3) := by decide +kernel
theorem dX11_best_166 : decode cX11_best 166 = .ok (.iload_n 2, 1) := by decide +kernel
theorem dX11_best_167 : decode cX11_best 167 = .ok (.ifCond .ne 7, 3) := by decide +kernel
theorem dX11_best_170 : decode cX11_best 170 = .ok (.iload_n 3, 1) := by decide +kernel
theorem dX11_best_171 : decode cX11_best 171 = .ok (.goto 11, 3) := by decide +kernel
theorem dX11_best_174 : decode cX11_best 174 = .ok (.aload_n 0, 1) := by decide +kernel
theorem dX11_best_175 : decode cX11_best 175 = .ok (.getfield 97, 3) := by decide +kernel
theorem dX11_best_178 : decode cX11_best 178 = .ok (.iload_n 2, 1) := by decide +kernel
theorem dX11_best_179 : decode cX11_best 179 = .ok (.iconst 1, 1) := by decide +kernel
theorem dX11_best_180 : decode cX11_best 180 = .ok (.isub, 1) := by decide +kernel
theorem dX11_best_181 : decode cX11_best 181 = .ok (.iaload, 1) := by decide +kernel
theorem dX11_best_182 : decode cX11_best 182 = .ok (.ireturn, 1) := by decide +kernel
set_option maxRecDepth 10000 in
theorem vX11_best_0 {κ : eg_K} {d : Nat} (hd : 2 ≤ d) {post : Int32 → eg_H → Prop} (M : eg_H) (l1 : Int32) (l2 : Int32) (h : (∀ M1 : eg_H, M1 = (sI M (60, 0) 2 (0 : Int32)) → ((M1.1 (60, 0) 12) = 0 → post (-1 : Int32) M1) ∧ ((¬ (M1.1 (60, 0) 12) = 0) → (∀ x4 : Int32, x4 = (fX11_isTime M1 l1) → (x4 = 0 → post (-1 : Int32) M1) ∧ ((¬ x4 = 0) → (∀ x7 : Int32, x7 = (fX11_isIn M1 l2 (0 : Int32) (M1.1 (60, 0) 12)) → ((¬ x7 = 0) → eg_W κ gM mtX11_best d (eQI κ gM post) 35 [(0, vR (60, 0)), (1, vI l1), (2, vI l2), (3, vI (0 : Int32))] [] M1) ∧ (x7 = 0 → post (-1 : Int32) M1))))))) : eg_W κ gM mtX11_best d (eQI κ gM post) 0 [(0, vR (60, 0)), (1, vI l1), (2, vI l2)] [] M := by
  refine eg_aload_n 0 dX11_best_0 rfl rfl ?_
  refine eg_iconst dX11_best_1 ic_0 ?_
  refine en_putI dX11_best_2 fl_11_127 rfl rfl (obM_60 z1) (fun M1 eM1 => ?_)
  have h := h M1 eM1
  refine eg_aload_n 0 dX11_best_5 rfl rfl ?_
  refine eg_getI dX11_best_6 fl_11_209 rfl trivial (obM_60 z1) ?_
  refine eg_if_eq (tgt := 31) dX11_best_9 rfl (fun c2 => ?_) (fun c2 => ?_)
  · have h := h.1 c2
    refine eg_iconst dX11_best_31 ic_m1 ?_
    exact eg_ireturn dX11_best_32 rfl h
  · have h := h.2 c2
    refine eg_iload_n 1 dX11_best_12 rfl rfl ?_
    refine eg_callSI (av := [vI l1]) (st := []) dX11_best_13 ml_11_487 rfl rfl (Nat.le_of_ble_eq_true rfl) (eg_dd (by omega)) (sX11_isTime (by omega) M1 l1  ) (fun x4 M3 hp => ?_)
    obtain ⟨ex4, eM3⟩ := hp
    rw [eM3]
    have h := h x4 ex4
    refine eg_if_eq (tgt := 31) dX11_best_16 rfl (fun c5 => ?_) (fun c5 => ?_)
    · have h := h.1 c5
      refine eg_iconst dX11_best_31 ic_m1 ?_
      exact eg_ireturn dX11_best_32 rfl h
    · have h := h.2 c5
      refine eg_iload_n 2 dX11_best_19 rfl rfl ?_
      refine eg_iconst dX11_best_20 ic_0 ?_
      refine eg_aload_n 0 dX11_best_21 rfl rfl ?_
      refine eg_getI dX11_best_22 fl_11_209 rfl trivial (obM_60 z1) ?_
      refine eg_callSI (av := [vI l2, vI (0 : Int32), vI (M1.1 (60, 0) 12)]) (st := []) dX11_best_25 ml_11_171 rfl rfl (Nat.le_of_ble_eq_true rfl) (eg_dd (by omega)) (sX11_isIn (by omega) M1 l2 (0 : Int32) (M1.1 (60, 0) 12)  ) (fun x7 M6 hp => ?_)
      obtain ⟨ex7, eM6⟩ := hp
      rw [eM6]
      have h := h x7 ex7
      refine eg_if_ne (tgt := 33) dX11_best_28 rfl (fun c8 => ?_) (fun c8 => ?_)
      · have h := h.1 c8
        refine eg_iconst dX11_best_33 ic_0 ?_
        refine eg_istore_n dX11_best_34 rfl (by decide) (ls1 := [(3, vI (0 : Int32)), (0, vR (60, 0)), (1, vI l1), (2, vI l2)]) rfl ?_
        refine eg_sub [1, 2, 3, 0] rfl ?_
        exact h
      · have h := h.2 c8
        refine eg_iconst dX11_best_31 ic_m1 ?_
        exact eg_ireturn dX11_best_32 rfl h
set_option maxRecDepth 10000 in
theorem vX11_best_35 {κ : eg_K} {d : Nat} {post : Int32 → eg_H → Prop} (M : eg_H) (l1 : Int32) (l2 : Int32) (l3 : Int32) (h : ((5 : Int32) ≤ l3 → eg_W κ gM mtX11_best d (eQI κ gM post) 58 [(0, vR (60, 0)), (1, vI l1), (2, vI l2), (3, vI (-1 : Int32)), (4, vI (1 : Int32))] [] M) ∧ ((¬ (5 : Int32) ≤ l3) → (vp_in l3 5 ∧ (∀ M3 : eg_H, M3 = (sI M (132, 0) l3.toNatClampNeg l3) → (∀ x4 : Int32, x4 = (l3 + (1 : Int32)) → eg_W κ gM mtX11_best d (eQI κ gM post) 35 [(0, vR (60, 0)), (1, vI l1), (2, vI l2), (3, vI x4)] [] M3))))) : eg_W κ gM mtX11_best d (eQI κ gM post) 35 [(0, vR (60, 0)), (1, vI l1), (2, vI l2), (3, vI l3)] [] M := by
  refine eg_iload_n 3 dX11_best_35 rfl rfl ?_
  refine eg_iconst dX11_best_36 ic_5 ?_
  refine eg_icmp_ge (tgt := 53) dX11_best_37 rfl (fun c1 => ?_) (fun c1 => ?_)
  · have h := h.1 c1
    refine eg_iconst dX11_best_53 ic_m1 ?_
    refine eg_istore_n dX11_best_54 rfl (by decide) (ls1 := [(3, vI (-1 : Int32)), (0, vR (60, 0)), (1, vI l1), (2, vI l2)]) rfl ?_
    refine eg_iconst dX11_best_55 ic_1 ?_
    refine eg_istore dX11_best_56 (by decide) (ls1 := [(4, vI (1 : Int32)), (3, vI (-1 : Int32)), (0, vR (60, 0)), (1, vI l1), (2, vI l2)]) rfl ?_
    refine eg_sub [2, 3, 4, 1, 0] rfl ?_
    exact h
  · have h := h.2 c1
    refine eg_aload_n 0 dX11_best_40 rfl rfl ?_
    refine eg_getR dX11_best_41 fl_11_94 rfl rfl (obM_60 z1) ?_
    show eg_W κ gM mtX11_best d (eQI κ gM post) 44 [(0, vR (60, 0)), (1, vI l1), (2, vI l2), (3, vI l3)] [vR (132, 0)] M
    refine eg_iload_n 3 dX11_best_44 rfl rfl ?_
    refine eg_iload_n 3 dX11_best_45 rfl rfl ?_
    obtain ⟨g2, h⟩ := h
    refine en_iastore dX11_best_46 (arM_132 z1 g2) (fun M3 eM3 => ?_)
    have h := h M3 eM3
    refine en_iinc (f := fun x4 => [(3, vI x4), (0, vR (60, 0)), (1, vI l1), (2, vI l2)]) 3 dX11_best_47 rfl rfl (by decide) rfl (fun x4 ex4 => ?_)
    have h := h x4 ex4
    refine eg_goto (tgt := 35) dX11_best_50 rfl ?_
    refine eg_sub [1, 2, 3, 0] rfl ?_
    exact h
set_option maxRecDepth 10000 in
theorem vX11_best_58 {κ : eg_K} {d : Nat} (hd : 1 ≤ d) {post : Int32 → eg_H → Prop} (M : eg_H) (l1 : Int32) (l2 : Int32) (l3 : Int32) (l4 : Int32) (h : (l4 = 0 → (((¬ l2 = 0) → vp_in (l2 - (1 : Int32)) 5) ∧ (∀ x3 : Int32, x3 = ((if (¬ l2 = 0) then (M.1 (133, 0) (l2 - (1 : Int32)).toNatClampNeg) else l3)) → post x3 M))) ∧ ((¬ l4 = 0) → (gX11_clears M ∧ (∀ M7 : eg_H, M7 = (fX11_clears M) → eg_W κ gM mtX11_best d (eQI κ gM post) 70 [(0, vR (60, 0)), (1, vI l1), (2, vI l2), (3, vI l3), (5, vI (0 : Int32))] [] M7)))) : eg_W κ gM mtX11_best d (eQI κ gM post) 58 [(0, vR (60, 0)), (1, vI l1), (2, vI l2), (3, vI l3), (4, vI l4)] [] M := by
  refine eg_iload 4 dX11_best_58 rfl ?_
  refine eg_if_eq (tgt := 166) dX11_best_60 rfl (fun c1 => ?_) (fun c1 => ?_)
  · have h := h.1 c1
    refine eg_iload_n 2 dX11_best_166 rfl rfl ?_
    obtain ⟨g2, h⟩ := h
    have J : ∀ x3 : Int32, x3 = (if (¬ l2 = 0) then (M.1 (133, 0) (l2 - (1 : Int32)).toNatClampNeg) else l3) → eg_W κ gM mtX11_best d (eQI κ gM post) 182 [(0, vR (60, 0)), (1, vI l1), (2, vI l2), (3, vI l3), (4, vI l4)] [vI x3] M := by
      intro x3 ex3
      have h := h x3 ex3
      exact eg_ireturn dX11_best_182 rfl h
    clear h
    refine eg_if_ne (tgt := 174) dX11_best_167 rfl (fun c4 => ?_) (fun c4 => ?_)
    · refine eg_aload_n 0 dX11_best_174 rfl rfl ?_
      refine eg_getR dX11_best_175 fl_11_97 rfl rfl (obM_60 z1) ?_
      show eg_W κ gM mtX11_best d (eQI κ gM post) 178 [(0, vR (60, 0)), (1, vI l1), (2, vI l2), (3, vI l3), (4, vI l4)] [vR (133, 0)] M
      refine eg_iload_n 2 dX11_best_178 rfl rfl ?_
      refine eg_iconst dX11_best_179 ic_1 ?_
      refine eg_isub dX11_best_180 ?_
      refine eg_iaload dX11_best_181 (arM_133 z1 (g2 c4)) ?_
      exact J _ (by rw [if_pos c4])
    · have c5 : ¬ (¬ l2 = 0) := fun z => z c4
      refine eg_iload_n 3 dX11_best_170 rfl rfl ?_
      refine eg_goto (tgt := 182) dX11_best_171 rfl ?_
      exact J _ (by rw [if_neg c5])
  · have h := h.2 c1
    refine eg_aload_n 0 dX11_best_63 rfl rfl ?_
    obtain ⟨g6, h⟩ := h
    refine eg_callVV (av := []) (st := []) dX11_best_64 ml_11_243 rfl rfl (obM_60 z1) (by decide) rfl (Nat.le_of_ble_eq_true rfl) (eg_dd (by omega)) (sX11_clears (by omega) M   g6) (fun M7 eM7 => ?_)
    have h := h M7 eM7
    refine eg_iconst dX11_best_67 ic_0 ?_
    refine eg_istore dX11_best_68 (by decide) (ls1 := [(5, vI (0 : Int32)), (0, vR (60, 0)), (1, vI l1), (2, vI l2), (3, vI l3), (4, vI l4)]) rfl ?_
    refine eg_sub [1, 2, 3, 4, 0] rfl ?_
    exact h
set_option maxRecDepth 10000 in
theorem vX11_best_70 {κ : eg_K} {d : Nat} (hd : 2 ≤ d) {post : Int32 → eg_H → Prop} (M : eg_H) (l1 : Int32) (l2 : Int32) (l3 : Int32) (l5 : Int32) (h : ((5 : Int32) ≤ l5 → eCV κ gM mtX11_runs d [vR (60, 0), vI l1] M (fun M2 => (gX11_waitedOf M2 (-1 : Int32) ∧ (∀ x6 : Int32, x6 = (fX11_waitedOf M2 (-1 : Int32)) → (l3 < 0 → eg_W κ gM mtX11_best d (eQI κ gM post) 124 [(0, vR (60, 0)), (1, vI l1), (2, vI l2), (3, vI x6), (6, vI (0 : Int32))] [] M2) ∧ ((¬ l3 < 0) → (l3 ≤ x6 → eCI κ gM mtX11_nextOrder d [vR (132, 0), vI (M2.1 (60, 0) 12)] M2 (fun x9 M10 => eg_W κ gM mtX11_best d (eQI κ gM post) 58 [(0, vR (60, 0)), (1, vI l1), (2, vI l2), (3, vI l3), (4, vI x9)] [] M10)) ∧ ((¬ l3 ≤ x6) → eg_W κ gM mtX11_best d (eQI κ gM post) 124 [(0, vR (60, 0)), (1, vI l1), (2, vI l2), (3, vI x6), (6, vI (0 : Int32))] [] M2)))))) ∧ ((¬ (5 : Int32) ≤ l5) → (vp_in l5 5 ∧ (∀ M13 : eg_H, M13 = (sI M (126, 0) l5.toNatClampNeg (M.1 (132, 0) l5.toNatClampNeg)) → (∀ x14 : Int32, x14 = (l5 + (1 : Int32)) → eg_W κ gM mtX11_best d (eQI κ gM post) 70 [(0, vR (60, 0)), (1, vI l1), (2, vI l2), (3, vI l3), (5, vI x14)] [] M13))))) : eg_W κ gM mtX11_best d (eQI κ gM post) 70 [(0, vR (60, 0)), (1, vI l1), (2, vI l2), (3, vI l3), (5, vI l5)] [] M := by
  refine eg_iload 4 dX11_best_70 rfl ?_
  refine eg_iconst dX11_best_72 ic_5 ?_
  refine eg_icmp_ge (tgt := 96) dX11_best_73 rfl (fun c1 => ?_) (fun c1 => ?_)
  · have h := h.1 c1
    refine eg_aload_n 0 dX11_best_96 rfl rfl ?_
    refine eg_iload_n 1 dX11_best_97 rfl rfl ?_
    obtain ⟨q3, hq3, h⟩ := h
    refine eg_callVV (av := [vI l1]) (st := []) dX11_best_98 ml_11_490 rfl rfl (obM_60 z1) (by decide) rfl (Nat.le_of_ble_eq_true rfl) (eg_dd (by omega)) hq3 (fun M2 hp => ?_)
    have h := h M2 hp
    refine eg_aload_n 0 dX11_best_101 rfl rfl ?_
    refine eg_iconst dX11_best_102 ic_m1 ?_
    obtain ⟨g4, h⟩ := h
    refine eg_callVI (av := [vI (-1 : Int32)]) (st := []) dX11_best_103 ml_11_493 rfl rfl (obM_60 z1) (by decide) rfl (Nat.le_of_ble_eq_true rfl) (eg_dd (by omega)) (sX11_waitedOf (by omega) M2 (-1 : Int32)  g4) (fun x6 M5 hp => ?_)
    obtain ⟨ex6, eM5⟩ := hp
    rw [eM5]
    have h := h x6 ex6
    refine eg_istore dX11_best_106 (by decide) (ls1 := [(5, vI x6), (0, vR (60, 0)), (1, vI l1), (2, vI l2), (3, vI l3)]) rfl ?_
    refine eg_iload_n 4 dX11_best_108 rfl rfl ?_
    refine eg_if_lt (tgt := 118) dX11_best_109 rfl (fun c7 => ?_) (fun c7 => ?_)
    · have h := h.1 c7
      refine eg_iload 0 dX11_best_118 rfl ?_
      refine eg_istore_n dX11_best_120 rfl (by decide) (ls1 := [(3, vI x6), (5, vI x6), (0, vR (60, 0)), (1, vI l1), (2, vI l2)]) rfl ?_
      refine eg_iconst dX11_best_121 ic_0 ?_
      refine eg_istore dX11_best_122 (by decide) (ls1 := [(6, vI (0 : Int32)), (3, vI x6), (5, vI x6), (0, vR (60, 0)), (1, vI l1), (2, vI l2)]) rfl ?_
      refine eg_sub [3, 4, 5, 1, 0] rfl ?_
      exact h
    · have h := h.2 c7
      refine eg_iload 0 dX11_best_112 rfl ?_
      refine eg_iload_n 4 dX11_best_114 rfl rfl ?_
      refine eg_icmp_ge (tgt := 150) dX11_best_115 rfl (fun c8 => ?_) (fun c8 => ?_)
      · have h := h.1 c8
        refine eg_aload_n 1 dX11_best_150 rfl rfl ?_
        refine eg_getR dX11_best_151 fl_11_94 rfl rfl (obM_60 z1) ?_
        show eg_W κ gM mtX11_best d (eQI κ gM post) 154 [(5, vI x6), (0, vR (60, 0)), (1, vI l1), (2, vI l2), (3, vI l3)] [vR (132, 0)] M2
        refine eg_aload_n 1 dX11_best_154 rfl rfl ?_
        refine eg_getI dX11_best_155 fl_11_209 rfl trivial (obM_60 z1) ?_
        obtain ⟨q11, hq11, h⟩ := h
        refine eg_callSI (av := [vR (132, 0), vI (M2.1 (60, 0) 12)]) (st := []) dX11_best_158 ml_11_500 rfl rfl (Nat.le_of_ble_eq_true rfl) (eg_dd (by omega)) hq11 (fun x9 M10 hp => ?_)
        have h := h x9 M10 hp
        refine eg_istore dX11_best_161 (by decide) (ls1 := [(4, vI x9), (5, vI x6), (0, vR (60, 0)), (1, vI l1), (2, vI l2), (3, vI l3)]) rfl ?_
        refine eg_goto (tgt := 58) dX11_best_163 rfl ?_
        refine eg_sub [2, 3, 4, 5, 0] rfl ?_
        exact h
      · have h := h.2 c8
        refine eg_iload 0 dX11_best_118 rfl ?_
        refine eg_istore_n dX11_best_120 rfl (by decide) (ls1 := [(3, vI x6), (5, vI x6), (0, vR (60, 0)), (1, vI l1), (2, vI l2)]) rfl ?_
        refine eg_iconst dX11_best_121 ic_0 ?_
        refine eg_istore dX11_best_122 (by decide) (ls1 := [(6, vI (0 : Int32)), (3, vI x6), (5, vI x6), (0, vR (60, 0)), (1, vI l1), (2, vI l2)]) rfl ?_
        refine eg_sub [3, 4, 5, 1, 0] rfl ?_
        exact h
  · have h := h.2 c1
    refine eg_aload_n 0 dX11_best_76 rfl rfl ?_
    refine eg_getR dX11_best_77 fl_11_81 rfl rfl (obM_60 z1) ?_
    show eg_W κ gM mtX11_best d (eQI κ gM post) 80 [(0, vR (60, 0)), (1, vI l1), (2, vI l2), (3, vI l3), (5, vI l5)] [vR (126, 0)] M
    refine eg_iload 4 dX11_best_80 rfl ?_
    refine eg_aload_n 0 dX11_best_82 rfl rfl ?_
    refine eg_getR dX11_best_83 fl_11_94 rfl rfl (obM_60 z1) ?_
    show eg_W κ gM mtX11_best d (eQI κ gM post) 86 [(0, vR (60, 0)), (1, vI l1), (2, vI l2), (3, vI l3), (5, vI l5)] [vR (132, 0), vI l5, vR (126, 0)] M
    refine eg_iload 4 dX11_best_86 rfl ?_
    obtain ⟨g12, h⟩ := h
    refine eg_iaload dX11_best_88 (arM_132 z1 g12) ?_
    refine en_iastore dX11_best_89 (arM_126 z1 g12) (fun M13 eM13 => ?_)
    have h := h M13 eM13
    refine en_iinc (f := fun x14 => [(5, vI x14), (0, vR (60, 0)), (1, vI l1), (2, vI l2), (3, vI l3)]) 4 dX11_best_90 rfl rfl (by decide) rfl (fun x14 ex14 => ?_)
    have h := h x14 ex14
    refine eg_goto (tgt := 70) dX11_best_93 rfl ?_
    refine eg_sub [1, 2, 3, 4, 0] rfl ?_
    exact h
set_option maxRecDepth 10000 in
theorem vX11_best_124 {κ : eg_K} {d : Nat} (hd : 1 ≤ d) {post : Int32 → eg_H → Prop} (M : eg_H) (l1 : Int32) (l2 : Int32) (l3 : Int32) (l6 : Int32) (h : ((5 : Int32) ≤ l6 → eCI κ gM mtX11_nextOrder d [vR (132, 0), vI (M.1 (60, 0) 12)] M (fun x2 M3 => eg_W κ gM mtX11_best d (eQI κ gM post) 58 [(0, vR (60, 0)), (1, vI l1), (2, vI l2), (3, vI l3), (4, vI x2)] [] M3)) ∧ ((¬ (5 : Int32) ≤ l6) → (vp_in l6 5 ∧ (∀ M6 : eg_H, M6 = (sI M (133, 0) l6.toNatClampNeg (M.1 (132, 0) l6.toNatClampNeg)) → (∀ x7 : Int32, x7 = (l6 + (1 : Int32)) → eg_W κ gM mtX11_best d (eQI κ gM post) 124 [(0, vR (60, 0)), (1, vI l1), (2, vI l2), (3, vI l3), (6, vI x7)] [] M6))))) : eg_W κ gM mtX11_best d (eQI κ gM post) 124 [(0, vR (60, 0)), (1, vI l1), (2, vI l2), (3, vI l3), (6, vI l6)] [] M := by
  refine eg_iload 4 dX11_best_124 rfl ?_
  refine eg_iconst dX11_best_126 ic_5 ?_
  refine eg_icmp_ge (tgt := 150) dX11_best_127 rfl (fun c1 => ?_) (fun c1 => ?_)
  · have h := h.1 c1
    refine eg_aload_n 0 dX11_best_150 rfl rfl ?_
    refine eg_getR dX11_best_151 fl_11_94 rfl rfl (obM_60 z1) ?_
    show eg_W κ gM mtX11_best d (eQI κ gM post) 154 [(0, vR (60, 0)), (1, vI l1), (2, vI l2), (3, vI l3), (6, vI l6)] [vR (132, 0)] M
    refine eg_aload_n 0 dX11_best_154 rfl rfl ?_
    refine eg_getI dX11_best_155 fl_11_209 rfl trivial (obM_60 z1) ?_
    obtain ⟨q4, hq4, h⟩ := h
    refine eg_callSI (av := [vR (132, 0), vI (M.1 (60, 0) 12)]) (st := []) dX11_best_158 ml_11_500 rfl rfl (Nat.le_of_ble_eq_true rfl) (eg_dd (by omega)) hq4 (fun x2 M3 hp => ?_)
    have h := h x2 M3 hp
    refine eg_istore dX11_best_161 (by decide) (ls1 := [(4, vI x2), (0, vR (60, 0)), (1, vI l1), (2, vI l2), (3, vI l3), (6, vI l6)]) rfl ?_
    refine eg_goto (tgt := 58) dX11_best_163 rfl ?_
    refine eg_sub [1, 2, 3, 4, 0] rfl ?_
    exact h
  · have h := h.2 c1
    refine eg_aload_n 0 dX11_best_130 rfl rfl ?_
    refine eg_getR dX11_best_131 fl_11_97 rfl rfl (obM_60 z1) ?_
    show eg_W κ gM mtX11_best d (eQI κ gM post) 134 [(0, vR (60, 0)), (1, vI l1), (2, vI l2), (3, vI l3), (6, vI l6)] [vR (133, 0)] M
    refine eg_iload 4 dX11_best_134 rfl ?_
    refine eg_aload_n 0 dX11_best_136 rfl rfl ?_
    refine eg_getR dX11_best_137 fl_11_94 rfl rfl (obM_60 z1) ?_
    show eg_W κ gM mtX11_best d (eQI κ gM post) 140 [(0, vR (60, 0)), (1, vI l1), (2, vI l2), (3, vI l3), (6, vI l6)] [vR (132, 0), vI l6, vR (133, 0)] M
    refine eg_iload 4 dX11_best_140 rfl ?_
    obtain ⟨g5, h⟩ := h
    refine eg_iaload dX11_best_142 (arM_132 z1 g5) ?_
    refine en_iastore dX11_best_143 (arM_133 z1 g5) (fun M6 eM6 => ?_)
    have h := h M6 eM6
    refine en_iinc (f := fun x7 => [(6, vI x7), (0, vR (60, 0)), (1, vI l1), (2, vI l2), (3, vI l3)]) 4 dX11_best_144 rfl rfl (by decide) rfl (fun x7 ex7 => ?_)
    have h := h x7 ex7
    refine eg_goto (tgt := 124) dX11_best_147 rfl ?_
    refine eg_sub [1, 2, 3, 4, 0] rfl ?_
    exact h
theorem dX11_takenAt_0 : decode cX11_takenAt 0 = .ok (.aload_n 0, 1) := by decide +kernel
theorem dX11_takenAt_1 : decode cX11_takenAt 1 = .ok (.invokevirtual 243, 3) := by decide +kernel
theorem dX11_takenAt_4 : decode cX11_takenAt 4 = .ok (.iload_n 2, 1) := by decide +kernel
theorem dX11_takenAt_5 : decode cX11_takenAt 5 = .ok (.ifCond .eq 7, 3) := by decide +kernel
theorem dX11_takenAt_8 : decode cX11_takenAt 8 = .ok (.iconst 1, 1) := by decide +kernel
theorem dX11_takenAt_9 : decode cX11_takenAt 9 = .ok (.goto 4, 3) := by decide +kernel
theorem dX11_takenAt_12 : decode cX11_takenAt 12 = .ok (.iconst 0, 1) := by decide +kernel
theorem dX11_takenAt_13 : decode cX11_takenAt 13 = .ok (.istore 4, 2) := by decide +kernel
theorem dX11_takenAt_15 : decode cX11_takenAt 15 = .ok (.iconst 0, 1) := by decide +kernel
theorem dX11_takenAt_16 : decode cX11_takenAt 16 = .ok (.istore 5, 2) := by decide +kernel
theorem dX11_takenAt_18 : decode cX11_takenAt 18 = .ok (.iload 5, 2) := by decide +kernel
theorem dX11_takenAt_20 : decode cX11_takenAt 20 = .ok (.aload_n 0, 1) := by decide +kernel
theorem dX11_takenAt_21 : decode cX11_takenAt 21 = .ok (.getfield 209, 3) := by decide +kernel
theorem dX11_takenAt_24 : decode cX11_takenAt 24 = .ok (.if_icmp .ge 40, 3) := by decide +kernel
theorem dX11_takenAt_27 : decode cX11_takenAt 27 = .ok (.aload_n 0, 1) := by decide +kernel
theorem dX11_takenAt_28 : decode cX11_takenAt 28 = .ok (.getfield 75, 3) := by decide +kernel
theorem dX11_takenAt_31 : decode cX11_takenAt 31 = .ok (.iload 5, 2) := by decide +kernel
theorem dX11_takenAt_33 : decode cX11_takenAt 33 = .ok (.iaload, 1) := by decide +kernel
theorem dX11_takenAt_34 : decode cX11_takenAt 34 = .ok (.iload_n 1, 1) := by decide +kernel
theorem dX11_takenAt_35 : decode cX11_takenAt 35 = .ok (.if_icmp .ne 6, 3) := by decide +kernel
theorem dX11_takenAt_38 : decode cX11_takenAt 38 = .ok (.goto 20, 3) := by decide +kernel
theorem dX11_takenAt_41 : decode cX11_takenAt 41 = .ok (.aload_n 0, 1) := by decide +kernel
theorem dX11_takenAt_42 : decode cX11_takenAt 42 = .ok (.getfield 81, 3) := by decide +kernel
theorem dX11_takenAt_45 : decode cX11_takenAt 45 = .ok (.iload 4, 2) := by decide +kernel
theorem dX11_takenAt_47 : decode cX11_takenAt 47 = .ok (.aload_n 0, 1) := by decide +kernel
theorem dX11_takenAt_48 : decode cX11_takenAt 48 = .ok (.getfield 75, 3) := by decide +kernel
theorem dX11_takenAt_51 : decode cX11_takenAt 51 = .ok (.iload 5, 2) := by decide +kernel
theorem dX11_takenAt_53 : decode cX11_takenAt 53 = .ok (.iaload, 1) := by decide +kernel
theorem dX11_takenAt_54 : decode cX11_takenAt 54 = .ok (.iastore, 1) := by decide +kernel
theorem dX11_takenAt_55 : decode cX11_takenAt 55 = .ok (.iinc 4 1, 3) := by decide +kernel
theorem dX11_takenAt_58 : decode cX11_takenAt 58 = .ok (.iinc 5 1, 3) := by decide +kernel
theorem dX11_takenAt_61 : decode cX11_takenAt 61 = .ok (.goto (-43), 3) := by decide +kernel
theorem dX11_takenAt_64 : decode cX11_takenAt 64 = .ok (.aload_n 0, 1) := by decide +kernel
theorem dX11_takenAt_65 : decode cX11_takenAt 65 = .ok (.getfield 81, 3) := by decide +kernel
theorem dX11_takenAt_68 : decode cX11_takenAt 68 = .ok (.iload_n 2, 1) := by decide +kernel
theorem dX11_takenAt_69 : decode cX11_takenAt 69 = .ok (.ifCond .eq 7, 3) := by decide +kernel
theorem dX11_takenAt_72 : decode cX11_takenAt 72 = .ok (.iconst 0, 1) := by decide +kernel
theorem dX11_takenAt_73 : decode cX11_takenAt 73 = .ok (.goto 9, 3) := by decide +kernel
theorem dX11_takenAt_76 : decode cX11_takenAt 76 = .ok (.aload_n 0, 1) := by decide +kernel
theorem dX11_takenAt_77 : decode cX11_takenAt 77 = .ok (.getfield 209, 3) := by decide +kernel
theorem dX11_takenAt_80 : decode cX11_takenAt 80 = .ok (.iconst 1, 1) := by decide +kernel
theorem dX11_takenAt_81 : decode cX11_takenAt 81 = .ok (.isub, 1) := by decide +kernel
theorem dX11_takenAt_82 : decode cX11_takenAt 82 = .ok (.iload_n 1, 1) := by decide +kernel
theorem dX11_takenAt_83 : decode cX11_takenAt 83 = .ok (.iastore, 1) := by decide +kernel
theorem dX11_takenAt_84 : decode cX11_takenAt 84 = .ok (.aload_n 0, 1) := by decide +kernel
theorem dX11_takenAt_85 : decode cX11_takenAt 85 = .ok (.iload_n 3, 1) := by decide +kernel
theorem dX11_takenAt_86 : decode cX11_takenAt 86 = .ok (.invokevirtual 490, 3) := by decide +kernel
theorem dX11_takenAt_89 : decode cX11_takenAt 89 = .ok (.aload_n 0, 1) := by decide +kernel
theorem dX11_takenAt_90 : decode cX11_takenAt 90 = .ok (.getfield 69, 3) := by decide +kernel
theorem dX11_takenAt_93 : decode cX11_takenAt 93 = .ok (.iload_n 1, 1) := by decide +kernel
theorem dX11_takenAt_94 : decode cX11_takenAt 94 = .ok (.invokestatic 377, 3) := by decide +kernel
theorem dX11_takenAt_97 : decode cX11_takenAt 97 = .ok (.iconst 3, 1) := by decide +kernel
theorem dX11_takenAt_98 : decode cX11_takenAt 98 = .ok (.iadd, 1) := by decide +kernel
theorem dX11_takenAt_99 : decode cX11_takenAt 99 = .ok (.iaload, 1) := by decide +kernel
theorem dX11_takenAt_100 : decode cX11_takenAt 100 = .ok (.ireturn, 1) := by decide +kernel
set_option maxRecDepth 10000 in
theorem vX11_takenAt_0 {κ : eg_K} {d : Nat} (hd : 1 ≤ d) {post : Int32 → eg_H → Prop} (M : eg_H) (l1 : Int32) (l2 : Int32) (l3 : Int32) (h : (gX11_clears M ∧ (∀ M2 : eg_H, M2 = (fX11_clears M) → (∀ x4 : Int32, x4 = ((if l2 = 0 then (0 : Int32) else (1 : Int32))) → eg_W κ gM mtX11_takenAt d (eQI κ gM post) 18 [(0, vR (60, 0)), (1, vI l1), (2, vI l2), (3, vI l3), (4, vI x4), (5, vI (0 : Int32))] [] M2)))) : eg_W κ gM mtX11_takenAt d (eQI κ gM post) 0 [(0, vR (60, 0)), (1, vI l1), (2, vI l2), (3, vI l3)] [] M := by
  refine eg_aload_n 0 dX11_takenAt_0 rfl rfl ?_
  obtain ⟨g1, h⟩ := h
  refine eg_callVV (av := []) (st := []) dX11_takenAt_1 ml_11_243 rfl rfl (obM_60 z1) (by decide) rfl (Nat.le_of_ble_eq_true rfl) (eg_dd (by omega)) (sX11_clears (by omega) M   g1) (fun M2 eM2 => ?_)
  have h := h M2 eM2
  refine eg_iload_n 2 dX11_takenAt_4 rfl rfl ?_
  have J : ∀ x4 : Int32, x4 = (if l2 = 0 then (0 : Int32) else (1 : Int32)) → eg_W κ gM mtX11_takenAt d (eQI κ gM post) 13 [(0, vR (60, 0)), (1, vI l1), (2, vI l2), (3, vI l3)] [vI x4] M2 := by
    intro x4 ex4
    have h := h x4 ex4
    refine eg_istore dX11_takenAt_13 (by decide) (ls1 := [(4, vI x4), (0, vR (60, 0)), (1, vI l1), (2, vI l2), (3, vI l3)]) rfl ?_
    refine eg_iconst dX11_takenAt_15 ic_0 ?_
    refine eg_istore dX11_takenAt_16 (by decide) (ls1 := [(5, vI (0 : Int32)), (4, vI x4), (0, vR (60, 0)), (1, vI l1), (2, vI l2), (3, vI l3)]) rfl ?_
    refine eg_sub [2, 3, 4, 5, 1, 0] rfl ?_
    exact h
  clear h
  refine eg_if_eq (tgt := 12) dX11_takenAt_5 rfl (fun c5 => ?_) (fun c5 => ?_)
  · refine eg_iconst dX11_takenAt_12 ic_0 ?_
    exact J _ (by rw [if_pos c5])
  · refine eg_iconst dX11_takenAt_8 ic_1 ?_
    refine eg_goto (tgt := 13) dX11_takenAt_9 rfl ?_
    exact J _ (by rw [if_neg c5])
set_option maxRecDepth 10000 in
theorem vX11_takenAt_18 {κ : eg_K} {d : Nat} (hd : 1 ≤ d) {post : Int32 → eg_H → Prop} (M : eg_H) (l1 : Int32) (l2 : Int32) (l3 : Int32) (l4 : Int32) (l5 : Int32) (h : ((M.1 (60, 0) 12) ≤ l5 → (∀ x2 : Int32, x2 = ((if l2 = 0 then ((M.1 (60, 0) 12) - (1 : Int32)) else (0 : Int32))) → (vp_in x2 5 ∧ (∀ M4 : eg_H, M4 = (sI M (126, 0) x2.toNatClampNeg l1) → eCV κ gM mtX11_runs d [vR (60, 0), vI l3] M4 (fun M5 => (∀ x8 : Int32, x8 = (fX11_pan M5 l1) → (vp_in (x8 + (3 : Int32)) 366 ∧ post (M5.1 (110, 0) (x8 + (3 : Int32)).toNatClampNeg) M5))))))) ∧ ((¬ (M.1 (60, 0) 12) ≤ l5) → (vp_in l5 5 ∧ ((¬ (M.1 (112, 0) l5.toNatClampNeg) = l1) → (vp_in l4 5 ∧ (∀ M14 : eg_H, M14 = (sI M (126, 0) l4.toNatClampNeg (M.1 (112, 0) l5.toNatClampNeg)) → (∀ x15 : Int32, x15 = (l4 + (1 : Int32)) → (∀ x16 : Int32, x16 = (l5 + (1 : Int32)) → eg_W κ gM mtX11_takenAt d (eQI κ gM post) 18 [(0, vR (60, 0)), (1, vI l1), (2, vI l2), (3, vI l3), (4, vI x15), (5, vI x16)] [] M14))))) ∧ ((M.1 (112, 0) l5.toNatClampNeg) = l1 → (∀ x17 : Int32, x17 = (l5 + (1 : Int32)) → eg_W κ gM mtX11_takenAt d (eQI κ gM post) 18 [(0, vR (60, 0)), (1, vI l1), (2, vI l2), (3, vI l3), (4, vI l4), (5, vI x17)] [] M))))) : eg_W κ gM mtX11_takenAt d (eQI κ gM post) 18 [(0, vR (60, 0)), (1, vI l1), (2, vI l2), (3, vI l3), (4, vI l4), (5, vI l5)] [] M := by
  refine eg_iload 5 dX11_takenAt_18 rfl ?_
  refine eg_aload_n 0 dX11_takenAt_20 rfl rfl ?_
  refine eg_getI dX11_takenAt_21 fl_11_209 rfl trivial (obM_60 z1) ?_
  refine eg_icmp_ge (tgt := 64) dX11_takenAt_24 rfl (fun c1 => ?_) (fun c1 => ?_)
  · have h := h.1 c1
    refine eg_aload_n 0 dX11_takenAt_64 rfl rfl ?_
    refine eg_getR dX11_takenAt_65 fl_11_81 rfl rfl (obM_60 z1) ?_
    show eg_W κ gM mtX11_takenAt d (eQI κ gM post) 68 [(0, vR (60, 0)), (1, vI l1), (2, vI l2), (3, vI l3), (4, vI l4), (5, vI l5)] [vR (126, 0)] M
    refine eg_iload_n 2 dX11_takenAt_68 rfl rfl ?_
    have J : ∀ x2 : Int32, x2 = (if l2 = 0 then ((M.1 (60, 0) 12) - (1 : Int32)) else (0 : Int32)) → eg_W κ gM mtX11_takenAt d (eQI κ gM post) 82 [(0, vR (60, 0)), (1, vI l1), (2, vI l2), (3, vI l3), (4, vI l4), (5, vI l5)] [vI x2, vR (126, 0)] M := by
      intro x2 ex2
      have h := h x2 ex2
      refine eg_iload_n 1 dX11_takenAt_82 rfl rfl ?_
      obtain ⟨g3, h⟩ := h
      refine en_iastore dX11_takenAt_83 (arM_126 z1 g3) (fun M4 eM4 => ?_)
      have h := h M4 eM4
      refine eg_aload_n 0 dX11_takenAt_84 rfl rfl ?_
      refine eg_iload_n 3 dX11_takenAt_85 rfl rfl ?_
      obtain ⟨q6, hq6, h⟩ := h
      refine eg_callVV (av := [vI l3]) (st := []) dX11_takenAt_86 ml_11_490 rfl rfl (obM_60 z1) (by decide) rfl (Nat.le_of_ble_eq_true rfl) (eg_dd (by omega)) hq6 (fun M5 hp => ?_)
      have h := h M5 hp
      refine eg_aload_n 0 dX11_takenAt_89 rfl rfl ?_
      refine eg_getR dX11_takenAt_90 fl_11_69 rfl rfl (obM_60 z1) ?_
      show eg_W κ gM mtX11_takenAt d (eQI κ gM post) 93 [(0, vR (60, 0)), (1, vI l1), (2, vI l2), (3, vI l3), (4, vI l4), (5, vI l5)] [vR (110, 0)] M5
      refine eg_iload_n 1 dX11_takenAt_93 rfl rfl ?_
      refine eg_callSI (av := [vI l1]) (st := [vR (110, 0)]) dX11_takenAt_94 ml_11_377 rfl rfl (Nat.le_of_ble_eq_true rfl) (eg_dd (by omega)) (sX11_pan (by omega) M5 l1  ) (fun x8 M7 hp => ?_)
      obtain ⟨ex8, eM7⟩ := hp
      rw [eM7]
      have h := h x8 ex8
      refine eg_iconst dX11_takenAt_97 ic_3 ?_
      refine eg_iadd dX11_takenAt_98 ?_
      obtain ⟨g9, h⟩ := h
      refine eg_iaload dX11_takenAt_99 (arM_110 z1 g9) ?_
      exact eg_ireturn dX11_takenAt_100 rfl h
    clear h
    refine eg_if_eq (tgt := 76) dX11_takenAt_69 rfl (fun c10 => ?_) (fun c10 => ?_)
    · refine eg_aload_n 0 dX11_takenAt_76 rfl rfl ?_
      refine eg_getI dX11_takenAt_77 fl_11_209 rfl trivial (obM_60 z1) ?_
      refine eg_iconst dX11_takenAt_80 ic_1 ?_
      refine eg_isub dX11_takenAt_81 ?_
      exact J _ (by rw [if_pos c10])
    · refine eg_iconst dX11_takenAt_72 ic_0 ?_
      refine eg_goto (tgt := 82) dX11_takenAt_73 rfl ?_
      exact J _ (by rw [if_neg c10])
  · have h := h.2 c1
    refine eg_aload_n 0 dX11_takenAt_27 rfl rfl ?_
    refine eg_getR dX11_takenAt_28 fl_11_75 rfl rfl (obM_60 z1) ?_
    show eg_W κ gM mtX11_takenAt d (eQI κ gM post) 31 [(0, vR (60, 0)), (1, vI l1), (2, vI l2), (3, vI l3), (4, vI l4), (5, vI l5)] [vR (112, 0)] M
    refine eg_iload 5 dX11_takenAt_31 rfl ?_
    obtain ⟨g11, h⟩ := h
    refine eg_iaload dX11_takenAt_33 (arM_112 z1 g11) ?_
    refine eg_iload_n 1 dX11_takenAt_34 rfl rfl ?_
    refine eg_icmp_ne (tgt := 41) dX11_takenAt_35 rfl (fun c12 => ?_) (fun c12 => ?_)
    · have h := h.1 c12
      refine eg_aload_n 0 dX11_takenAt_41 rfl rfl ?_
      refine eg_getR dX11_takenAt_42 fl_11_81 rfl rfl (obM_60 z1) ?_
      show eg_W κ gM mtX11_takenAt d (eQI κ gM post) 45 [(0, vR (60, 0)), (1, vI l1), (2, vI l2), (3, vI l3), (4, vI l4), (5, vI l5)] [vR (126, 0)] M
      refine eg_iload 4 dX11_takenAt_45 rfl ?_
      refine eg_aload_n 0 dX11_takenAt_47 rfl rfl ?_
      refine eg_getR dX11_takenAt_48 fl_11_75 rfl rfl (obM_60 z1) ?_
      show eg_W κ gM mtX11_takenAt d (eQI κ gM post) 51 [(0, vR (60, 0)), (1, vI l1), (2, vI l2), (3, vI l3), (4, vI l4), (5, vI l5)] [vR (112, 0), vI l4, vR (126, 0)] M
      refine eg_iload 5 dX11_takenAt_51 rfl ?_
      refine eg_iaload dX11_takenAt_53 (arM_112 z1 g11) ?_
      obtain ⟨g13, h⟩ := h
      refine en_iastore dX11_takenAt_54 (arM_126 z1 g13) (fun M14 eM14 => ?_)
      have h := h M14 eM14
      refine en_iinc (f := fun x15 => [(4, vI x15), (0, vR (60, 0)), (1, vI l1), (2, vI l2), (3, vI l3), (5, vI l5)]) 4 dX11_takenAt_55 rfl rfl (by decide) rfl (fun x15 ex15 => ?_)
      have h := h x15 ex15
      refine en_iinc (f := fun x16 => [(5, vI x16), (4, vI x15), (0, vR (60, 0)), (1, vI l1), (2, vI l2), (3, vI l3)]) 5 dX11_takenAt_58 rfl rfl (by decide) rfl (fun x16 ex16 => ?_)
      have h := h x16 ex16
      refine eg_goto (tgt := 18) dX11_takenAt_61 rfl ?_
      refine eg_sub [2, 3, 4, 5, 1, 0] rfl ?_
      exact h
    · have h := h.2 c12
      refine eg_goto (tgt := 58) dX11_takenAt_38 rfl ?_
      refine en_iinc (f := fun x17 => [(5, vI x17), (0, vR (60, 0)), (1, vI l1), (2, vI l2), (3, vI l3), (4, vI l4)]) 5 dX11_takenAt_58 rfl rfl (by decide) rfl (fun x17 ex17 => ?_)
      have h := h x17 ex17
      refine eg_goto (tgt := 18) dX11_takenAt_61 rfl ?_
      refine eg_sub [1, 2, 3, 4, 5, 0] rfl ?_
      exact h
theorem dX11_seen_0 : decode cX11_seen 0 = .ok (.aload_n 0, 1) := by decide +kernel
theorem dX11_seen_1 : decode cX11_seen 1 = .ok (.iconst 0, 1) := by decide +kernel
theorem dX11_seen_2 : decode cX11_seen 2 = .ok (.putfield 127, 3) := by decide +kernel
theorem dX11_seen_5 : decode cX11_seen 5 = .ok (.aload_n 0, 1) := by decide +kernel
theorem dX11_seen_6 : decode cX11_seen 6 = .ok (.iload_n 1, 1) := by decide +kernel
theorem dX11_seen_7 : decode cX11_seen 7 = .ok (.invokevirtual 478, 3) := by decide +kernel
theorem dX11_seen_10 : decode cX11_seen 10 = .ok (.ifCond .eq 10, 3) := by decide +kernel
theorem dX11_seen_13 : decode cX11_seen 13 = .ok (.iload_n 2, 1) := by decide +kernel
theorem dX11_seen_14 : decode cX11_seen 14 = .ok (.invokestatic 487, 3) := by decide +kernel
theorem dX11_seen_17 : decode cX11_seen 17 = .ok (.ifCond .ne 7, 3) := by decide +kernel
theorem dX11_seen_20 : decode cX11_seen 20 = .ok (.ldc_w 496, 3) := by decide +kernel
theorem dX11_seen_23 : decode cX11_seen 23 = .ok (.ireturn, 1) := by decide +kernel
theorem dX11_seen_24 : decode cX11_seen 24 = .ok (.aload_n 0, 1) := by decide +kernel
theorem dX11_seen_25 : decode cX11_seen 25 = .ok (.iload_n 1, 1) := by decide +kernel
theorem dX11_seen_26 : decode cX11_seen 26 = .ok (.iconst 1, 1) := by decide +kernel
theorem dX11_seen_27 : decode cX11_seen 27 = .ok (.iload_n 2, 1) := by decide +kernel
theorem dX11_seen_28 : decode cX11_seen 28 = .ok (.invokevirtual 504, 3) := by decide +kernel
theorem dX11_seen_31 : decode cX11_seen 31 = .ok (.istore_n 3, 1) := by decide +kernel
theorem dX11_seen_32 : decode cX11_seen 32 = .ok (.iload_n 3, 1) := by decide +kernel
theorem dX11_seen_33 : decode cX11_seen 33 = .ok (.aload_n 0, 1) := by decide +kernel
theorem dX11_seen_34 : decode cX11_seen 34 = .ok (.iload_n 1, 1) := by decide +kernel
theorem dX11_seen_35 : decode cX11_seen 35 = .ok (.iconst 0, 1) := by decide +kernel
theorem dX11_seen_36 : decode cX11_seen 36 = .ok (.iload_n 2, 1) := by decide +kernel
theorem dX11_seen_37 : decode cX11_seen 37 = .ok (.invokevirtual 504, 3) := by decide +kernel
theorem dX11_seen_40 : decode cX11_seen 40 = .ok (.isub, 1) := by decide +kernel
theorem dX11_seen_41 : decode cX11_seen 41 = .ok (.ireturn, 1) := by decide +kernel
set_option maxRecDepth 10000 in
theorem vX11_seen_0 {κ : eg_K} {d : Nat} (hd : 2 ≤ d) {post : Int32 → eg_H → Prop} (M : eg_H) (l1 : Int32) (l2 : Int32) (h : (∀ M1 : eg_H, M1 = (sI M (60, 0) 2 (0 : Int32)) → (∀ x3 : Int32, x3 = (fX11_isStation M1 l1) → (x3 = 0 → post (-2147483648 : Int32) M1) ∧ ((¬ x3 = 0) → (∀ x6 : Int32, x6 = (fX11_isTime M1 l2) → ((¬ x6 = 0) → eCI κ gM mtX11_takenAt d [vR (60, 0), vI l1, vI (1 : Int32), vI l2] M1 (fun x8 M9 => eCI κ gM mtX11_takenAt d [vR (60, 0), vI l1, vI (0 : Int32), vI l2] M9 (fun x11 M12 => post (x8 - x11) M12))) ∧ (x6 = 0 → post (-2147483648 : Int32) M1)))))) : eg_W κ gM mtX11_seen d (eQI κ gM post) 0 [(0, vR (60, 0)), (1, vI l1), (2, vI l2)] [] M := by
  refine eg_aload_n 0 dX11_seen_0 rfl rfl ?_
  refine eg_iconst dX11_seen_1 ic_0 ?_
  refine en_putI dX11_seen_2 fl_11_127 rfl rfl (obM_60 z1) (fun M1 eM1 => ?_)
  have h := h M1 eM1
  refine eg_aload_n 0 dX11_seen_5 rfl rfl ?_
  refine eg_iload_n 1 dX11_seen_6 rfl rfl ?_
  refine eg_callVI (av := [vI l1]) (st := []) dX11_seen_7 ml_11_478 rfl rfl (obM_60 z1) (by decide) rfl (Nat.le_of_ble_eq_true rfl) (eg_dd (by omega)) (sX11_isStation (by omega) M1 l1  ) (fun x3 M2 hp => ?_)
  obtain ⟨ex3, eM2⟩ := hp
  rw [eM2]
  have h := h x3 ex3
  refine eg_if_eq (tgt := 20) dX11_seen_10 rfl (fun c4 => ?_) (fun c4 => ?_)
  · have h := h.1 c4
    refine eg_ldcw dX11_seen_20 kc_11_496 ?_
    exact eg_ireturn dX11_seen_23 rfl h
  · have h := h.2 c4
    refine eg_iload_n 2 dX11_seen_13 rfl rfl ?_
    refine eg_callSI (av := [vI l2]) (st := []) dX11_seen_14 ml_11_487 rfl rfl (Nat.le_of_ble_eq_true rfl) (eg_dd (by omega)) (sX11_isTime (by omega) M1 l2  ) (fun x6 M5 hp => ?_)
    obtain ⟨ex6, eM5⟩ := hp
    rw [eM5]
    have h := h x6 ex6
    refine eg_if_ne (tgt := 24) dX11_seen_17 rfl (fun c7 => ?_) (fun c7 => ?_)
    · have h := h.1 c7
      refine eg_aload_n 0 dX11_seen_24 rfl rfl ?_
      refine eg_iload_n 1 dX11_seen_25 rfl rfl ?_
      refine eg_iconst dX11_seen_26 ic_1 ?_
      refine eg_iload_n 2 dX11_seen_27 rfl rfl ?_
      obtain ⟨q10, hq10, h⟩ := h
      refine eg_callVI (av := [vI l1, vI (1 : Int32), vI l2]) (st := []) dX11_seen_28 ml_11_504 rfl rfl (obM_60 z1) (by decide) rfl (Nat.le_of_ble_eq_true rfl) (eg_dd (by omega)) hq10 (fun x8 M9 hp => ?_)
      have h := h x8 M9 hp
      refine eg_istore_n dX11_seen_31 rfl (by decide) (ls1 := [(3, vI x8), (0, vR (60, 0)), (1, vI l1), (2, vI l2)]) rfl ?_
      refine eg_iload_n 0 dX11_seen_32 rfl rfl ?_
      refine eg_aload_n 1 dX11_seen_33 rfl rfl ?_
      refine eg_iload_n 2 dX11_seen_34 rfl rfl ?_
      refine eg_iconst dX11_seen_35 ic_0 ?_
      refine eg_iload_n 3 dX11_seen_36 rfl rfl ?_
      obtain ⟨q13, hq13, h⟩ := h
      refine eg_callVI (av := [vI l1, vI (0 : Int32), vI l2]) (st := [vI x8]) dX11_seen_37 ml_11_504 rfl rfl (obM_60 z1) (by decide) rfl (Nat.le_of_ble_eq_true rfl) (eg_dd (by omega)) hq13 (fun x11 M12 hp => ?_)
      have h := h x11 M12 hp
      refine eg_isub dX11_seen_40 ?_
      exact eg_ireturn dX11_seen_41 rfl h
    · have h := h.2 c7
      refine eg_ldcw dX11_seen_20 kc_11_496 ?_
      exact eg_ireturn dX11_seen_23 rfl h
theorem dX11_plates_0 : decode cX11_plates 0 = .ok (.aload_n 0, 1) := by decide +kernel
theorem dX11_plates_1 : decode cX11_plates 1 = .ok (.iconst 0, 1) := by decide +kernel
theorem dX11_plates_2 : decode cX11_plates 2 = .ok (.putfield 127, 3) := by decide +kernel
theorem dX11_plates_5 : decode cX11_plates 5 = .ok (.iload_n 1, 1) := by decide +kernel
theorem dX11_plates_6 : decode cX11_plates 6 = .ok (.iconst 1, 1) := by decide +kernel
theorem dX11_plates_7 : decode cX11_plates 7 = .ok (.bipush 20, 2) := by decide +kernel
theorem dX11_plates_9 : decode cX11_plates 9 = .ok (.invokestatic 171, 3) := by decide +kernel
theorem dX11_plates_12 : decode cX11_plates 12 = .ok (.ifCond .eq 19, 3) := by decide +kernel
theorem dX11_plates_15 : decode cX11_plates 15 = .ok (.iload_n 2, 1) := by decide +kernel
theorem dX11_plates_16 : decode cX11_plates 16 = .ok (.invokestatic 487, 3) := by decide +kernel
theorem dX11_plates_19 : decode cX11_plates 19 = .ok (.ifCond .eq 12, 3) := by decide +kernel
theorem dX11_plates_22 : decode cX11_plates 22 = .ok (.iload_n 3, 1) := by decide +kernel
theorem dX11_plates_23 : decode cX11_plates 23 = .ok (.iconst 0, 1) := by decide +kernel
theorem dX11_plates_24 : decode cX11_plates 24 = .ok (.iconst 3, 1) := by decide +kernel
theorem dX11_plates_25 : decode cX11_plates 25 = .ok (.invokestatic 171, 3) := by decide +kernel
theorem dX11_plates_28 : decode cX11_plates 28 = .ok (.ifCond .ne 5, 3) := by decide +kernel
theorem dX11_plates_31 : decode cX11_plates 31 = .ok (.iconst (-1), 1) := by decide +kernel
theorem dX11_plates_32 : decode cX11_plates 32 = .ok (.ireturn, 1) := by decide +kernel
theorem dX11_plates_33 : decode cX11_plates 33 = .ok (.aload_n 0, 1) := by decide +kernel
theorem dX11_plates_34 : decode cX11_plates 34 = .ok (.invokevirtual 243, 3) := by decide +kernel
theorem dX11_plates_37 : decode cX11_plates 37 = .ok (.aload_n 0, 1) := by decide +kernel
theorem dX11_plates_38 : decode cX11_plates 38 = .ok (.iload_n 1, 1) := by decide +kernel
theorem dX11_plates_39 : decode cX11_plates 39 = .ok (.putfield 351, 3) := by decide +kernel
theorem dX11_plates_42 : decode cX11_plates 42 = .ok (.aload_n 0, 1) := by decide +kernel
theorem dX11_plates_43 : decode cX11_plates 43 = .ok (.iload_n 2, 1) := by decide +kernel
theorem dX11_plates_44 : decode cX11_plates 44 = .ok (.invokevirtual 490, 3) := by decide +kernel
theorem dX11_plates_47 : decode cX11_plates 47 = .ok (.iload_n 3, 1) := by decide +kernel
theorem dX11_plates_48 : decode cX11_plates 48 = .ok (.ifCond .ne 9, 3) := by decide +kernel
theorem dX11_plates_51 : decode cX11_plates 51 = .ok (.aload_n 0, 1) := by decide +kernel
theorem dX11_plates_52 : decode cX11_plates 52 = .ok (.iconst 5, 1) := by decide +kernel
theorem dX11_plates_53 : decode cX11_plates 53 = .ok (.invokevirtual 508, 3) := by decide +kernel
theorem dX11_plates_56 : decode cX11_plates 56 = .ok (.ireturn, 1) := by decide +kernel
theorem dX11_plates_57 : decode cX11_plates 57 = .ok (.iload_n 3, 1) := by decide +kernel
theorem dX11_plates_58 : decode cX11_plates 58 = .ok (.iconst 1, 1) := by decide +kernel
theorem dX11_plates_59 : decode cX11_plates 59 = .ok (.if_icmp .ne 10, 3) := by decide +kernel
theorem dX11_plates_62 : decode cX11_plates 62 = .ok (.aload_n 0, 1) := by decide +kernel
theorem dX11_plates_63 : decode cX11_plates 63 = .ok (.bipush 7, 2) := by decide +kernel
theorem dX11_plates_65 : decode cX11_plates 65 = .ok (.invokevirtual 508, 3) := by decide +kernel
theorem dX11_plates_68 : decode cX11_plates 68 = .ok (.ireturn, 1) := by decide +kernel
theorem dX11_plates_69 : decode cX11_plates 69 = .ok (.iload_n 3, 1) := by decide +kernel
theorem dX11_plates_70 : decode cX11_plates 70 = .ok (.iconst 3, 1) := by decide +kernel
theorem dX11_plates_71 : decode cX11_plates 71 = .ok (.if_icmp .ne 9, 3) := by decide +kernel
theorem dX11_plates_74 : decode cX11_plates 74 = .ok (.aload_n 0, 1) := by decide +kernel
theorem dX11_plates_75 : decode cX11_plates 75 = .ok (.iconst (-1), 1) := by decide +kernel
theorem dX11_plates_76 : decode cX11_plates 76 = .ok (.invokevirtual 493, 3) := by decide +kernel
theorem dX11_plates_79 : decode cX11_plates 79 = .ok (.ireturn, 1) := by decide +kernel
theorem dX11_plates_80 : decode cX11_plates 80 = .ok (.iconst 0, 1) := by decide +kernel
theorem dX11_plates_81 : decode cX11_plates 81 = .ok (.istore 4, 2) := by decide +kernel
theorem dX11_plates_83 : decode cX11_plates 83 = .ok (.iconst 0, 1) := by decide +kernel
theorem dX11_plates_84 : decode cX11_plates 84 = .ok (.istore 5, 2) := by decide +kernel
theorem dX11_plates_86 : decode cX11_plates 86 = .ok (.iload 5, 2) := by decide +kernel
theorem dX11_plates_88 : decode cX11_plates 88 = .ok (.aload_n 0, 1) := by decide +kernel
theorem dX11_plates_89 : decode cX11_plates 89 = .ok (.getfield 212, 3) := by decide +kernel
theorem dX11_plates_92 : decode cX11_plates 92 = .ok (.if_icmp .ge 50, 3) := by decide +kernel
theorem dX11_plates_95 : decode cX11_plates 95 = .ok (.iload 4, 2) := by decide +kernel
theorem dX11_plates_97 : decode cX11_plates 97 = .ok (.aload_n 0, 1) := by decide +kernel
theorem dX11_plates_98 : decode cX11_plates 98 = .ok (.getfield 69, 3) := by decide +kernel
theorem dX11_plates_101 : decode cX11_plates 101 = .ok (.iload 5, 2) := by decide +kernel
theorem dX11_plates_103 : decode cX11_plates 103 = .ok (.invokestatic 372, 3) := by decide +kernel
theorem dX11_plates_106 : decode cX11_plates 106 = .ok (.bipush 9, 2) := by decide +kernel
theorem dX11_plates_108 : decode cX11_plates 108 = .ok (.iadd, 1) := by decide +kernel
theorem dX11_plates_109 : decode cX11_plates 109 = .ok (.iaload, 1) := by decide +kernel
theorem dX11_plates_110 : decode cX11_plates 110 = .ok (.iconst 1, 1) := by decide +kernel
theorem dX11_plates_111 : decode cX11_plates 111 = .ok (.if_icmp .le 21, 3) := by decide +kernel
theorem dX11_plates_114 : decode cX11_plates 114 = .ok (.aload_n 0, 1) := by decide +kernel
theorem dX11_plates_115 : decode cX11_plates 115 = .ok (.getfield 69, 3) := by decide +kernel
theorem dX11_plates_118 : decode cX11_plates 118 = .ok (.iload 5, 2) := by decide +kernel
theorem dX11_plates_120 : decode cX11_plates 120 = .ok (.invokestatic 372, 3) := by decide +kernel
theorem dX11_plates_123 : decode cX11_plates 123 = .ok (.bipush 9, 2) := by decide +kernel
theorem dX11_plates_125 : decode cX11_plates 125 = .ok (.iadd, 1) := by decide +kernel
theorem dX11_plates_126 : decode cX11_plates 126 = .ok (.iaload, 1) := by decide +kernel
theorem dX11_plates_127 : decode cX11_plates 127 = .ok (.iconst 1, 1) := by decide +kernel
theorem dX11_plates_128 : decode cX11_plates 128 = .ok (.isub, 1) := by decide +kernel
theorem dX11_plates_129 : decode cX11_plates 129 = .ok (.goto 4, 3) := by decide +kernel
theorem dX11_plates_132 : decode cX11_plates 132 = .ok (.iconst 0, 1) := by decide +kernel
theorem dX11_plates_133 : decode cX11_plates 133 = .ok (.iadd, 1) := by decide +kernel
theorem dX11_plates_134 : decode cX11_plates 134 = .ok (.istore 4, 2) := by decide +kernel
theorem dX11_plates_136 : decode cX11_plates 136 = .ok (.iinc 5 1, 3) := by decide +kernel
theorem dX11_plates_139 : decode cX11_plates 139 = .ok (.goto (-53), 3) := by decide +kernel
theorem dX11_plates_142 : decode cX11_plates 142 = .ok (.iload 4, 2) := by decide +kernel
theorem dX11_plates_144 : decode cX11_plates 144 = .ok (.ireturn, 1) := by decide +kernel
set_option maxRecDepth 10000 in
theorem vX11_plates_0 {κ : eg_K} {d : Nat} (hd : 2 ≤ d) {post : Int32 → eg_H → Prop} (M : eg_H) (l1 : Int32) (l2 : Int32) (l3 : Int32) (h : (∀ M1 : eg_H, M1 = (sI M (60, 0) 2 (0 : Int32)) → (∀ x3 : Int32, x3 = (fX11_isIn M1 l1 (1 : Int32) (20 : Int32)) → (x3 = 0 → post (-1 : Int32) M1) ∧ ((¬ x3 = 0) → (∀ x6 : Int32, x6 = (fX11_isTime M1 l2) → (x6 = 0 → post (-1 : Int32) M1) ∧ ((¬ x6 = 0) → (∀ x9 : Int32, x9 = (fX11_isIn M1 l3 (0 : Int32) (3 : Int32)) → ((¬ x9 = 0) → (gX11_clears M1 ∧ (∀ M12 : eg_H, M12 = (fX11_clears M1) → (∀ M14 : eg_H, M14 = (sI M12 (60, 0) 59 l1) → eCV κ gM mtX11_runs d [vR (60, 0), vI l2] M14 (fun M15 => ((¬ l3 = 0) → ((¬ l3 = (1 : Int32)) → ((¬ l3 = (3 : Int32)) → eg_W κ gM mtX11_plates d (eQI κ gM post) 86 [(0, vR (60, 0)), (4, vI (0 : Int32)), (5, vI (0 : Int32))] [] M15) ∧ (l3 = (3 : Int32) → (gX11_waitedOf M15 (-1 : Int32) ∧ (∀ x22 : Int32, x22 = (fX11_waitedOf M15 (-1 : Int32)) → post x22 M15)))) ∧ (l3 = (1 : Int32) → (gX11_sumBy M15 (7 : Int32) ∧ (∀ x25 : Int32, x25 = (fX11_sumBy M15 (7 : Int32)) → post x25 M15)))) ∧ (l3 = 0 → (gX11_sumBy M15 (5 : Int32) ∧ (∀ x28 : Int32, x28 = (fX11_sumBy M15 (5 : Int32)) → post x28 M15)))))))) ∧ (x9 = 0 → post (-1 : Int32) M1)))))))) : eg_W κ gM mtX11_plates d (eQI κ gM post) 0 [(0, vR (60, 0)), (1, vI l1), (2, vI l2), (3, vI l3)] [] M := by
  refine eg_aload_n 0 dX11_plates_0 rfl rfl ?_
  refine eg_iconst dX11_plates_1 ic_0 ?_
  refine en_putI dX11_plates_2 fl_11_127 rfl rfl (obM_60 z1) (fun M1 eM1 => ?_)
  have h := h M1 eM1
  refine eg_iload_n 1 dX11_plates_5 rfl rfl ?_
  refine eg_iconst dX11_plates_6 ic_1 ?_
  refine eg_bipush dX11_plates_7 bp_20 ?_
  refine eg_callSI (av := [vI l1, vI (1 : Int32), vI (20 : Int32)]) (st := []) dX11_plates_9 ml_11_171 rfl rfl (Nat.le_of_ble_eq_true rfl) (eg_dd (by omega)) (sX11_isIn (by omega) M1 l1 (1 : Int32) (20 : Int32)  ) (fun x3 M2 hp => ?_)
  obtain ⟨ex3, eM2⟩ := hp
  rw [eM2]
  have h := h x3 ex3
  refine eg_if_eq (tgt := 31) dX11_plates_12 rfl (fun c4 => ?_) (fun c4 => ?_)
  · have h := h.1 c4
    refine eg_iconst dX11_plates_31 ic_m1 ?_
    exact eg_ireturn dX11_plates_32 rfl h
  · have h := h.2 c4
    refine eg_iload_n 2 dX11_plates_15 rfl rfl ?_
    refine eg_callSI (av := [vI l2]) (st := []) dX11_plates_16 ml_11_487 rfl rfl (Nat.le_of_ble_eq_true rfl) (eg_dd (by omega)) (sX11_isTime (by omega) M1 l2  ) (fun x6 M5 hp => ?_)
    obtain ⟨ex6, eM5⟩ := hp
    rw [eM5]
    have h := h x6 ex6
    refine eg_if_eq (tgt := 31) dX11_plates_19 rfl (fun c7 => ?_) (fun c7 => ?_)
    · have h := h.1 c7
      refine eg_iconst dX11_plates_31 ic_m1 ?_
      exact eg_ireturn dX11_plates_32 rfl h
    · have h := h.2 c7
      refine eg_iload_n 3 dX11_plates_22 rfl rfl ?_
      refine eg_iconst dX11_plates_23 ic_0 ?_
      refine eg_iconst dX11_plates_24 ic_3 ?_
      refine eg_callSI (av := [vI l3, vI (0 : Int32), vI (3 : Int32)]) (st := []) dX11_plates_25 ml_11_171 rfl rfl (Nat.le_of_ble_eq_true rfl) (eg_dd (by omega)) (sX11_isIn (by omega) M1 l3 (0 : Int32) (3 : Int32)  ) (fun x9 M8 hp => ?_)
      obtain ⟨ex9, eM8⟩ := hp
      rw [eM8]
      have h := h x9 ex9
      refine eg_if_ne (tgt := 33) dX11_plates_28 rfl (fun c10 => ?_) (fun c10 => ?_)
      · have h := h.1 c10
        refine eg_aload_n 0 dX11_plates_33 rfl rfl ?_
        obtain ⟨g11, h⟩ := h
        refine eg_callVV (av := []) (st := []) dX11_plates_34 ml_11_243 rfl rfl (obM_60 z1) (by decide) rfl (Nat.le_of_ble_eq_true rfl) (eg_dd (by omega)) (sX11_clears (by omega) M1   g11) (fun M12 eM12 => ?_)
        have h := h M12 eM12
        refine eg_aload_n 0 dX11_plates_37 rfl rfl ?_
        refine eg_iload_n 1 dX11_plates_38 rfl rfl ?_
        refine en_putI dX11_plates_39 fl_11_351 rfl rfl (obM_60 z1) (fun M14 eM14 => ?_)
        have h := h M14 eM14
        refine eg_aload_n 0 dX11_plates_42 rfl rfl ?_
        refine eg_iload_n 2 dX11_plates_43 rfl rfl ?_
        obtain ⟨q16, hq16, h⟩ := h
        refine eg_callVV (av := [vI l2]) (st := []) dX11_plates_44 ml_11_490 rfl rfl (obM_60 z1) (by decide) rfl (Nat.le_of_ble_eq_true rfl) (eg_dd (by omega)) hq16 (fun M15 hp => ?_)
        have h := h M15 hp
        refine eg_iload_n 3 dX11_plates_47 rfl rfl ?_
        refine eg_if_ne (tgt := 57) dX11_plates_48 rfl (fun c17 => ?_) (fun c17 => ?_)
        · have h := h.1 c17
          refine eg_iload_n 3 dX11_plates_57 rfl rfl ?_
          refine eg_iconst dX11_plates_58 ic_1 ?_
          refine eg_icmp_ne (tgt := 69) dX11_plates_59 rfl (fun c18 => ?_) (fun c18 => ?_)
          · have h := h.1 c18
            refine eg_iload_n 3 dX11_plates_69 rfl rfl ?_
            refine eg_iconst dX11_plates_70 ic_3 ?_
            refine eg_icmp_ne (tgt := 80) dX11_plates_71 rfl (fun c19 => ?_) (fun c19 => ?_)
            · have h := h.1 c19
              refine eg_iconst dX11_plates_80 ic_0 ?_
              refine eg_istore dX11_plates_81 (by decide) (ls1 := [(4, vI (0 : Int32)), (0, vR (60, 0)), (1, vI l1), (2, vI l2), (3, vI l3)]) rfl ?_
              refine eg_iconst dX11_plates_83 ic_0 ?_
              refine eg_istore dX11_plates_84 (by decide) (ls1 := [(5, vI (0 : Int32)), (4, vI (0 : Int32)), (0, vR (60, 0)), (1, vI l1), (2, vI l2), (3, vI l3)]) rfl ?_
              refine eg_sub [2, 1, 0] rfl ?_
              exact h
            · have h := h.2 c19
              refine eg_aload_n 0 dX11_plates_74 rfl rfl ?_
              refine eg_iconst dX11_plates_75 ic_m1 ?_
              obtain ⟨g20, h⟩ := h
              refine eg_callVI (av := [vI (-1 : Int32)]) (st := []) dX11_plates_76 ml_11_493 rfl rfl (obM_60 z1) (by decide) rfl (Nat.le_of_ble_eq_true rfl) (eg_dd (by omega)) (sX11_waitedOf (by omega) M15 (-1 : Int32)  g20) (fun x22 M21 hp => ?_)
              obtain ⟨ex22, eM21⟩ := hp
              rw [eM21]
              have h := h x22 ex22
              exact eg_ireturn dX11_plates_79 rfl h
          · have h := h.2 c18
            refine eg_aload_n 0 dX11_plates_62 rfl rfl ?_
            refine eg_bipush dX11_plates_63 bp_7 ?_
            obtain ⟨g23, h⟩ := h
            refine eg_callVI (av := [vI (7 : Int32)]) (st := []) dX11_plates_65 ml_11_508 rfl rfl (obM_60 z1) (by decide) rfl (Nat.le_of_ble_eq_true rfl) (eg_dd (by omega)) (sX11_sumBy (by omega) M15 (7 : Int32)  g23) (fun x25 M24 hp => ?_)
            obtain ⟨ex25, eM24⟩ := hp
            rw [eM24]
            have h := h x25 ex25
            exact eg_ireturn dX11_plates_68 rfl h
        · have h := h.2 c17
          refine eg_aload_n 0 dX11_plates_51 rfl rfl ?_
          refine eg_iconst dX11_plates_52 ic_5 ?_
          obtain ⟨g26, h⟩ := h
          refine eg_callVI (av := [vI (5 : Int32)]) (st := []) dX11_plates_53 ml_11_508 rfl rfl (obM_60 z1) (by decide) rfl (Nat.le_of_ble_eq_true rfl) (eg_dd (by omega)) (sX11_sumBy (by omega) M15 (5 : Int32)  g26) (fun x28 M27 hp => ?_)
          obtain ⟨ex28, eM27⟩ := hp
          rw [eM27]
          have h := h x28 ex28
          exact eg_ireturn dX11_plates_56 rfl h
      · have h := h.2 c10
        refine eg_iconst dX11_plates_31 ic_m1 ?_
        exact eg_ireturn dX11_plates_32 rfl h
set_option maxRecDepth 10000 in
theorem vX11_plates_86 {κ : eg_K} {d : Nat} (hd : 1 ≤ d) {post : Int32 → eg_H → Prop} (M : eg_H) (l4 : Int32) (l5 : Int32) (h : ((M.1 (60, 0) 13) ≤ l5 → post l4 M) ∧ ((¬ (M.1 (60, 0) 13) ≤ l5) → (∀ x3 : Int32, x3 = (fX11_at M l5) → (vp_in (x3 + (9 : Int32)) 366 ∧ ((M.1 (110, 0) (x3 + (9 : Int32)).toNatClampNeg) ≤ (1 : Int32) → (∀ x6 : Int32, x6 = (l4 + (0 : Int32)) → (∀ x7 : Int32, x7 = (l5 + (1 : Int32)) → eg_W κ gM mtX11_plates d (eQI κ gM post) 86 [(0, vR (60, 0)), (4, vI x6), (5, vI x7)] [] M))) ∧ ((¬ (M.1 (110, 0) (x3 + (9 : Int32)).toNatClampNeg) ≤ (1 : Int32)) → (∀ x9 : Int32, x9 = (fX11_at M l5) → (vp_in (x9 + (9 : Int32)) 366 ∧ (∀ x11 : Int32, x11 = (l4 + ((M.1 (110, 0) (x9 + (9 : Int32)).toNatClampNeg) - (1 : Int32))) → (∀ x12 : Int32, x12 = (l5 + (1 : Int32)) → eg_W κ gM mtX11_plates d (eQI κ gM post) 86 [(0, vR (60, 0)), (4, vI x11), (5, vI x12)] [] M))))))))) : eg_W κ gM mtX11_plates d (eQI κ gM post) 86 [(0, vR (60, 0)), (4, vI l4), (5, vI l5)] [] M := by
  refine eg_iload 2 dX11_plates_86 rfl ?_
  refine eg_aload_n 0 dX11_plates_88 rfl rfl ?_
  refine eg_getI dX11_plates_89 fl_11_212 rfl trivial (obM_60 z1) ?_
  refine eg_icmp_ge (tgt := 142) dX11_plates_92 rfl (fun c1 => ?_) (fun c1 => ?_)
  · have h := h.1 c1
    refine eg_iload 1 dX11_plates_142 rfl ?_
    exact eg_ireturn dX11_plates_144 rfl h
  · have h := h.2 c1
    refine eg_iload 1 dX11_plates_95 rfl ?_
    refine eg_aload_n 0 dX11_plates_97 rfl rfl ?_
    refine eg_getR dX11_plates_98 fl_11_69 rfl rfl (obM_60 z1) ?_
    show eg_W κ gM mtX11_plates d (eQI κ gM post) 101 [(0, vR (60, 0)), (4, vI l4), (5, vI l5)] [vR (110, 0), vI l4] M
    refine eg_iload 2 dX11_plates_101 rfl ?_
    refine eg_callSI (av := [vI l5]) (st := [vR (110, 0), vI l4]) dX11_plates_103 ml_11_372 rfl rfl (Nat.le_of_ble_eq_true rfl) (eg_dd (by omega)) (sX11_at (by omega) M l5  ) (fun x3 M2 hp => ?_)
    obtain ⟨ex3, eM2⟩ := hp
    rw [eM2]
    have h := h x3 ex3
    refine eg_bipush dX11_plates_106 bp_9 ?_
    refine eg_iadd dX11_plates_108 ?_
    obtain ⟨g4, h⟩ := h
    refine eg_iaload dX11_plates_109 (arM_110 z1 g4) ?_
    refine eg_iconst dX11_plates_110 ic_1 ?_
    refine eg_icmp_le (tgt := 132) dX11_plates_111 rfl (fun c5 => ?_) (fun c5 => ?_)
    · have h := h.1 c5
      refine eg_iconst dX11_plates_132 ic_0 ?_
      refine eg_iadd dX11_plates_133 ?_
      refine en_istore (f := fun x6 => [(4, vI x6), (0, vR (60, 0)), (5, vI l5)]) dX11_plates_134 (by decide) rfl (fun x6 ex6 => ?_)
      have h := h x6 ex6
      refine en_iinc (f := fun x7 => [(5, vI x7), (4, vI x6), (0, vR (60, 0))]) 2 dX11_plates_136 rfl rfl (by decide) rfl (fun x7 ex7 => ?_)
      have h := h x7 ex7
      refine eg_goto (tgt := 86) dX11_plates_139 rfl ?_
      refine eg_sub [2, 1, 0] rfl ?_
      exact h
    · have h := h.2 c5
      refine eg_aload_n 0 dX11_plates_114 rfl rfl ?_
      refine eg_getR dX11_plates_115 fl_11_69 rfl rfl (obM_60 z1) ?_
      show eg_W κ gM mtX11_plates d (eQI κ gM post) 118 [(0, vR (60, 0)), (4, vI l4), (5, vI l5)] [vR (110, 0), vI l4] M
      refine eg_iload 2 dX11_plates_118 rfl ?_
      refine eg_callSI (av := [vI l5]) (st := [vR (110, 0), vI l4]) dX11_plates_120 ml_11_372 rfl rfl (Nat.le_of_ble_eq_true rfl) (eg_dd (by omega)) (sX11_at (by omega) M l5  ) (fun x9 M8 hp => ?_)
      obtain ⟨ex9, eM8⟩ := hp
      rw [eM8]
      have h := h x9 ex9
      refine eg_bipush dX11_plates_123 bp_9 ?_
      refine eg_iadd dX11_plates_125 ?_
      obtain ⟨g10, h⟩ := h
      refine eg_iaload dX11_plates_126 (arM_110 z1 g10) ?_
      refine eg_iconst dX11_plates_127 ic_1 ?_
      refine eg_isub dX11_plates_128 ?_
      refine eg_goto (tgt := 133) dX11_plates_129 rfl ?_
      refine eg_iadd dX11_plates_133 ?_
      refine en_istore (f := fun x11 => [(4, vI x11), (0, vR (60, 0)), (5, vI l5)]) dX11_plates_134 (by decide) rfl (fun x11 ex11 => ?_)
      have h := h x11 ex11
      refine en_iinc (f := fun x12 => [(5, vI x12), (4, vI x11), (0, vR (60, 0))]) 2 dX11_plates_136 rfl rfl (by decide) rfl (fun x12 ex12 => ?_)
      have h := h x12 ex12
      refine eg_goto (tgt := 86) dX11_plates_139 rfl ?_
      refine eg_sub [2, 1, 0] rfl ?_
      exact h
theorem dX11_worth_0 : decode cX11_worth 0 = .ok (.aload_n 0, 1) := by decide +kernel
theorem dX11_worth_1 : decode cX11_worth 1 = .ok (.iconst 0, 1) := by decide +kernel
theorem dX11_worth_2 : decode cX11_worth 2 = .ok (.putfield 127, 3) := by decide +kernel
theorem dX11_worth_5 : decode cX11_worth 5 = .ok (.iload_n 1, 1) := by decide +kernel
theorem dX11_worth_6 : decode cX11_worth 6 = .ok (.invokestatic 487, 3) := by decide +kernel
theorem dX11_worth_9 : decode cX11_worth 9 = .ok (.ifCond .ne 7, 3) := by decide +kernel
theorem dX11_worth_12 : decode cX11_worth 12 = .ok (.ldc_w 496, 3) := by decide +kernel
theorem dX11_worth_15 : decode cX11_worth 15 = .ok (.ireturn, 1) := by decide +kernel
theorem dX11_worth_16 : decode cX11_worth 16 = .ok (.aload_n 0, 1) := by decide +kernel
theorem dX11_worth_17 : decode cX11_worth 17 = .ok (.invokevirtual 243, 3) := by decide +kernel
theorem dX11_worth_20 : decode cX11_worth 20 = .ok (.aload_n 0, 1) := by decide +kernel
theorem dX11_worth_21 : decode cX11_worth 21 = .ok (.iconst 0, 1) := by decide +kernel
theorem dX11_worth_22 : decode cX11_worth 22 = .ok (.putfield 354, 3) := by decide +kernel
theorem dX11_worth_25 : decode cX11_worth 25 = .ok (.aload_n 0, 1) := by decide +kernel
theorem dX11_worth_26 : decode cX11_worth 26 = .ok (.iload_n 1, 1) := by decide +kernel
theorem dX11_worth_27 : decode cX11_worth 27 = .ok (.invokevirtual 490, 3) := by decide +kernel
theorem dX11_worth_30 : decode cX11_worth 30 = .ok (.aload_n 0, 1) := by decide +kernel
theorem dX11_worth_31 : decode cX11_worth 31 = .ok (.iconst (-1), 1) := by decide +kernel
theorem dX11_worth_32 : decode cX11_worth 32 = .ok (.invokevirtual 493, 3) := by decide +kernel
theorem dX11_worth_35 : decode cX11_worth 35 = .ok (.istore_n 2, 1) := by decide +kernel
theorem dX11_worth_36 : decode cX11_worth 36 = .ok (.aload_n 0, 1) := by decide +kernel
theorem dX11_worth_37 : decode cX11_worth 37 = .ok (.iconst 1, 1) := by decide +kernel
theorem dX11_worth_38 : decode cX11_worth 38 = .ok (.putfield 354, 3) := by decide +kernel
theorem dX11_worth_41 : decode cX11_worth 41 = .ok (.aload_n 0, 1) := by decide +kernel
theorem dX11_worth_42 : decode cX11_worth 42 = .ok (.iload_n 1, 1) := by decide +kernel
theorem dX11_worth_43 : decode cX11_worth 43 = .ok (.invokevirtual 490, 3) := by decide +kernel
theorem dX11_worth_46 : decode cX11_worth 46 = .ok (.iload_n 2, 1) := by decide +kernel
theorem dX11_worth_47 : decode cX11_worth 47 = .ok (.aload_n 0, 1) := by decide +kernel
theorem dX11_worth_48 : decode cX11_worth 48 = .ok (.iconst (-1), 1) := by decide +kernel
theorem dX11_worth_49 : decode cX11_worth 49 = .ok (.invokevirtual 493, 3) := by decide +kernel
theorem dX11_worth_52 : decode cX11_worth 52 = .ok (.isub, 1) := by decide +kernel
theorem dX11_worth_53 : decode cX11_worth 53 = .ok (.ireturn, 1) := by decide +kernel
set_option maxRecDepth 10000 in
theorem vX11_worth_0 {κ : eg_K} {d : Nat} (hd : 2 ≤ d) {post : Int32 → eg_H → Prop} (M : eg_H) (l1 : Int32) (h : (∀ M1 : eg_H, M1 = (sI M (60, 0) 2 (0 : Int32)) → (∀ x3 : Int32, x3 = (fX11_isTime M1 l1) → ((¬ x3 = 0) → (gX11_clears M1 ∧ (∀ M6 : eg_H, M6 = (fX11_clears M1) → (∀ M8 : eg_H, M8 = (sI M6 (60, 0) 60 (0 : Int32)) → eCV κ gM mtX11_runs d [vR (60, 0), vI l1] M8 (fun M9 => (gX11_waitedOf M9 (-1 : Int32) ∧ (∀ x13 : Int32, x13 = (fX11_waitedOf M9 (-1 : Int32)) → (∀ M14 : eg_H, M14 = (sI M9 (60, 0) 60 (1 : Int32)) → eCV κ gM mtX11_runs d [vR (60, 0), vI l1] M14 (fun M15 => (gX11_waitedOf M15 (-1 : Int32) ∧ (∀ x19 : Int32, x19 = (fX11_waitedOf M15 (-1 : Int32)) → post (x13 - x19) M15))))))))))) ∧ (x3 = 0 → post (-2147483648 : Int32) M1)))) : eg_W κ gM mtX11_worth d (eQI κ gM post) 0 [(0, vR (60, 0)), (1, vI l1)] [] M := by
  refine eg_aload_n 0 dX11_worth_0 rfl rfl ?_
  refine eg_iconst dX11_worth_1 ic_0 ?_
  refine en_putI dX11_worth_2 fl_11_127 rfl rfl (obM_60 z1) (fun M1 eM1 => ?_)
  have h := h M1 eM1
  refine eg_iload_n 1 dX11_worth_5 rfl rfl ?_
  refine eg_callSI (av := [vI l1]) (st := []) dX11_worth_6 ml_11_487 rfl rfl (Nat.le_of_ble_eq_true rfl) (eg_dd (by omega)) (sX11_isTime (by omega) M1 l1  ) (fun x3 M2 hp => ?_)
  obtain ⟨ex3, eM2⟩ := hp
  rw [eM2]
  have h := h x3 ex3
  refine eg_if_ne (tgt := 16) dX11_worth_9 rfl (fun c4 => ?_) (fun c4 => ?_)
  · have h := h.1 c4
    refine eg_aload_n 0 dX11_worth_16 rfl rfl ?_
    obtain ⟨g5, h⟩ := h
    refine eg_callVV (av := []) (st := []) dX11_worth_17 ml_11_243 rfl rfl (obM_60 z1) (by decide) rfl (Nat.le_of_ble_eq_true rfl) (eg_dd (by omega)) (sX11_clears (by omega) M1   g5) (fun M6 eM6 => ?_)
    have h := h M6 eM6
    refine eg_aload_n 0 dX11_worth_20 rfl rfl ?_
    refine eg_iconst dX11_worth_21 ic_0 ?_
    refine en_putZ dX11_worth_22 fl_11_354 rfl rfl (Or.inl rfl) (obM_60 z1) (fun M8 eM8 => ?_)
    have h := h M8 eM8
    refine eg_aload_n 0 dX11_worth_25 rfl rfl ?_
    refine eg_iload_n 1 dX11_worth_26 rfl rfl ?_
    obtain ⟨q10, hq10, h⟩ := h
    refine eg_callVV (av := [vI l1]) (st := []) dX11_worth_27 ml_11_490 rfl rfl (obM_60 z1) (by decide) rfl (Nat.le_of_ble_eq_true rfl) (eg_dd (by omega)) hq10 (fun M9 hp => ?_)
    have h := h M9 hp
    refine eg_aload_n 0 dX11_worth_30 rfl rfl ?_
    refine eg_iconst dX11_worth_31 ic_m1 ?_
    obtain ⟨g11, h⟩ := h
    refine eg_callVI (av := [vI (-1 : Int32)]) (st := []) dX11_worth_32 ml_11_493 rfl rfl (obM_60 z1) (by decide) rfl (Nat.le_of_ble_eq_true rfl) (eg_dd (by omega)) (sX11_waitedOf (by omega) M9 (-1 : Int32)  g11) (fun x13 M12 hp => ?_)
    obtain ⟨ex13, eM12⟩ := hp
    rw [eM12]
    have h := h x13 ex13
    refine eg_istore_n dX11_worth_35 rfl (by decide) (ls1 := [(2, vI x13), (0, vR (60, 0)), (1, vI l1)]) rfl ?_
    refine eg_aload_n 1 dX11_worth_36 rfl rfl ?_
    refine eg_iconst dX11_worth_37 ic_1 ?_
    refine en_putZ dX11_worth_38 fl_11_354 rfl rfl (Or.inr rfl) (obM_60 z1) (fun M14 eM14 => ?_)
    have h := h M14 eM14
    refine eg_aload_n 1 dX11_worth_41 rfl rfl ?_
    refine eg_iload_n 2 dX11_worth_42 rfl rfl ?_
    obtain ⟨q16, hq16, h⟩ := h
    refine eg_callVV (av := [vI l1]) (st := []) dX11_worth_43 ml_11_490 rfl rfl (obM_60 z1) (by decide) rfl (Nat.le_of_ble_eq_true rfl) (eg_dd (by omega)) hq16 (fun M15 hp => ?_)
    have h := h M15 hp
    refine eg_iload_n 0 dX11_worth_46 rfl rfl ?_
    refine eg_aload_n 1 dX11_worth_47 rfl rfl ?_
    refine eg_iconst dX11_worth_48 ic_m1 ?_
    obtain ⟨g17, h⟩ := h
    refine eg_callVI (av := [vI (-1 : Int32)]) (st := [vI x13]) dX11_worth_49 ml_11_493 rfl rfl (obM_60 z1) (by decide) rfl (Nat.le_of_ble_eq_true rfl) (eg_dd (by omega)) (sX11_waitedOf (by omega) M15 (-1 : Int32)  g17) (fun x19 M18 hp => ?_)
    obtain ⟨ex19, eM18⟩ := hp
    rw [eM18]
    have h := h x19 ex19
    refine eg_isub dX11_worth_52 ?_
    exact eg_ireturn dX11_worth_53 rfl h
  · have h := h.2 c4
    refine eg_ldcw dX11_worth_12 kc_11_496 ?_
    exact eg_ireturn dX11_worth_15 rfl h
theorem dX11_costAt_0 : decode cX11_costAt 0 = .ok (.aload_n 0, 1) := by decide +kernel
theorem dX11_costAt_1 : decode cX11_costAt 1 = .ok (.iload_n 2, 1) := by decide +kernel
theorem dX11_costAt_2 : decode cX11_costAt 2 = .ok (.invokevirtual 490, 3) := by decide +kernel
theorem dX11_costAt_5 : decode cX11_costAt 5 = .ok (.iload_n 3, 1) := by decide +kernel
theorem dX11_costAt_6 : decode cX11_costAt 6 = .ok (.aload_n 0, 1) := by decide +kernel
theorem dX11_costAt_7 : decode cX11_costAt 7 = .ok (.getfield 69, 3) := by decide +kernel
theorem dX11_costAt_10 : decode cX11_costAt 10 = .ok (.iload_n 1, 1) := by decide +kernel
theorem dX11_costAt_11 : decode cX11_costAt 11 = .ok (.invokestatic 377, 3) := by decide +kernel
theorem dX11_costAt_14 : decode cX11_costAt 14 = .ok (.iconst 5, 1) := by decide +kernel
theorem dX11_costAt_15 : decode cX11_costAt 15 = .ok (.iadd, 1) := by decide +kernel
theorem dX11_costAt_16 : decode cX11_costAt 16 = .ok (.iaload, 1) := by decide +kernel
theorem dX11_costAt_17 : decode cX11_costAt 17 = .ok (.imul, 1) := by decide +kernel
theorem dX11_costAt_18 : decode cX11_costAt 18 = .ok (.iload 4, 2) := by decide +kernel
theorem dX11_costAt_20 : decode cX11_costAt 20 = .ok (.aload_n 0, 1) := by decide +kernel
theorem dX11_costAt_21 : decode cX11_costAt 21 = .ok (.getfield 69, 3) := by decide +kernel
theorem dX11_costAt_24 : decode cX11_costAt 24 = .ok (.iload_n 1, 1) := by decide +kernel
theorem dX11_costAt_25 : decode cX11_costAt 25 = .ok (.invokestatic 377, 3) := by decide +kernel
theorem dX11_costAt_28 : decode cX11_costAt 28 = .ok (.iaload, 1) := by decide +kernel
theorem dX11_costAt_29 : decode cX11_costAt 29 = .ok (.imul, 1) := by decide +kernel
theorem dX11_costAt_30 : decode cX11_costAt 30 = .ok (.iadd, 1) := by decide +kernel
theorem dX11_costAt_31 : decode cX11_costAt 31 = .ok (.ireturn, 1) := by decide +kernel
set_option maxRecDepth 10000 in
theorem vX11_costAt_0 {κ : eg_K} {d : Nat} (hd : 1 ≤ d) {post : Int32 → eg_H → Prop} (M : eg_H) (l1 : Int32) (l2 : Int32) (l3 : Int32) (l4 : Int32) (h : eCV κ gM mtX11_runs d [vR (60, 0), vI l2] M (fun M1 => (∀ x4 : Int32, x4 = (fX11_pan M1 l1) → (vp_in (x4 + (5 : Int32)) 366 ∧ (∀ x7 : Int32, x7 = (fX11_pan M1 l1) → (vp_in x7 366 ∧ post ((l3 * (M1.1 (110, 0) (x4 + (5 : Int32)).toNatClampNeg)) + (l4 * (M1.1 (110, 0) x7.toNatClampNeg))) M1)))))) : eg_W κ gM mtX11_costAt d (eQI κ gM post) 0 [(0, vR (60, 0)), (1, vI l1), (2, vI l2), (3, vI l3), (4, vI l4)] [] M := by
  refine eg_aload_n 0 dX11_costAt_0 rfl rfl ?_
  refine eg_iload_n 2 dX11_costAt_1 rfl rfl ?_
  obtain ⟨q2, hq2, h⟩ := h
  refine eg_callVV (av := [vI l2]) (st := []) dX11_costAt_2 ml_11_490 rfl rfl (obM_60 z1) (by decide) rfl (Nat.le_of_ble_eq_true rfl) (eg_dd (by omega)) hq2 (fun M1 hp => ?_)
  have h := h M1 hp
  refine eg_iload_n 3 dX11_costAt_5 rfl rfl ?_
  refine eg_aload_n 0 dX11_costAt_6 rfl rfl ?_
  refine eg_getR dX11_costAt_7 fl_11_69 rfl rfl (obM_60 z1) ?_
  show eg_W κ gM mtX11_costAt d (eQI κ gM post) 10 [(0, vR (60, 0)), (1, vI l1), (2, vI l2), (3, vI l3), (4, vI l4)] [vR (110, 0), vI l3] M1
  refine eg_iload_n 1 dX11_costAt_10 rfl rfl ?_
  refine eg_callSI (av := [vI l1]) (st := [vR (110, 0), vI l3]) dX11_costAt_11 ml_11_377 rfl rfl (Nat.le_of_ble_eq_true rfl) (eg_dd (by omega)) (sX11_pan (by omega) M1 l1  ) (fun x4 M3 hp => ?_)
  obtain ⟨ex4, eM3⟩ := hp
  rw [eM3]
  have h := h x4 ex4
  refine eg_iconst dX11_costAt_14 ic_5 ?_
  refine eg_iadd dX11_costAt_15 ?_
  obtain ⟨g5, h⟩ := h
  refine eg_iaload dX11_costAt_16 (arM_110 z1 g5) ?_
  refine eg_imul dX11_costAt_17 ?_
  refine eg_iload 4 dX11_costAt_18 rfl ?_
  refine eg_aload_n 0 dX11_costAt_20 rfl rfl ?_
  refine eg_getR dX11_costAt_21 fl_11_69 rfl rfl (obM_60 z1) ?_
  show eg_W κ gM mtX11_costAt d (eQI κ gM post) 24 [(0, vR (60, 0)), (1, vI l1), (2, vI l2), (3, vI l3), (4, vI l4)] [vR (110, 0), vI l4, vI (l3 * (M1.1 (110, 0) (x4 + (5 : Int32)).toNatClampNeg))] M1
  refine eg_iload_n 1 dX11_costAt_24 rfl rfl ?_
  refine eg_callSI (av := [vI l1]) (st := [vR (110, 0), vI l4, vI (l3 * (M1.1 (110, 0) (x4 + (5 : Int32)).toNatClampNeg))]) dX11_costAt_25 ml_11_377 rfl rfl (Nat.le_of_ble_eq_true rfl) (eg_dd (by omega)) (sX11_pan (by omega) M1 l1  ) (fun x7 M6 hp => ?_)
  obtain ⟨ex7, eM6⟩ := hp
  rw [eM6]
  have h := h x7 ex7
  obtain ⟨g8, h⟩ := h
  refine eg_iaload dX11_costAt_28 (arM_110 z1 g8) ?_
  refine eg_imul dX11_costAt_29 ?_
  refine eg_iadd dX11_costAt_30 ?_
  exact eg_ireturn dX11_costAt_31 rfl h
theorem dX11_fill_0 : decode cX11_fill 0 = .ok (.aload_n 0, 1) := by decide +kernel
theorem dX11_fill_1 : decode cX11_fill 1 = .ok (.iconst 0, 1) := by decide +kernel
theorem dX11_fill_2 : decode cX11_fill 2 = .ok (.putfield 127, 3) := by decide +kernel
theorem dX11_fill_5 : decode cX11_fill 5 = .ok (.aload_n 0, 1) := by decide +kernel
theorem dX11_fill_6 : decode cX11_fill 6 = .ok (.iload_n 1, 1) := by decide +kernel
theorem dX11_fill_7 : decode cX11_fill 7 = .ok (.iload_n 2, 1) := by decide +kernel
theorem dX11_fill_8 : decode cX11_fill 8 = .ok (.iload_n 3, 1) := by decide +kernel
theorem dX11_fill_9 : decode cX11_fill 9 = .ok (.iload 4, 2) := by decide +kernel
theorem dX11_fill_11 : decode cX11_fill 11 = .ok (.iload 5, 2) := by decide +kernel
theorem dX11_fill_13 : decode cX11_fill 13 = .ok (.invokevirtual 511, 3) := by decide +kernel
theorem dX11_fill_16 : decode cX11_fill 16 = .ok (.ifCond .ne 5, 3) := by decide +kernel
theorem dX11_fill_19 : decode cX11_fill 19 = .ok (.iconst (-1), 1) := by decide +kernel
theorem dX11_fill_20 : decode cX11_fill 20 = .ok (.ireturn, 1) := by decide +kernel
theorem dX11_fill_21 : decode cX11_fill 21 = .ok (.iconst (-1), 1) := by decide +kernel
theorem dX11_fill_22 : decode cX11_fill 22 = .ok (.istore 6, 2) := by decide +kernel
theorem dX11_fill_24 : decode cX11_fill 24 = .ok (.iconst 0, 1) := by decide +kernel
theorem dX11_fill_25 : decode cX11_fill 25 = .ok (.istore 7, 2) := by decide +kernel
theorem dX11_fill_27 : decode cX11_fill 27 = .ok (.iconst 0, 1) := by decide +kernel
theorem dX11_fill_28 : decode cX11_fill 28 = .ok (.istore 8, 2) := by decide +kernel
theorem dX11_fill_30 : decode cX11_fill 30 = .ok (.iload 8, 2) := by decide +kernel
theorem dX11_fill_32 : decode cX11_fill 32 = .ok (.bipush 60, 2) := by decide +kernel
theorem dX11_fill_34 : decode cX11_fill 34 = .ok (.if_icmp .ge 58, 3) := by decide +kernel
theorem dX11_fill_37 : decode cX11_fill 37 = .ok (.aload_n 0, 1) := by decide +kernel
theorem dX11_fill_38 : decode cX11_fill 38 = .ok (.invokevirtual 243, 3) := by decide +kernel
theorem dX11_fill_41 : decode cX11_fill 41 = .ok (.aload_n 0, 1) := by decide +kernel
theorem dX11_fill_42 : decode cX11_fill 42 = .ok (.iload_n 1, 1) := by decide +kernel
theorem dX11_fill_43 : decode cX11_fill 43 = .ok (.putfield 345, 3) := by decide +kernel
theorem dX11_fill_46 : decode cX11_fill 46 = .ok (.aload_n 0, 1) := by decide +kernel
theorem dX11_fill_47 : decode cX11_fill 47 = .ok (.iload 8, 2) := by decide +kernel
theorem dX11_fill_49 : decode cX11_fill 49 = .ok (.putfield 456, 3) := by decide +kernel
theorem dX11_fill_52 : decode cX11_fill 52 = .ok (.aload_n 0, 1) := by decide +kernel
theorem dX11_fill_53 : decode cX11_fill 53 = .ok (.iload_n 1, 1) := by decide +kernel
theorem dX11_fill_54 : decode cX11_fill 54 = .ok (.iload_n 2, 1) := by decide +kernel
theorem dX11_fill_55 : decode cX11_fill 55 = .ok (.iload_n 3, 1) := by decide +kernel
theorem dX11_fill_56 : decode cX11_fill 56 = .ok (.iload 4, 2) := by decide +kernel
theorem dX11_fill_58 : decode cX11_fill 58 = .ok (.invokevirtual 515, 3) := by decide +kernel
theorem dX11_fill_61 : decode cX11_fill 61 = .ok (.istore 9, 2) := by decide +kernel
theorem dX11_fill_63 : decode cX11_fill 63 = .ok (.iload 6, 2) := by decide +kernel
theorem dX11_fill_65 : decode cX11_fill 65 = .ok (.ifCond .lt 13, 3) := by decide +kernel
theorem dX11_fill_68 : decode cX11_fill 68 = .ok (.iload 9, 2) := by decide +kernel
theorem dX11_fill_70 : decode cX11_fill 70 = .ok (.iload 7, 2) := by decide +kernel
theorem dX11_fill_72 : decode cX11_fill 72 = .ok (.if_icmp .lt 6, 3) := by decide +kernel
theorem dX11_fill_75 : decode cX11_fill 75 = .ok (.goto 11, 3) := by decide +kernel
theorem dX11_fill_78 : decode cX11_fill 78 = .ok (.iload 8, 2) := by decide +kernel
theorem dX11_fill_80 : decode cX11_fill 80 = .ok (.istore 6, 2) := by decide +kernel
theorem dX11_fill_82 : decode cX11_fill 82 = .ok (.iload 9, 2) := by decide +kernel
theorem dX11_fill_84 : decode cX11_fill 84 = .ok (.istore 7, 2) := by decide +kernel
theorem dX11_fill_86 : decode cX11_fill 86 = .ok (.iinc 8 1, 3) := by decide +kernel
theorem dX11_fill_89 : decode cX11_fill 89 = .ok (.goto (-59), 3) := by decide +kernel
theorem dX11_fill_92 : decode cX11_fill 92 = .ok (.iload 5, 2) := by decide +kernel
theorem dX11_fill_94 : decode cX11_fill 94 = .ok (.ifCond .ne 8, 3) := by decide +kernel
theorem dX11_fill_97 : decode cX11_fill 97 = .ok (.iload 6, 2) := by decide +kernel
theorem dX11_fill_99 : decode cX11_fill 99 = .ok (.goto 5, 3) := by decide +kernel
theorem dX11_fill_102 : decode cX11_fill 102 = .ok (.iload 7, 2) := by decide +kernel
theorem dX11_fill_104 : decode cX11_fill 104 = .ok (.ireturn, 1) := by decide +kernel
set_option maxRecDepth 10000 in
theorem vX11_fill_0 {κ : eg_K} {d : Nat} (hd : 3 ≤ d) {post : Int32 → eg_H → Prop} (M : eg_H) (l1 : Int32) (l2 : Int32) (l3 : Int32) (l4 : Int32) (l5 : Int32) (h : (∀ M1 : eg_H, M1 = (sI M (60, 0) 2 (0 : Int32)) → (gX11_isRule M1 l1 l2 l3 l4 l5 ∧ (∀ x4 : Int32, x4 = (fX11_isRule M1 l1 l2 l3 l4 l5) → ((¬ x4 = 0) → eg_W κ gM mtX11_fill d (eQI κ gM post) 30 [(0, vR (60, 0)), (1, vI l1), (2, vI l2), (3, vI l3), (4, vI l4), (5, vI l5), (6, vI (-1 : Int32)), (7, vI (0 : Int32)), (8, vI (0 : Int32))] [] M1) ∧ (x4 = 0 → post (-1 : Int32) M1))))) : eg_W κ gM mtX11_fill d (eQI κ gM post) 0 [(0, vR (60, 0)), (1, vI l1), (2, vI l2), (3, vI l3), (4, vI l4), (5, vI l5)] [] M := by
  refine eg_aload_n 0 dX11_fill_0 rfl rfl ?_
  refine eg_iconst dX11_fill_1 ic_0 ?_
  refine en_putI dX11_fill_2 fl_11_127 rfl rfl (obM_60 z1) (fun M1 eM1 => ?_)
  have h := h M1 eM1
  refine eg_aload_n 0 dX11_fill_5 rfl rfl ?_
  refine eg_iload_n 1 dX11_fill_6 rfl rfl ?_
  refine eg_iload_n 2 dX11_fill_7 rfl rfl ?_
  refine eg_iload_n 3 dX11_fill_8 rfl rfl ?_
  refine eg_iload 4 dX11_fill_9 rfl ?_
  refine eg_iload 5 dX11_fill_11 rfl ?_
  obtain ⟨g2, h⟩ := h
  refine eg_callVI (av := [vI l1, vI l2, vI l3, vI l4, vI l5]) (st := []) dX11_fill_13 ml_11_511 rfl rfl (obM_60 z1) (by decide) rfl (Nat.le_of_ble_eq_true rfl) (eg_dd (by omega)) (sX11_isRule (by omega) M1 l1 l2 l3 l4 l5  g2) (fun x4 M3 hp => ?_)
  obtain ⟨ex4, eM3⟩ := hp
  rw [eM3]
  have h := h x4 ex4
  refine eg_if_ne (tgt := 21) dX11_fill_16 rfl (fun c5 => ?_) (fun c5 => ?_)
  · have h := h.1 c5
    refine eg_iconst dX11_fill_21 ic_m1 ?_
    refine eg_istore dX11_fill_22 (by decide) (ls1 := [(6, vI (-1 : Int32)), (0, vR (60, 0)), (1, vI l1), (2, vI l2), (3, vI l3), (4, vI l4), (5, vI l5)]) rfl ?_
    refine eg_iconst dX11_fill_24 ic_0 ?_
    refine eg_istore dX11_fill_25 (by decide) (ls1 := [(7, vI (0 : Int32)), (6, vI (-1 : Int32)), (0, vR (60, 0)), (1, vI l1), (2, vI l2), (3, vI l3), (4, vI l4), (5, vI l5)]) rfl ?_
    refine eg_iconst dX11_fill_27 ic_0 ?_
    refine eg_istore dX11_fill_28 (by decide) (ls1 := [(8, vI (0 : Int32)), (7, vI (0 : Int32)), (6, vI (-1 : Int32)), (0, vR (60, 0)), (1, vI l1), (2, vI l2), (3, vI l3), (4, vI l4), (5, vI l5)]) rfl ?_
    refine eg_sub [3, 4, 5, 6, 7, 8, 2, 1, 0] rfl ?_
    exact h
  · have h := h.2 c5
    refine eg_iconst dX11_fill_19 ic_m1 ?_
    exact eg_ireturn dX11_fill_20 rfl h
set_option maxRecDepth 10000 in
theorem vX11_fill_30 {κ : eg_K} {d : Nat} (hd : 1 ≤ d) {post : Int32 → eg_H → Prop} (M : eg_H) (l1 : Int32) (l2 : Int32) (l3 : Int32) (l4 : Int32) (l5 : Int32) (l6 : Int32) (l7 : Int32) (l8 : Int32) (h : ((60 : Int32) ≤ l8 → (∀ x2 : Int32, x2 = ((if (¬ l5 = 0) then l7 else l6)) → post x2 M)) ∧ ((¬ (60 : Int32) ≤ l8) → (gX11_clears M ∧ (∀ M6 : eg_H, M6 = (fX11_clears M) → (∀ M8 : eg_H, M8 = (sI M6 (60, 0) 55 l1) → (∀ M9 : eg_H, M9 = (sI M8 (60, 0) 56 l8) → eCI κ gM mtX11_costAt d [vR (60, 0), vI l1, vI l2, vI l3, vI l4] M9 (fun x10 M11 => (l6 < 0 → (∀ x14 : Int32, x14 = (l8 + (1 : Int32)) → eg_W κ gM mtX11_fill d (eQI κ gM post) 30 [(0, vR (60, 0)), (1, vI l1), (2, vI l2), (3, vI l3), (4, vI l4), (5, vI l5), (6, vI l8), (7, vI x10), (8, vI x14)] [] M11)) ∧ ((¬ l6 < 0) → (x10 < l7 → (∀ x16 : Int32, x16 = (l8 + (1 : Int32)) → eg_W κ gM mtX11_fill d (eQI κ gM post) 30 [(0, vR (60, 0)), (1, vI l1), (2, vI l2), (3, vI l3), (4, vI l4), (5, vI l5), (6, vI l8), (7, vI x10), (8, vI x16)] [] M11)) ∧ ((¬ x10 < l7) → (∀ x17 : Int32, x17 = (l8 + (1 : Int32)) → eg_W κ gM mtX11_fill d (eQI κ gM post) 30 [(0, vR (60, 0)), (1, vI l1), (2, vI l2), (3, vI l3), (4, vI l4), (5, vI l5), (6, vI l6), (7, vI l7), (8, vI x17)] [] M11)))))))))) : eg_W κ gM mtX11_fill d (eQI κ gM post) 30 [(0, vR (60, 0)), (1, vI l1), (2, vI l2), (3, vI l3), (4, vI l4), (5, vI l5), (6, vI l6), (7, vI l7), (8, vI l8)] [] M := by
  refine eg_iload 8 dX11_fill_30 rfl ?_
  refine eg_bipush dX11_fill_32 bp_60 ?_
  refine eg_icmp_ge (tgt := 92) dX11_fill_34 rfl (fun c1 => ?_) (fun c1 => ?_)
  · have h := h.1 c1
    refine eg_iload 5 dX11_fill_92 rfl ?_
    have J : ∀ x2 : Int32, x2 = (if (¬ l5 = 0) then l7 else l6) → eg_W κ gM mtX11_fill d (eQI κ gM post) 104 [(0, vR (60, 0)), (1, vI l1), (2, vI l2), (3, vI l3), (4, vI l4), (5, vI l5), (6, vI l6), (7, vI l7), (8, vI l8)] [vI x2] M := by
      intro x2 ex2
      have h := h x2 ex2
      exact eg_ireturn dX11_fill_104 rfl h
    clear h
    refine eg_if_ne (tgt := 102) dX11_fill_94 rfl (fun c3 => ?_) (fun c3 => ?_)
    · refine eg_iload 7 dX11_fill_102 rfl ?_
      exact J _ (by rw [if_pos c3])
    · have c4 : ¬ (¬ l5 = 0) := fun z => z c3
      refine eg_iload 6 dX11_fill_97 rfl ?_
      refine eg_goto (tgt := 104) dX11_fill_99 rfl ?_
      exact J _ (by rw [if_neg c4])
  · have h := h.2 c1
    refine eg_aload_n 0 dX11_fill_37 rfl rfl ?_
    obtain ⟨g5, h⟩ := h
    refine eg_callVV (av := []) (st := []) dX11_fill_38 ml_11_243 rfl rfl (obM_60 z1) (by decide) rfl (Nat.le_of_ble_eq_true rfl) (eg_dd (by omega)) (sX11_clears (by omega) M   g5) (fun M6 eM6 => ?_)
    have h := h M6 eM6
    refine eg_aload_n 0 dX11_fill_41 rfl rfl ?_
    refine eg_iload_n 1 dX11_fill_42 rfl rfl ?_
    refine en_putI dX11_fill_43 fl_11_345 rfl rfl (obM_60 z1) (fun M8 eM8 => ?_)
    have h := h M8 eM8
    refine eg_aload_n 0 dX11_fill_46 rfl rfl ?_
    refine eg_iload 8 dX11_fill_47 rfl ?_
    refine en_putI dX11_fill_49 fl_11_456 rfl rfl (obM_60 z1) (fun M9 eM9 => ?_)
    have h := h M9 eM9
    refine eg_aload_n 0 dX11_fill_52 rfl rfl ?_
    refine eg_iload_n 1 dX11_fill_53 rfl rfl ?_
    refine eg_iload_n 2 dX11_fill_54 rfl rfl ?_
    refine eg_iload_n 3 dX11_fill_55 rfl rfl ?_
    refine eg_iload 4 dX11_fill_56 rfl ?_
    obtain ⟨q12, hq12, h⟩ := h
    refine eg_callVI (av := [vI l1, vI l2, vI l3, vI l4]) (st := []) dX11_fill_58 ml_11_515 rfl rfl (obM_60 z1) (by decide) rfl (Nat.le_of_ble_eq_true rfl) (eg_dd (by omega)) hq12 (fun x10 M11 hp => ?_)
    have h := h x10 M11 hp
    refine eg_istore dX11_fill_61 (by decide) (ls1 := [(9, vI x10), (0, vR (60, 0)), (1, vI l1), (2, vI l2), (3, vI l3), (4, vI l4), (5, vI l5), (6, vI l6), (7, vI l7), (8, vI l8)]) rfl ?_
    refine eg_iload 7 dX11_fill_63 rfl ?_
    refine eg_if_lt (tgt := 78) dX11_fill_65 rfl (fun c13 => ?_) (fun c13 => ?_)
    · have h := h.1 c13
      refine eg_iload 9 dX11_fill_78 rfl ?_
      refine eg_istore dX11_fill_80 (by decide) (ls1 := [(6, vI l8), (9, vI x10), (0, vR (60, 0)), (1, vI l1), (2, vI l2), (3, vI l3), (4, vI l4), (5, vI l5), (7, vI l7), (8, vI l8)]) rfl ?_
      refine eg_iload 1 dX11_fill_82 rfl ?_
      refine eg_istore dX11_fill_84 (by decide) (ls1 := [(7, vI x10), (6, vI l8), (9, vI x10), (0, vR (60, 0)), (1, vI l1), (2, vI l2), (3, vI l3), (4, vI l4), (5, vI l5), (8, vI l8)]) rfl ?_
      refine en_iinc (f := fun x14 => [(8, vI x14), (7, vI x10), (6, vI l8), (9, vI x10), (0, vR (60, 0)), (1, vI l1), (2, vI l2), (3, vI l3), (4, vI l4), (5, vI l5)]) 9 dX11_fill_86 rfl rfl (by decide) rfl (fun x14 ex14 => ?_)
      have h := h x14 ex14
      refine eg_goto (tgt := 30) dX11_fill_89 rfl ?_
      refine eg_sub [4, 5, 6, 7, 8, 9, 2, 1, 0] rfl ?_
      exact h
    · have h := h.2 c13
      refine eg_iload 0 dX11_fill_68 rfl ?_
      refine eg_iload 8 dX11_fill_70 rfl ?_
      refine eg_icmp_lt (tgt := 78) dX11_fill_72 rfl (fun c15 => ?_) (fun c15 => ?_)
      · have h := h.1 c15
        refine eg_iload 9 dX11_fill_78 rfl ?_
        refine eg_istore dX11_fill_80 (by decide) (ls1 := [(6, vI l8), (9, vI x10), (0, vR (60, 0)), (1, vI l1), (2, vI l2), (3, vI l3), (4, vI l4), (5, vI l5), (7, vI l7), (8, vI l8)]) rfl ?_
        refine eg_iload 1 dX11_fill_82 rfl ?_
        refine eg_istore dX11_fill_84 (by decide) (ls1 := [(7, vI x10), (6, vI l8), (9, vI x10), (0, vR (60, 0)), (1, vI l1), (2, vI l2), (3, vI l3), (4, vI l4), (5, vI l5), (8, vI l8)]) rfl ?_
        refine en_iinc (f := fun x16 => [(8, vI x16), (7, vI x10), (6, vI l8), (9, vI x10), (0, vR (60, 0)), (1, vI l1), (2, vI l2), (3, vI l3), (4, vI l4), (5, vI l5)]) 9 dX11_fill_86 rfl rfl (by decide) rfl (fun x16 ex16 => ?_)
        have h := h x16 ex16
        refine eg_goto (tgt := 30) dX11_fill_89 rfl ?_
        refine eg_sub [4, 5, 6, 7, 8, 9, 2, 1, 0] rfl ?_
        exact h
      · have h := h.2 c15
        refine eg_goto (tgt := 86) dX11_fill_75 rfl ?_
        refine en_iinc (f := fun x17 => [(8, vI x17), (9, vI x10), (0, vR (60, 0)), (1, vI l1), (2, vI l2), (3, vI l3), (4, vI l4), (5, vI l5), (6, vI l6), (7, vI l7)]) 9 dX11_fill_86 rfl rfl (by decide) rfl (fun x17 ex17 => ?_)
        have h := h x17 ex17
        refine eg_goto (tgt := 30) dX11_fill_89 rfl ?_
        refine eg_sub [2, 3, 4, 5, 6, 7, 8, 9, 0] rfl ?_
        exact h
theorem dX11_rule_0 : decode cX11_rule 0 = .ok (.aload_n 0, 1) := by decide +kernel
theorem dX11_rule_1 : decode cX11_rule 1 = .ok (.iconst 0, 1) := by decide +kernel
theorem dX11_rule_2 : decode cX11_rule 2 = .ok (.putfield 127, 3) := by decide +kernel
theorem dX11_rule_5 : decode cX11_rule 5 = .ok (.aload_n 0, 1) := by decide +kernel
theorem dX11_rule_6 : decode cX11_rule 6 = .ok (.iload_n 1, 1) := by decide +kernel
theorem dX11_rule_7 : decode cX11_rule 7 = .ok (.iload_n 2, 1) := by decide +kernel
theorem dX11_rule_8 : decode cX11_rule 8 = .ok (.iload_n 3, 1) := by decide +kernel
theorem dX11_rule_9 : decode cX11_rule 9 = .ok (.iload 4, 2) := by decide +kernel
theorem dX11_rule_11 : decode cX11_rule 11 = .ok (.iload 5, 2) := by decide +kernel
theorem dX11_rule_13 : decode cX11_rule 13 = .ok (.invokevirtual 511, 3) := by decide +kernel
theorem dX11_rule_16 : decode cX11_rule 16 = .ok (.ifCond .ne 5, 3) := by decide +kernel
theorem dX11_rule_19 : decode cX11_rule 19 = .ok (.iconst (-1), 1) := by decide +kernel
theorem dX11_rule_20 : decode cX11_rule 20 = .ok (.ireturn, 1) := by decide +kernel
theorem dX11_rule_21 : decode cX11_rule 21 = .ok (.iconst (-1), 1) := by decide +kernel
theorem dX11_rule_22 : decode cX11_rule 22 = .ok (.istore 6, 2) := by decide +kernel
theorem dX11_rule_24 : decode cX11_rule 24 = .ok (.iconst 0, 1) := by decide +kernel
theorem dX11_rule_25 : decode cX11_rule 25 = .ok (.istore 7, 2) := by decide +kernel
theorem dX11_rule_27 : decode cX11_rule 27 = .ok (.iconst 1, 1) := by decide +kernel
theorem dX11_rule_28 : decode cX11_rule 28 = .ok (.istore 8, 2) := by decide +kernel
theorem dX11_rule_30 : decode cX11_rule 30 = .ok (.iload 8, 2) := by decide +kernel
theorem dX11_rule_32 : decode cX11_rule 32 = .ok (.bipush 61, 2) := by decide +kernel
theorem dX11_rule_34 : decode cX11_rule 34 = .ok (.if_icmp .ge 58, 3) := by decide +kernel
theorem dX11_rule_37 : decode cX11_rule 37 = .ok (.aload_n 0, 1) := by decide +kernel
theorem dX11_rule_38 : decode cX11_rule 38 = .ok (.invokevirtual 243, 3) := by decide +kernel
theorem dX11_rule_41 : decode cX11_rule 41 = .ok (.aload_n 0, 1) := by decide +kernel
theorem dX11_rule_42 : decode cX11_rule 42 = .ok (.iload_n 1, 1) := by decide +kernel
theorem dX11_rule_43 : decode cX11_rule 43 = .ok (.putfield 348, 3) := by decide +kernel
theorem dX11_rule_46 : decode cX11_rule 46 = .ok (.aload_n 0, 1) := by decide +kernel
theorem dX11_rule_47 : decode cX11_rule 47 = .ok (.iload 8, 2) := by decide +kernel
theorem dX11_rule_49 : decode cX11_rule 49 = .ok (.putfield 363, 3) := by decide +kernel
theorem dX11_rule_52 : decode cX11_rule 52 = .ok (.aload_n 0, 1) := by decide +kernel
theorem dX11_rule_53 : decode cX11_rule 53 = .ok (.iload_n 1, 1) := by decide +kernel
theorem dX11_rule_54 : decode cX11_rule 54 = .ok (.iload_n 2, 1) := by decide +kernel
theorem dX11_rule_55 : decode cX11_rule 55 = .ok (.iload_n 3, 1) := by decide +kernel
theorem dX11_rule_56 : decode cX11_rule 56 = .ok (.iload 4, 2) := by decide +kernel
theorem dX11_rule_58 : decode cX11_rule 58 = .ok (.invokevirtual 515, 3) := by decide +kernel
theorem dX11_rule_61 : decode cX11_rule 61 = .ok (.istore 9, 2) := by decide +kernel
theorem dX11_rule_63 : decode cX11_rule 63 = .ok (.iload 6, 2) := by decide +kernel
theorem dX11_rule_65 : decode cX11_rule 65 = .ok (.ifCond .lt 13, 3) := by decide +kernel
theorem dX11_rule_68 : decode cX11_rule 68 = .ok (.iload 9, 2) := by decide +kernel
theorem dX11_rule_70 : decode cX11_rule 70 = .ok (.iload 7, 2) := by decide +kernel
theorem dX11_rule_72 : decode cX11_rule 72 = .ok (.if_icmp .lt 6, 3) := by decide +kernel
theorem dX11_rule_75 : decode cX11_rule 75 = .ok (.goto 11, 3) := by decide +kernel
theorem dX11_rule_78 : decode cX11_rule 78 = .ok (.iload 8, 2) := by decide +kernel
theorem dX11_rule_80 : decode cX11_rule 80 = .ok (.istore 6, 2) := by decide +kernel
theorem dX11_rule_82 : decode cX11_rule 82 = .ok (.iload 9, 2) := by decide +kernel
theorem dX11_rule_84 : decode cX11_rule 84 = .ok (.istore 7, 2) := by decide +kernel
theorem dX11_rule_86 : decode cX11_rule 86 = .ok (.iinc 8 1, 3) := by decide +kernel
theorem dX11_rule_89 : decode cX11_rule 89 = .ok (.goto (-59), 3) := by decide +kernel
theorem dX11_rule_92 : decode cX11_rule 92 = .ok (.iload 5, 2) := by decide +kernel
theorem dX11_rule_94 : decode cX11_rule 94 = .ok (.ifCond .ne 8, 3) := by decide +kernel
theorem dX11_rule_97 : decode cX11_rule 97 = .ok (.iload 6, 2) := by decide +kernel
theorem dX11_rule_99 : decode cX11_rule 99 = .ok (.goto 5, 3) := by decide +kernel
theorem dX11_rule_102 : decode cX11_rule 102 = .ok (.iload 7, 2) := by decide +kernel
theorem dX11_rule_104 : decode cX11_rule 104 = .ok (.ireturn, 1) := by decide +kernel
set_option maxRecDepth 10000 in
theorem vX11_rule_0 {κ : eg_K} {d : Nat} (hd : 3 ≤ d) {post : Int32 → eg_H → Prop} (M : eg_H) (l1 : Int32) (l2 : Int32) (l3 : Int32) (l4 : Int32) (l5 : Int32) (h : (∀ M1 : eg_H, M1 = (sI M (60, 0) 2 (0 : Int32)) → (gX11_isRule M1 l1 l2 l3 l4 l5 ∧ (∀ x4 : Int32, x4 = (fX11_isRule M1 l1 l2 l3 l4 l5) → ((¬ x4 = 0) → eg_W κ gM mtX11_rule d (eQI κ gM post) 30 [(0, vR (60, 0)), (1, vI l1), (2, vI l2), (3, vI l3), (4, vI l4), (5, vI l5), (6, vI (-1 : Int32)), (7, vI (0 : Int32)), (8, vI (1 : Int32))] [] M1) ∧ (x4 = 0 → post (-1 : Int32) M1))))) : eg_W κ gM mtX11_rule d (eQI κ gM post) 0 [(0, vR (60, 0)), (1, vI l1), (2, vI l2), (3, vI l3), (4, vI l4), (5, vI l5)] [] M := by
  refine eg_aload_n 0 dX11_rule_0 rfl rfl ?_
  refine eg_iconst dX11_rule_1 ic_0 ?_
  refine en_putI dX11_rule_2 fl_11_127 rfl rfl (obM_60 z1) (fun M1 eM1 => ?_)
  have h := h M1 eM1
  refine eg_aload_n 0 dX11_rule_5 rfl rfl ?_
  refine eg_iload_n 1 dX11_rule_6 rfl rfl ?_
  refine eg_iload_n 2 dX11_rule_7 rfl rfl ?_
  refine eg_iload_n 3 dX11_rule_8 rfl rfl ?_
  refine eg_iload 4 dX11_rule_9 rfl ?_
  refine eg_iload 5 dX11_rule_11 rfl ?_
  obtain ⟨g2, h⟩ := h
  refine eg_callVI (av := [vI l1, vI l2, vI l3, vI l4, vI l5]) (st := []) dX11_rule_13 ml_11_511 rfl rfl (obM_60 z1) (by decide) rfl (Nat.le_of_ble_eq_true rfl) (eg_dd (by omega)) (sX11_isRule (by omega) M1 l1 l2 l3 l4 l5  g2) (fun x4 M3 hp => ?_)
  obtain ⟨ex4, eM3⟩ := hp
  rw [eM3]
  have h := h x4 ex4
  refine eg_if_ne (tgt := 21) dX11_rule_16 rfl (fun c5 => ?_) (fun c5 => ?_)
  · have h := h.1 c5
    refine eg_iconst dX11_rule_21 ic_m1 ?_
    refine eg_istore dX11_rule_22 (by decide) (ls1 := [(6, vI (-1 : Int32)), (0, vR (60, 0)), (1, vI l1), (2, vI l2), (3, vI l3), (4, vI l4), (5, vI l5)]) rfl ?_
    refine eg_iconst dX11_rule_24 ic_0 ?_
    refine eg_istore dX11_rule_25 (by decide) (ls1 := [(7, vI (0 : Int32)), (6, vI (-1 : Int32)), (0, vR (60, 0)), (1, vI l1), (2, vI l2), (3, vI l3), (4, vI l4), (5, vI l5)]) rfl ?_
    refine eg_iconst dX11_rule_27 ic_1 ?_
    refine eg_istore dX11_rule_28 (by decide) (ls1 := [(8, vI (1 : Int32)), (7, vI (0 : Int32)), (6, vI (-1 : Int32)), (0, vR (60, 0)), (1, vI l1), (2, vI l2), (3, vI l3), (4, vI l4), (5, vI l5)]) rfl ?_
    refine eg_sub [3, 4, 5, 6, 7, 8, 2, 1, 0] rfl ?_
    exact h
  · have h := h.2 c5
    refine eg_iconst dX11_rule_19 ic_m1 ?_
    exact eg_ireturn dX11_rule_20 rfl h
set_option maxRecDepth 10000 in
theorem vX11_rule_30 {κ : eg_K} {d : Nat} (hd : 1 ≤ d) {post : Int32 → eg_H → Prop} (M : eg_H) (l1 : Int32) (l2 : Int32) (l3 : Int32) (l4 : Int32) (l5 : Int32) (l6 : Int32) (l7 : Int32) (l8 : Int32) (h : ((61 : Int32) ≤ l8 → (∀ x2 : Int32, x2 = ((if (¬ l5 = 0) then l7 else l6)) → post x2 M)) ∧ ((¬ (61 : Int32) ≤ l8) → (gX11_clears M ∧ (∀ M6 : eg_H, M6 = (fX11_clears M) → (∀ M8 : eg_H, M8 = (sI M6 (60, 0) 57 l1) → (∀ M9 : eg_H, M9 = (sI M8 (60, 0) 58 l8) → eCI κ gM mtX11_costAt d [vR (60, 0), vI l1, vI l2, vI l3, vI l4] M9 (fun x10 M11 => (l6 < 0 → (∀ x14 : Int32, x14 = (l8 + (1 : Int32)) → eg_W κ gM mtX11_rule d (eQI κ gM post) 30 [(0, vR (60, 0)), (1, vI l1), (2, vI l2), (3, vI l3), (4, vI l4), (5, vI l5), (6, vI l8), (7, vI x10), (8, vI x14)] [] M11)) ∧ ((¬ l6 < 0) → (x10 < l7 → (∀ x16 : Int32, x16 = (l8 + (1 : Int32)) → eg_W κ gM mtX11_rule d (eQI κ gM post) 30 [(0, vR (60, 0)), (1, vI l1), (2, vI l2), (3, vI l3), (4, vI l4), (5, vI l5), (6, vI l8), (7, vI x10), (8, vI x16)] [] M11)) ∧ ((¬ x10 < l7) → (∀ x17 : Int32, x17 = (l8 + (1 : Int32)) → eg_W κ gM mtX11_rule d (eQI κ gM post) 30 [(0, vR (60, 0)), (1, vI l1), (2, vI l2), (3, vI l3), (4, vI l4), (5, vI l5), (6, vI l6), (7, vI l7), (8, vI x17)] [] M11)))))))))) : eg_W κ gM mtX11_rule d (eQI κ gM post) 30 [(0, vR (60, 0)), (1, vI l1), (2, vI l2), (3, vI l3), (4, vI l4), (5, vI l5), (6, vI l6), (7, vI l7), (8, vI l8)] [] M := by
  refine eg_iload 8 dX11_rule_30 rfl ?_
  refine eg_bipush dX11_rule_32 bp_61 ?_
  refine eg_icmp_ge (tgt := 92) dX11_rule_34 rfl (fun c1 => ?_) (fun c1 => ?_)
  · have h := h.1 c1
    refine eg_iload 5 dX11_rule_92 rfl ?_
    have J : ∀ x2 : Int32, x2 = (if (¬ l5 = 0) then l7 else l6) → eg_W κ gM mtX11_rule d (eQI κ gM post) 104 [(0, vR (60, 0)), (1, vI l1), (2, vI l2), (3, vI l3), (4, vI l4), (5, vI l5), (6, vI l6), (7, vI l7), (8, vI l8)] [vI x2] M := by
      intro x2 ex2
      have h := h x2 ex2
      exact eg_ireturn dX11_rule_104 rfl h
    clear h
    refine eg_if_ne (tgt := 102) dX11_rule_94 rfl (fun c3 => ?_) (fun c3 => ?_)
    · refine eg_iload 7 dX11_rule_102 rfl ?_
      exact J _ (by rw [if_pos c3])
    · have c4 : ¬ (¬ l5 = 0) := fun z => z c3
      refine eg_iload 6 dX11_rule_97 rfl ?_
      refine eg_goto (tgt := 104) dX11_rule_99 rfl ?_
      exact J _ (by rw [if_neg c4])
  · have h := h.2 c1
    refine eg_aload_n 0 dX11_rule_37 rfl rfl ?_
    obtain ⟨g5, h⟩ := h
    refine eg_callVV (av := []) (st := []) dX11_rule_38 ml_11_243 rfl rfl (obM_60 z1) (by decide) rfl (Nat.le_of_ble_eq_true rfl) (eg_dd (by omega)) (sX11_clears (by omega) M   g5) (fun M6 eM6 => ?_)
    have h := h M6 eM6
    refine eg_aload_n 0 dX11_rule_41 rfl rfl ?_
    refine eg_iload_n 1 dX11_rule_42 rfl rfl ?_
    refine en_putI dX11_rule_43 fl_11_348 rfl rfl (obM_60 z1) (fun M8 eM8 => ?_)
    have h := h M8 eM8
    refine eg_aload_n 0 dX11_rule_46 rfl rfl ?_
    refine eg_iload 8 dX11_rule_47 rfl ?_
    refine en_putI dX11_rule_49 fl_11_363 rfl rfl (obM_60 z1) (fun M9 eM9 => ?_)
    have h := h M9 eM9
    refine eg_aload_n 0 dX11_rule_52 rfl rfl ?_
    refine eg_iload_n 1 dX11_rule_53 rfl rfl ?_
    refine eg_iload_n 2 dX11_rule_54 rfl rfl ?_
    refine eg_iload_n 3 dX11_rule_55 rfl rfl ?_
    refine eg_iload 4 dX11_rule_56 rfl ?_
    obtain ⟨q12, hq12, h⟩ := h
    refine eg_callVI (av := [vI l1, vI l2, vI l3, vI l4]) (st := []) dX11_rule_58 ml_11_515 rfl rfl (obM_60 z1) (by decide) rfl (Nat.le_of_ble_eq_true rfl) (eg_dd (by omega)) hq12 (fun x10 M11 hp => ?_)
    have h := h x10 M11 hp
    refine eg_istore dX11_rule_61 (by decide) (ls1 := [(9, vI x10), (0, vR (60, 0)), (1, vI l1), (2, vI l2), (3, vI l3), (4, vI l4), (5, vI l5), (6, vI l6), (7, vI l7), (8, vI l8)]) rfl ?_
    refine eg_iload 7 dX11_rule_63 rfl ?_
    refine eg_if_lt (tgt := 78) dX11_rule_65 rfl (fun c13 => ?_) (fun c13 => ?_)
    · have h := h.1 c13
      refine eg_iload 9 dX11_rule_78 rfl ?_
      refine eg_istore dX11_rule_80 (by decide) (ls1 := [(6, vI l8), (9, vI x10), (0, vR (60, 0)), (1, vI l1), (2, vI l2), (3, vI l3), (4, vI l4), (5, vI l5), (7, vI l7), (8, vI l8)]) rfl ?_
      refine eg_iload 1 dX11_rule_82 rfl ?_
      refine eg_istore dX11_rule_84 (by decide) (ls1 := [(7, vI x10), (6, vI l8), (9, vI x10), (0, vR (60, 0)), (1, vI l1), (2, vI l2), (3, vI l3), (4, vI l4), (5, vI l5), (8, vI l8)]) rfl ?_
      refine en_iinc (f := fun x14 => [(8, vI x14), (7, vI x10), (6, vI l8), (9, vI x10), (0, vR (60, 0)), (1, vI l1), (2, vI l2), (3, vI l3), (4, vI l4), (5, vI l5)]) 9 dX11_rule_86 rfl rfl (by decide) rfl (fun x14 ex14 => ?_)
      have h := h x14 ex14
      refine eg_goto (tgt := 30) dX11_rule_89 rfl ?_
      refine eg_sub [4, 5, 6, 7, 8, 9, 2, 1, 0] rfl ?_
      exact h
    · have h := h.2 c13
      refine eg_iload 0 dX11_rule_68 rfl ?_
      refine eg_iload 8 dX11_rule_70 rfl ?_
      refine eg_icmp_lt (tgt := 78) dX11_rule_72 rfl (fun c15 => ?_) (fun c15 => ?_)
      · have h := h.1 c15
        refine eg_iload 9 dX11_rule_78 rfl ?_
        refine eg_istore dX11_rule_80 (by decide) (ls1 := [(6, vI l8), (9, vI x10), (0, vR (60, 0)), (1, vI l1), (2, vI l2), (3, vI l3), (4, vI l4), (5, vI l5), (7, vI l7), (8, vI l8)]) rfl ?_
        refine eg_iload 1 dX11_rule_82 rfl ?_
        refine eg_istore dX11_rule_84 (by decide) (ls1 := [(7, vI x10), (6, vI l8), (9, vI x10), (0, vR (60, 0)), (1, vI l1), (2, vI l2), (3, vI l3), (4, vI l4), (5, vI l5), (8, vI l8)]) rfl ?_
        refine en_iinc (f := fun x16 => [(8, vI x16), (7, vI x10), (6, vI l8), (9, vI x10), (0, vR (60, 0)), (1, vI l1), (2, vI l2), (3, vI l3), (4, vI l4), (5, vI l5)]) 9 dX11_rule_86 rfl rfl (by decide) rfl (fun x16 ex16 => ?_)
        have h := h x16 ex16
        refine eg_goto (tgt := 30) dX11_rule_89 rfl ?_
        refine eg_sub [4, 5, 6, 7, 8, 9, 2, 1, 0] rfl ?_
        exact h
      · have h := h.2 c15
        refine eg_goto (tgt := 86) dX11_rule_75 rfl ?_
        refine en_iinc (f := fun x17 => [(8, vI x17), (9, vI x10), (0, vR (60, 0)), (1, vI l1), (2, vI l2), (3, vI l3), (4, vI l4), (5, vI l5), (6, vI l6), (7, vI l7)]) 9 dX11_rule_86 rfl rfl (by decide) rfl (fun x17 ex17 => ?_)
        have h := h x17 ex17
        refine eg_goto (tgt := 30) dX11_rule_89 rfl ?_
        refine eg_sub [2, 3, 4, 5, 6, 7, 8, 9, 0] rfl ?_
        exact h
theorem dX11_bus_0 : decode cX11_bus 0 = .ok (.aload_n 0, 1) := by decide +kernel
theorem dX11_bus_1 : decode cX11_bus 1 = .ok (.iconst 0, 1) := by decide +kernel
theorem dX11_bus_2 : decode cX11_bus 2 = .ok (.putfield 127, 3) := by decide +kernel
theorem dX11_bus_5 : decode cX11_bus 5 = .ok (.aload_n 0, 1) := by decide +kernel
theorem dX11_bus_6 : decode cX11_bus 6 = .ok (.iload_n 1, 1) := by decide +kernel
theorem dX11_bus_7 : decode cX11_bus 7 = .ok (.invokevirtual 472, 3) := by decide +kernel
theorem dX11_bus_10 : decode cX11_bus 10 = .ok (.ifCond .eq 32, 3) := by decide +kernel
theorem dX11_bus_13 : decode cX11_bus 13 = .ok (.iload_n 2, 1) := by decide +kernel
theorem dX11_bus_14 : decode cX11_bus 14 = .ok (.iconst 1, 1) := by decide +kernel
theorem dX11_bus_15 : decode cX11_bus 15 = .ok (.bipush 6, 2) := by decide +kernel
theorem dX11_bus_17 : decode cX11_bus 17 = .ok (.invokestatic 171, 3) := by decide +kernel
theorem dX11_bus_20 : decode cX11_bus 20 = .ok (.ifCond .eq 22, 3) := by decide +kernel
theorem dX11_bus_23 : decode cX11_bus 23 = .ok (.iload_n 3, 1) := by decide +kernel
theorem dX11_bus_24 : decode cX11_bus 24 = .ok (.iconst 0, 1) := by decide +kernel
theorem dX11_bus_25 : decode cX11_bus 25 = .ok (.sipush 3599, 3) := by decide +kernel
theorem dX11_bus_28 : decode cX11_bus 28 = .ok (.invokestatic 171, 3) := by decide +kernel
theorem dX11_bus_31 : decode cX11_bus 31 = .ok (.ifCond .eq 11, 3) := by decide +kernel
theorem dX11_bus_34 : decode cX11_bus 34 = .ok (.iload 4, 2) := by decide +kernel
theorem dX11_bus_36 : decode cX11_bus 36 = .ok (.invokestatic 487, 3) := by decide +kernel
theorem dX11_bus_39 : decode cX11_bus 39 = .ok (.ifCond .ne 7, 3) := by decide +kernel
theorem dX11_bus_42 : decode cX11_bus 42 = .ok (.ldc_w 496, 3) := by decide +kernel
theorem dX11_bus_45 : decode cX11_bus 45 = .ok (.ireturn, 1) := by decide +kernel
theorem dX11_bus_46 : decode cX11_bus 46 = .ok (.aload_n 0, 1) := by decide +kernel
theorem dX11_bus_47 : decode cX11_bus 47 = .ok (.invokevirtual 243, 3) := by decide +kernel
theorem dX11_bus_50 : decode cX11_bus 50 = .ok (.aload_n 0, 1) := by decide +kernel
theorem dX11_bus_51 : decode cX11_bus 51 = .ok (.iload 4, 2) := by decide +kernel
theorem dX11_bus_53 : decode cX11_bus 53 = .ok (.invokevirtual 490, 3) := by decide +kernel
theorem dX11_bus_56 : decode cX11_bus 56 = .ok (.aload_n 0, 1) := by decide +kernel
theorem dX11_bus_57 : decode cX11_bus 57 = .ok (.iconst (-1), 1) := by decide +kernel
theorem dX11_bus_58 : decode cX11_bus 58 = .ok (.invokevirtual 493, 3) := by decide +kernel
theorem dX11_bus_61 : decode cX11_bus 61 = .ok (.istore 5, 2) := by decide +kernel
theorem dX11_bus_63 : decode cX11_bus 63 = .ok (.iconst 0, 1) := by decide +kernel
theorem dX11_bus_64 : decode cX11_bus 64 = .ok (.istore 6, 2) := by decide +kernel
theorem dX11_bus_66 : decode cX11_bus 66 = .ok (.iload 6, 2) := by decide +kernel
theorem dX11_bus_68 : decode cX11_bus 68 = .ok (.iload_n 2, 1) := by decide +kernel
theorem dX11_bus_69 : decode cX11_bus 69 = .ok (.if_icmp .ge 83, 3) := by decide +kernel
theorem dX11_bus_72 : decode cX11_bus 72 = .ok (.aload_n 0, 1) := by decide +kernel
theorem dX11_bus_73 : decode cX11_bus 73 = .ok (.getfield 29, 3) := by decide +kernel
theorem dX11_bus_76 : decode cX11_bus 76 = .ok (.aload_n 0, 1) := by decide +kernel
theorem dX11_bus_77 : decode cX11_bus 77 = .ok (.getfield 212, 3) := by decide +kernel
theorem dX11_bus_80 : decode cX11_bus 80 = .ok (.iload 6, 2) := by decide +kernel
theorem dX11_bus_82 : decode cX11_bus 82 = .ok (.iadd, 1) := by decide +kernel
theorem dX11_bus_83 : decode cX11_bus 83 = .ok (.iload_n 3, 1) := by decide +kernel
theorem dX11_bus_84 : decode cX11_bus 84 = .ok (.iastore, 1) := by decide +kernel
theorem dX11_bus_85 : decode cX11_bus 85 = .ok (.aload_n 0, 1) := by decide +kernel
theorem dX11_bus_86 : decode cX11_bus 86 = .ok (.getfield 32, 3) := by decide +kernel
theorem dX11_bus_89 : decode cX11_bus 89 = .ok (.aload_n 0, 1) := by decide +kernel
theorem dX11_bus_90 : decode cX11_bus 90 = .ok (.getfield 212, 3) := by decide +kernel
theorem dX11_bus_93 : decode cX11_bus 93 = .ok (.iload 6, 2) := by decide +kernel
theorem dX11_bus_95 : decode cX11_bus 95 = .ok (.iadd, 1) := by decide +kernel
theorem dX11_bus_96 : decode cX11_bus 96 = .ok (.aload_n 0, 1) := by decide +kernel
theorem dX11_bus_97 : decode cX11_bus 97 = .ok (.getfield 32, 3) := by decide +kernel
theorem dX11_bus_100 : decode cX11_bus 100 = .ok (.iload_n 1, 1) := by decide +kernel
theorem dX11_bus_101 : decode cX11_bus 101 = .ok (.iaload, 1) := by decide +kernel
theorem dX11_bus_102 : decode cX11_bus 102 = .ok (.iastore, 1) := by decide +kernel
theorem dX11_bus_103 : decode cX11_bus 103 = .ok (.iconst 0, 1) := by decide +kernel
theorem dX11_bus_104 : decode cX11_bus 104 = .ok (.istore 7, 2) := by decide +kernel
theorem dX11_bus_106 : decode cX11_bus 106 = .ok (.iload 7, 2) := by decide +kernel
theorem dX11_bus_108 : decode cX11_bus 108 = .ok (.iconst 5, 1) := by decide +kernel
theorem dX11_bus_109 : decode cX11_bus 109 = .ok (.if_icmp .ge 37, 3) := by decide +kernel
theorem dX11_bus_112 : decode cX11_bus 112 = .ok (.aload_n 0, 1) := by decide +kernel
theorem dX11_bus_113 : decode cX11_bus 113 = .ok (.getfield 35, 3) := by decide +kernel
theorem dX11_bus_116 : decode cX11_bus 116 = .ok (.iconst 5, 1) := by decide +kernel
theorem dX11_bus_117 : decode cX11_bus 117 = .ok (.aload_n 0, 1) := by decide +kernel
theorem dX11_bus_118 : decode cX11_bus 118 = .ok (.getfield 212, 3) := by decide +kernel
theorem dX11_bus_121 : decode cX11_bus 121 = .ok (.iload 6, 2) := by decide +kernel
theorem dX11_bus_123 : decode cX11_bus 123 = .ok (.iadd, 1) := by decide +kernel
theorem dX11_bus_124 : decode cX11_bus 124 = .ok (.imul, 1) := by decide +kernel
theorem dX11_bus_125 : decode cX11_bus 125 = .ok (.iload 7, 2) := by decide +kernel
theorem dX11_bus_127 : decode cX11_bus 127 = .ok (.iadd, 1) := by decide +kernel
theorem dX11_bus_128 : decode cX11_bus 128 = .ok (.aload_n 0, 1) := by decide +kernel
theorem dX11_bus_129 : decode cX11_bus 129 = .ok (.getfield 35, 3) := by decide +kernel
theorem dX11_bus_132 : decode cX11_bus 132 = .ok (.iconst 5, 1) := by decide +kernel
theorem dX11_bus_133 : decode cX11_bus 133 = .ok (.iload_n 1, 1) := by decide +kernel
theorem dX11_bus_134 : decode cX11_bus 134 = .ok (.imul, 1) := by decide +kernel
theorem dX11_bus_135 : decode cX11_bus 135 = .ok (.iload 7, 2) := by decide +kernel
theorem dX11_bus_137 : decode cX11_bus 137 = .ok (.iadd, 1) := by decide +kernel
theorem dX11_bus_138 : decode cX11_bus 138 = .ok (.iaload, 1) := by decide +kernel
theorem dX11_bus_139 : decode cX11_bus 139 = .ok (.iastore, 1) := by decide +kernel
theorem dX11_bus_140 : decode cX11_bus 140 = .ok (.iinc 7 1, 3) := by decide +kernel
theorem dX11_bus_143 : decode cX11_bus 143 = .ok (.goto (-37), 3) := by decide +kernel
theorem dX11_bus_146 : decode cX11_bus 146 = .ok (.iinc 6 1, 3) := by decide +kernel
theorem dX11_bus_149 : decode cX11_bus 149 = .ok (.goto (-83), 3) := by decide +kernel
theorem dX11_bus_152 : decode cX11_bus 152 = .ok (.aload_n 0, 1) := by decide +kernel
theorem dX11_bus_153 : decode cX11_bus 153 = .ok (.iload_n 2, 1) := by decide +kernel
theorem dX11_bus_154 : decode cX11_bus 154 = .ok (.putfield 357, 3) := by decide +kernel
theorem dX11_bus_157 : decode cX11_bus 157 = .ok (.aload_n 0, 1) := by decide +kernel
theorem dX11_bus_158 : decode cX11_bus 158 = .ok (.iload 4, 2) := by decide +kernel
theorem dX11_bus_160 : decode cX11_bus 160 = .ok (.invokevirtual 490, 3) := by decide +kernel
theorem dX11_bus_163 : decode cX11_bus 163 = .ok (.aload_n 0, 1) := by decide +kernel
theorem dX11_bus_164 : decode cX11_bus 164 = .ok (.iconst (-1), 1) := by decide +kernel
theorem dX11_bus_165 : decode cX11_bus 165 = .ok (.invokevirtual 493, 3) := by decide +kernel
theorem dX11_bus_168 : decode cX11_bus 168 = .ok (.istore 6, 2) := by decide +kernel
theorem dX11_bus_170 : decode cX11_bus 170 = .ok (.aload_n 0, 1) := by decide +kernel
theorem dX11_bus_171 : decode cX11_bus 171 = .ok (.iconst 0, 1) := by decide +kernel
theorem dX11_bus_172 : decode cX11_bus 172 = .ok (.putfield 357, 3) := by decide +kernel
theorem dX11_bus_175 : decode cX11_bus 175 = .ok (.iload 6, 2) := by decide +kernel
theorem dX11_bus_177 : decode cX11_bus 177 = .ok (.iload 5, 2) := by decide +kernel
theorem dX11_bus_179 : decode cX11_bus 179 = .ok (.isub, 1) := by decide +kernel
theorem dX11_bus_180 : decode cX11_bus 180 = .ok (.ireturn, 1) := by decide +kernel
set_option maxRecDepth 10000 in
theorem vX11_bus_0 {κ : eg_K} {d : Nat} (hd : 2 ≤ d) {post : Int32 → eg_H → Prop} (M : eg_H) (l1 : Int32) (l2 : Int32) (l3 : Int32) (l4 : Int32) (h : (∀ M1 : eg_H, M1 = (sI M (60, 0) 2 (0 : Int32)) → (∀ x3 : Int32, x3 = (fX11_isGuest M1 l1) → (x3 = 0 → post (-2147483648 : Int32) M1) ∧ ((¬ x3 = 0) → (∀ x6 : Int32, x6 = (fX11_isIn M1 l2 (1 : Int32) (6 : Int32)) → (x6 = 0 → post (-2147483648 : Int32) M1) ∧ ((¬ x6 = 0) → (∀ x9 : Int32, x9 = (fX11_isIn M1 l3 (0 : Int32) (3599 : Int32)) → (x9 = 0 → post (-2147483648 : Int32) M1) ∧ ((¬ x9 = 0) → (∀ x12 : Int32, x12 = (fX11_isTime M1 l4) → ((¬ x12 = 0) → (gX11_clears M1 ∧ (∀ M15 : eg_H, M15 = (fX11_clears M1) → eCV κ gM mtX11_runs d [vR (60, 0), vI l4] M15 (fun M17 => (gX11_waitedOf M17 (-1 : Int32) ∧ (∀ x21 : Int32, x21 = (fX11_waitedOf M17 (-1 : Int32)) → eg_W κ gM mtX11_bus d (eQI κ gM post) 66 [(0, vR (60, 0)), (1, vI l1), (2, vI l2), (3, vI l3), (4, vI l4), (5, vI x21), (6, vI (0 : Int32))] [] M17)))))) ∧ (x12 = 0 → post (-2147483648 : Int32) M1)))))))))) : eg_W κ gM mtX11_bus d (eQI κ gM post) 0 [(0, vR (60, 0)), (1, vI l1), (2, vI l2), (3, vI l3), (4, vI l4)] [] M := by
  refine eg_aload_n 0 dX11_bus_0 rfl rfl ?_
  refine eg_iconst dX11_bus_1 ic_0 ?_
  refine en_putI dX11_bus_2 fl_11_127 rfl rfl (obM_60 z1) (fun M1 eM1 => ?_)
  have h := h M1 eM1
  refine eg_aload_n 0 dX11_bus_5 rfl rfl ?_
  refine eg_iload_n 1 dX11_bus_6 rfl rfl ?_
  refine eg_callVI (av := [vI l1]) (st := []) dX11_bus_7 ml_11_472 rfl rfl (obM_60 z1) (by decide) rfl (Nat.le_of_ble_eq_true rfl) (eg_dd (by omega)) (sX11_isGuest (by omega) M1 l1  ) (fun x3 M2 hp => ?_)
  obtain ⟨ex3, eM2⟩ := hp
  rw [eM2]
  have h := h x3 ex3
  refine eg_if_eq (tgt := 42) dX11_bus_10 rfl (fun c4 => ?_) (fun c4 => ?_)
  · have h := h.1 c4
    refine eg_ldcw dX11_bus_42 kc_11_496 ?_
    exact eg_ireturn dX11_bus_45 rfl h
  · have h := h.2 c4
    refine eg_iload_n 2 dX11_bus_13 rfl rfl ?_
    refine eg_iconst dX11_bus_14 ic_1 ?_
    refine eg_bipush dX11_bus_15 bp_6 ?_
    refine eg_callSI (av := [vI l2, vI (1 : Int32), vI (6 : Int32)]) (st := []) dX11_bus_17 ml_11_171 rfl rfl (Nat.le_of_ble_eq_true rfl) (eg_dd (by omega)) (sX11_isIn (by omega) M1 l2 (1 : Int32) (6 : Int32)  ) (fun x6 M5 hp => ?_)
    obtain ⟨ex6, eM5⟩ := hp
    rw [eM5]
    have h := h x6 ex6
    refine eg_if_eq (tgt := 42) dX11_bus_20 rfl (fun c7 => ?_) (fun c7 => ?_)
    · have h := h.1 c7
      refine eg_ldcw dX11_bus_42 kc_11_496 ?_
      exact eg_ireturn dX11_bus_45 rfl h
    · have h := h.2 c7
      refine eg_iload_n 3 dX11_bus_23 rfl rfl ?_
      refine eg_iconst dX11_bus_24 ic_0 ?_
      refine eg_sipush dX11_bus_25 sp_3599 ?_
      refine eg_callSI (av := [vI l3, vI (0 : Int32), vI (3599 : Int32)]) (st := []) dX11_bus_28 ml_11_171 rfl rfl (Nat.le_of_ble_eq_true rfl) (eg_dd (by omega)) (sX11_isIn (by omega) M1 l3 (0 : Int32) (3599 : Int32)  ) (fun x9 M8 hp => ?_)
      obtain ⟨ex9, eM8⟩ := hp
      rw [eM8]
      have h := h x9 ex9
      refine eg_if_eq (tgt := 42) dX11_bus_31 rfl (fun c10 => ?_) (fun c10 => ?_)
      · have h := h.1 c10
        refine eg_ldcw dX11_bus_42 kc_11_496 ?_
        exact eg_ireturn dX11_bus_45 rfl h
      · have h := h.2 c10
        refine eg_iload 4 dX11_bus_34 rfl ?_
        refine eg_callSI (av := [vI l4]) (st := []) dX11_bus_36 ml_11_487 rfl rfl (Nat.le_of_ble_eq_true rfl) (eg_dd (by omega)) (sX11_isTime (by omega) M1 l4  ) (fun x12 M11 hp => ?_)
        obtain ⟨ex12, eM11⟩ := hp
        rw [eM11]
        have h := h x12 ex12
        refine eg_if_ne (tgt := 46) dX11_bus_39 rfl (fun c13 => ?_) (fun c13 => ?_)
        · have h := h.1 c13
          refine eg_aload_n 0 dX11_bus_46 rfl rfl ?_
          obtain ⟨g14, h⟩ := h
          refine eg_callVV (av := []) (st := []) dX11_bus_47 ml_11_243 rfl rfl (obM_60 z1) (by decide) rfl (Nat.le_of_ble_eq_true rfl) (eg_dd (by omega)) (sX11_clears (by omega) M1   g14) (fun M15 eM15 => ?_)
          have h := h M15 eM15
          refine eg_aload_n 0 dX11_bus_50 rfl rfl ?_
          refine eg_iload 4 dX11_bus_51 rfl ?_
          obtain ⟨q18, hq18, h⟩ := h
          refine eg_callVV (av := [vI l4]) (st := []) dX11_bus_53 ml_11_490 rfl rfl (obM_60 z1) (by decide) rfl (Nat.le_of_ble_eq_true rfl) (eg_dd (by omega)) hq18 (fun M17 hp => ?_)
          have h := h M17 hp
          refine eg_aload_n 0 dX11_bus_56 rfl rfl ?_
          refine eg_iconst dX11_bus_57 ic_m1 ?_
          obtain ⟨g19, h⟩ := h
          refine eg_callVI (av := [vI (-1 : Int32)]) (st := []) dX11_bus_58 ml_11_493 rfl rfl (obM_60 z1) (by decide) rfl (Nat.le_of_ble_eq_true rfl) (eg_dd (by omega)) (sX11_waitedOf (by omega) M17 (-1 : Int32)  g19) (fun x21 M20 hp => ?_)
          obtain ⟨ex21, eM20⟩ := hp
          rw [eM20]
          have h := h x21 ex21
          refine eg_istore dX11_bus_61 (by decide) (ls1 := [(5, vI x21), (0, vR (60, 0)), (1, vI l1), (2, vI l2), (3, vI l3), (4, vI l4)]) rfl ?_
          refine eg_iconst dX11_bus_63 ic_0 ?_
          refine eg_istore dX11_bus_64 (by decide) (ls1 := [(6, vI (0 : Int32)), (5, vI x21), (0, vR (60, 0)), (1, vI l1), (2, vI l2), (3, vI l3), (4, vI l4)]) rfl ?_
          refine eg_sub [2, 3, 4, 5, 6, 1, 0] rfl ?_
          exact h
        · have h := h.2 c13
          refine eg_ldcw dX11_bus_42 kc_11_496 ?_
          exact eg_ireturn dX11_bus_45 rfl h
set_option maxRecDepth 10000 in
theorem vX11_bus_66 {κ : eg_K} {d : Nat} (hd : 2 ≤ d) {post : Int32 → eg_H → Prop} (M : eg_H) (l1 : Int32) (l2 : Int32) (l3 : Int32) (l4 : Int32) (l5 : Int32) (l6 : Int32) (h : (l2 ≤ l6 → (∀ M2 : eg_H, M2 = (sI M (60, 0) 61 l2) → eCV κ gM mtX11_runs d [vR (60, 0), vI l4] M2 (fun M3 => (gX11_waitedOf M3 (-1 : Int32) ∧ (∀ x7 : Int32, x7 = (fX11_waitedOf M3 (-1 : Int32)) → (∀ M8 : eg_H, M8 = (sI M3 (60, 0) 61 (0 : Int32)) → post (x7 - l5) M8)))))) ∧ ((¬ l2 ≤ l6) → (vp_in ((M.1 (60, 0) 13) + l6) 24 ∧ (∀ M10 : eg_H, M10 = (sI M (91, 0) ((M.1 (60, 0) 13) + l6).toNatClampNeg l3) → (vp_in l1 24 ∧ (vp_in ((M10.1 (60, 0) 13) + l6) 24 ∧ (∀ M13 : eg_H, M13 = (sI M10 (92, 0) ((M10.1 (60, 0) 13) + l6).toNatClampNeg (M10.1 (92, 0) l1.toNatClampNeg)) → eg_W κ gM mtX11_bus d (eQI κ gM post) 106 [(0, vR (60, 0)), (1, vI l1), (2, vI l2), (3, vI l3), (4, vI l4), (5, vI l5), (6, vI l6), (7, vI (0 : Int32))] [] M13))))))) : eg_W κ gM mtX11_bus d (eQI κ gM post) 66 [(0, vR (60, 0)), (1, vI l1), (2, vI l2), (3, vI l3), (4, vI l4), (5, vI l5), (6, vI l6)] [] M := by
  refine eg_iload 6 dX11_bus_66 rfl ?_
  refine eg_iload_n 2 dX11_bus_68 rfl rfl ?_
  refine eg_icmp_ge (tgt := 152) dX11_bus_69 rfl (fun c1 => ?_) (fun c1 => ?_)
  · have h := h.1 c1
    refine eg_aload_n 0 dX11_bus_152 rfl rfl ?_
    refine eg_iload_n 2 dX11_bus_153 rfl rfl ?_
    refine en_putI dX11_bus_154 fl_11_357 rfl rfl (obM_60 z1) (fun M2 eM2 => ?_)
    have h := h M2 eM2
    refine eg_aload_n 0 dX11_bus_157 rfl rfl ?_
    refine eg_iload 4 dX11_bus_158 rfl ?_
    obtain ⟨q4, hq4, h⟩ := h
    refine eg_callVV (av := [vI l4]) (st := []) dX11_bus_160 ml_11_490 rfl rfl (obM_60 z1) (by decide) rfl (Nat.le_of_ble_eq_true rfl) (eg_dd (by omega)) hq4 (fun M3 hp => ?_)
    have h := h M3 hp
    refine eg_aload_n 0 dX11_bus_163 rfl rfl ?_
    refine eg_iconst dX11_bus_164 ic_m1 ?_
    obtain ⟨g5, h⟩ := h
    refine eg_callVI (av := [vI (-1 : Int32)]) (st := []) dX11_bus_165 ml_11_493 rfl rfl (obM_60 z1) (by decide) rfl (Nat.le_of_ble_eq_true rfl) (eg_dd (by omega)) (sX11_waitedOf (by omega) M3 (-1 : Int32)  g5) (fun x7 M6 hp => ?_)
    obtain ⟨ex7, eM6⟩ := hp
    rw [eM6]
    have h := h x7 ex7
    refine eg_istore dX11_bus_168 (by decide) (ls1 := [(6, vI x7), (0, vR (60, 0)), (1, vI l1), (2, vI l2), (3, vI l3), (4, vI l4), (5, vI l5)]) rfl ?_
    refine eg_aload_n 1 dX11_bus_170 rfl rfl ?_
    refine eg_iconst dX11_bus_171 ic_0 ?_
    refine en_putI dX11_bus_172 fl_11_357 rfl rfl (obM_60 z1) (fun M8 eM8 => ?_)
    have h := h M8 eM8
    refine eg_iload 0 dX11_bus_175 rfl ?_
    refine eg_iload 6 dX11_bus_177 rfl ?_
    refine eg_isub dX11_bus_179 ?_
    exact eg_ireturn dX11_bus_180 rfl h
  · have h := h.2 c1
    refine eg_aload_n 0 dX11_bus_72 rfl rfl ?_
    refine eg_getR dX11_bus_73 fl_11_29 rfl rfl (obM_60 z1) ?_
    show eg_W κ gM mtX11_bus d (eQI κ gM post) 76 [(0, vR (60, 0)), (1, vI l1), (2, vI l2), (3, vI l3), (4, vI l4), (5, vI l5), (6, vI l6)] [vR (91, 0)] M
    refine eg_aload_n 0 dX11_bus_76 rfl rfl ?_
    refine eg_getI dX11_bus_77 fl_11_212 rfl trivial (obM_60 z1) ?_
    refine eg_iload 6 dX11_bus_80 rfl ?_
    refine eg_iadd dX11_bus_82 ?_
    refine eg_iload_n 3 dX11_bus_83 rfl rfl ?_
    obtain ⟨g9, h⟩ := h
    refine en_iastore dX11_bus_84 (arM_91 z1 g9) (fun M10 eM10 => ?_)
    have h := h M10 eM10
    refine eg_aload_n 0 dX11_bus_85 rfl rfl ?_
    refine eg_getR dX11_bus_86 fl_11_32 rfl rfl (obM_60 z1) ?_
    show eg_W κ gM mtX11_bus d (eQI κ gM post) 89 [(0, vR (60, 0)), (1, vI l1), (2, vI l2), (3, vI l3), (4, vI l4), (5, vI l5), (6, vI l6)] [vR (92, 0)] M10
    refine eg_aload_n 0 dX11_bus_89 rfl rfl ?_
    refine eg_getI dX11_bus_90 fl_11_212 rfl trivial (obM_60 z1) ?_
    refine eg_iload 6 dX11_bus_93 rfl ?_
    refine eg_iadd dX11_bus_95 ?_
    refine eg_aload_n 0 dX11_bus_96 rfl rfl ?_
    refine eg_getR dX11_bus_97 fl_11_32 rfl rfl (obM_60 z1) ?_
    show eg_W κ gM mtX11_bus d (eQI κ gM post) 100 [(0, vR (60, 0)), (1, vI l1), (2, vI l2), (3, vI l3), (4, vI l4), (5, vI l5), (6, vI l6)] [vR (92, 0), vI ((M10.1 (60, 0) 13) + l6), vR (92, 0)] M10
    refine eg_iload_n 1 dX11_bus_100 rfl rfl ?_
    obtain ⟨g11, h⟩ := h
    refine eg_iaload dX11_bus_101 (arM_92 z1 g11) ?_
    obtain ⟨g12, h⟩ := h
    refine en_iastore dX11_bus_102 (arM_92 z1 g12) (fun M13 eM13 => ?_)
    have h := h M13 eM13
    refine eg_iconst dX11_bus_103 ic_0 ?_
    refine eg_istore dX11_bus_104 (by decide) (ls1 := [(7, vI (0 : Int32)), (0, vR (60, 0)), (1, vI l1), (2, vI l2), (3, vI l3), (4, vI l4), (5, vI l5), (6, vI l6)]) rfl ?_
    refine eg_sub [1, 2, 3, 4, 5, 6, 7, 0] rfl ?_
    exact h
set_option maxRecDepth 10000 in
theorem vX11_bus_106 {κ : eg_K} {d : Nat} {post : Int32 → eg_H → Prop} (M : eg_H) (l1 : Int32) (l2 : Int32) (l3 : Int32) (l4 : Int32) (l5 : Int32) (l6 : Int32) (l7 : Int32) (h : ((5 : Int32) ≤ l7 → (∀ x2 : Int32, x2 = (l6 + (1 : Int32)) → eg_W κ gM mtX11_bus d (eQI κ gM post) 66 [(0, vR (60, 0)), (1, vI l1), (2, vI l2), (3, vI l3), (4, vI l4), (5, vI l5), (6, vI x2)] [] M)) ∧ ((¬ (5 : Int32) ≤ l7) → (vp_in (((5 : Int32) * l1) + l7) 120 ∧ (vp_in (((5 : Int32) * ((M.1 (60, 0) 13) + l6)) + l7) 120 ∧ (∀ M5 : eg_H, M5 = (sI M (93, 0) (((5 : Int32) * ((M.1 (60, 0) 13) + l6)) + l7).toNatClampNeg (M.1 (93, 0) (((5 : Int32) * l1) + l7).toNatClampNeg)) → (∀ x6 : Int32, x6 = (l7 + (1 : Int32)) → eg_W κ gM mtX11_bus d (eQI κ gM post) 106 [(0, vR (60, 0)), (1, vI l1), (2, vI l2), (3, vI l3), (4, vI l4), (5, vI l5), (6, vI l6), (7, vI x6)] [] M5)))))) : eg_W κ gM mtX11_bus d (eQI κ gM post) 106 [(0, vR (60, 0)), (1, vI l1), (2, vI l2), (3, vI l3), (4, vI l4), (5, vI l5), (6, vI l6), (7, vI l7)] [] M := by
  refine eg_iload 7 dX11_bus_106 rfl ?_
  refine eg_iconst dX11_bus_108 ic_5 ?_
  refine eg_icmp_ge (tgt := 146) dX11_bus_109 rfl (fun c1 => ?_) (fun c1 => ?_)
  · have h := h.1 c1
    refine en_iinc (f := fun x2 => [(6, vI x2), (0, vR (60, 0)), (1, vI l1), (2, vI l2), (3, vI l3), (4, vI l4), (5, vI l5), (7, vI l7)]) 6 dX11_bus_146 rfl rfl (by decide) rfl (fun x2 ex2 => ?_)
    have h := h x2 ex2
    refine eg_goto (tgt := 66) dX11_bus_149 rfl ?_
    refine eg_sub [1, 2, 3, 4, 5, 6, 0] rfl ?_
    exact h
  · have h := h.2 c1
    refine eg_aload_n 0 dX11_bus_112 rfl rfl ?_
    refine eg_getR dX11_bus_113 fl_11_35 rfl rfl (obM_60 z1) ?_
    show eg_W κ gM mtX11_bus d (eQI κ gM post) 116 [(0, vR (60, 0)), (1, vI l1), (2, vI l2), (3, vI l3), (4, vI l4), (5, vI l5), (6, vI l6), (7, vI l7)] [vR (93, 0)] M
    refine eg_iconst dX11_bus_116 ic_5 ?_
    refine eg_aload_n 0 dX11_bus_117 rfl rfl ?_
    refine eg_getI dX11_bus_118 fl_11_212 rfl trivial (obM_60 z1) ?_
    refine eg_iload 6 dX11_bus_121 rfl ?_
    refine eg_iadd dX11_bus_123 ?_
    refine eg_imul dX11_bus_124 ?_
    refine eg_iload 7 dX11_bus_125 rfl ?_
    refine eg_iadd dX11_bus_127 ?_
    refine eg_aload_n 0 dX11_bus_128 rfl rfl ?_
    refine eg_getR dX11_bus_129 fl_11_35 rfl rfl (obM_60 z1) ?_
    show eg_W κ gM mtX11_bus d (eQI κ gM post) 132 [(0, vR (60, 0)), (1, vI l1), (2, vI l2), (3, vI l3), (4, vI l4), (5, vI l5), (6, vI l6), (7, vI l7)] [vR (93, 0), vI (((5 : Int32) * ((M.1 (60, 0) 13) + l6)) + l7), vR (93, 0)] M
    refine eg_iconst dX11_bus_132 ic_5 ?_
    refine eg_iload_n 1 dX11_bus_133 rfl rfl ?_
    refine eg_imul dX11_bus_134 ?_
    refine eg_iload 7 dX11_bus_135 rfl ?_
    refine eg_iadd dX11_bus_137 ?_
    obtain ⟨g3, h⟩ := h
    refine eg_iaload dX11_bus_138 (arM_93 z1 g3) ?_
    obtain ⟨g4, h⟩ := h
    refine en_iastore dX11_bus_139 (arM_93 z1 g4) (fun M5 eM5 => ?_)
    have h := h M5 eM5
    refine en_iinc (f := fun x6 => [(7, vI x6), (0, vR (60, 0)), (1, vI l1), (2, vI l2), (3, vI l3), (4, vI l4), (5, vI l5), (6, vI l6)]) 7 dX11_bus_140 rfl rfl (by decide) rfl (fun x6 ex6 => ?_)
    have h := h x6 ex6
    refine eg_goto (tgt := 106) dX11_bus_143 rfl ?_
    refine eg_sub [1, 2, 3, 4, 5, 6, 7, 0] rfl ?_
    exact h
theorem dX11_chance_0 : decode cX11_chance 0 = .ok (.aload_n 0, 1) := by decide +kernel
theorem dX11_chance_1 : decode cX11_chance 1 = .ok (.iconst 0, 1) := by decide +kernel
theorem dX11_chance_2 : decode cX11_chance 2 = .ok (.putfield 127, 3) := by decide +kernel
theorem dX11_chance_5 : decode cX11_chance 5 = .ok (.iload_n 1, 1) := by decide +kernel
theorem dX11_chance_6 : decode cX11_chance 6 = .ok (.ifCond .lt 29, 3) := by decide +kernel
theorem dX11_chance_9 : decode cX11_chance 9 = .ok (.iload_n 2, 1) := by decide +kernel
theorem dX11_chance_10 : decode cX11_chance 10 = .ok (.iconst 0, 1) := by decide +kernel
theorem dX11_chance_11 : decode cX11_chance 11 = .ok (.sipush 600, 3) := by decide +kernel
theorem dX11_chance_14 : decode cX11_chance 14 = .ok (.invokestatic 171, 3) := by decide +kernel
theorem dX11_chance_17 : decode cX11_chance 17 = .ok (.ifCond .eq 18, 3) := by decide +kernel
theorem dX11_chance_20 : decode cX11_chance 20 = .ok (.iload_n 3, 1) := by decide +kernel
theorem dX11_chance_21 : decode cX11_chance 21 = .ok (.invokestatic 487, 3) := by decide +kernel
theorem dX11_chance_24 : decode cX11_chance 24 = .ok (.ifCond .eq 11, 3) := by decide +kernel
theorem dX11_chance_27 : decode cX11_chance 27 = .ok (.iload 4, 2) := by decide +kernel
theorem dX11_chance_29 : decode cX11_chance 29 = .ok (.invokestatic 497, 3) := by decide +kernel
theorem dX11_chance_32 : decode cX11_chance 32 = .ok (.ifCond .ne 5, 3) := by decide +kernel
theorem dX11_chance_35 : decode cX11_chance 35 = .ok (.iconst (-1), 1) := by decide +kernel
theorem dX11_chance_36 : decode cX11_chance 36 = .ok (.ireturn, 1) := by decide +kernel
theorem dX11_chance_37 : decode cX11_chance 37 = .ok (.iload_n 1, 1) := by decide +kernel
theorem dX11_chance_38 : decode cX11_chance 38 = .ok (.i2l, 1) := by decide +kernel
theorem dX11_chance_39 : decode cX11_chance 39 = .ok (.lstore 5, 2) := by decide +kernel
theorem dX11_chance_41 : decode cX11_chance 41 = .ok (.iconst 0, 1) := by decide +kernel
theorem dX11_chance_42 : decode cX11_chance 42 = .ok (.istore 7, 2) := by decide +kernel
theorem dX11_chance_44 : decode cX11_chance 44 = .ok (.iconst 0, 1) := by decide +kernel
theorem dX11_chance_45 : decode cX11_chance 45 = .ok (.istore 8, 2) := by decide +kernel
theorem dX11_chance_47 : decode cX11_chance 47 = .ok (.iload 8, 2) := by decide +kernel
theorem dX11_chance_49 : decode cX11_chance 49 = .ok (.bipush 10, 2) := by decide +kernel
theorem dX11_chance_51 : decode cX11_chance 51 = .ok (.if_icmp .ge 91, 3) := by decide +kernel
theorem dX11_chance_54 : decode cX11_chance 54 = .ok (.aload_n 0, 1) := by decide +kernel
theorem dX11_chance_55 : decode cX11_chance 55 = .ok (.invokevirtual 243, 3) := by decide +kernel
theorem dX11_chance_58 : decode cX11_chance 58 = .ok (.iconst 0, 1) := by decide +kernel
theorem dX11_chance_59 : decode cX11_chance 59 = .ok (.istore 9, 2) := by decide +kernel
theorem dX11_chance_61 : decode cX11_chance 61 = .ok (.iload 9, 2) := by decide +kernel
theorem dX11_chance_63 : decode cX11_chance 63 = .ok (.aload_n 0, 1) := by decide +kernel
theorem dX11_chance_64 : decode cX11_chance 64 = .ok (.getfield 212, 3) := by decide +kernel
theorem dX11_chance_67 : decode cX11_chance 67 = .ok (.if_icmp .ge 44, 3) := by decide +kernel
theorem dX11_chance_70 : decode cX11_chance 70 = .ok (.lload 5, 2) := by decide +kernel
theorem dX11_chance_72 : decode cX11_chance 72 = .ok (.ldc2_w 519, 3) := by decide +kernel
theorem dX11_chance_75 : decode cX11_chance 75 = .ok (.lmul, 1) := by decide +kernel
theorem dX11_chance_76 : decode cX11_chance 76 = .ok (.ldc2_w 521, 3) := by decide +kernel
theorem dX11_chance_79 : decode cX11_chance 79 = .ok (.ladd, 1) := by decide +kernel
theorem dX11_chance_80 : decode cX11_chance 80 = .ok (.ldc2_w 523, 3) := by decide +kernel
theorem dX11_chance_83 : decode cX11_chance 83 = .ok (.land, 1) := by decide +kernel
theorem dX11_chance_84 : decode cX11_chance 84 = .ok (.lstore 5, 2) := by decide +kernel
theorem dX11_chance_86 : decode cX11_chance 86 = .ok (.aload_n 0, 1) := by decide +kernel
theorem dX11_chance_87 : decode cX11_chance 87 = .ok (.getfield 78, 3) := by decide +kernel
theorem dX11_chance_90 : decode cX11_chance 90 = .ok (.iload 9, 2) := by decide +kernel
theorem dX11_chance_92 : decode cX11_chance 92 = .ok (.lload 5, 2) := by decide +kernel
theorem dX11_chance_94 : decode cX11_chance 94 = .ok (.ldc2_w 525, 3) := by decide +kernel
theorem dX11_chance_97 : decode cX11_chance 97 = .ok (.ldiv, 1) := by decide +kernel
theorem dX11_chance_98 : decode cX11_chance 98 = .ok (.iload_n 2, 1) := by decide +kernel
theorem dX11_chance_99 : decode cX11_chance 99 = .ok (.iconst 1, 1) := by decide +kernel
theorem dX11_chance_100 : decode cX11_chance 100 = .ok (.iadd, 1) := by decide +kernel
theorem dX11_chance_101 : decode cX11_chance 101 = .ok (.i2l, 1) := by decide +kernel
theorem dX11_chance_102 : decode cX11_chance 102 = .ok (.lrem, 1) := by decide +kernel
theorem dX11_chance_103 : decode cX11_chance 103 = .ok (.l2i, 1) := by decide +kernel
theorem dX11_chance_104 : decode cX11_chance 104 = .ok (.iastore, 1) := by decide +kernel
theorem dX11_chance_105 : decode cX11_chance 105 = .ok (.iinc 9 1, 3) := by decide +kernel
theorem dX11_chance_108 : decode cX11_chance 108 = .ok (.goto (-47), 3) := by decide +kernel
theorem dX11_chance_111 : decode cX11_chance 111 = .ok (.aload_n 0, 1) := by decide +kernel
theorem dX11_chance_112 : decode cX11_chance 112 = .ok (.iload_n 3, 1) := by decide +kernel
theorem dX11_chance_113 : decode cX11_chance 113 = .ok (.invokevirtual 490, 3) := by decide +kernel
theorem dX11_chance_116 : decode cX11_chance 116 = .ok (.iload 7, 2) := by decide +kernel
theorem dX11_chance_118 : decode cX11_chance 118 = .ok (.aload_n 0, 1) := by decide +kernel
theorem dX11_chance_119 : decode cX11_chance 119 = .ok (.iconst (-1), 1) := by decide +kernel
theorem dX11_chance_120 : decode cX11_chance 120 = .ok (.invokevirtual 493, 3) := by decide +kernel
theorem dX11_chance_123 : decode cX11_chance 123 = .ok (.iload 4, 2) := by decide +kernel
theorem dX11_chance_125 : decode cX11_chance 125 = .ok (.if_icmp .le 7, 3) := by decide +kernel
theorem dX11_chance_128 : decode cX11_chance 128 = .ok (.iconst 1, 1) := by decide +kernel
theorem dX11_chance_129 : decode cX11_chance 129 = .ok (.goto 4, 3) := by decide +kernel
theorem dX11_chance_132 : decode cX11_chance 132 = .ok (.iconst 0, 1) := by decide +kernel
theorem dX11_chance_133 : decode cX11_chance 133 = .ok (.iadd, 1) := by decide +kernel
theorem dX11_chance_134 : decode cX11_chance 134 = .ok (.istore 7, 2) := by decide +kernel
theorem dX11_chance_136 : decode cX11_chance 136 = .ok (.iinc 8 1, 3) := by decide +kernel
theorem dX11_chance_139 : decode cX11_chance 139 = .ok (.goto (-92), 3) := by decide +kernel
theorem dX11_chance_142 : decode cX11_chance 142 = .ok (.iload 7, 2) := by decide +kernel
theorem dX11_chance_144 : decode cX11_chance 144 = .ok (.ireturn, 1) := by decide +kernel
set_option maxRecDepth 10000 in
theorem vX11_chance_0 {κ : eg_K} {d : Nat} (hd : 2 ≤ d) {post : Int32 → eg_H → Prop} (M : eg_H) (l1 : Int32) (l2 : Int32) (l3 : Int32) (l4 : Int32) (h : (∀ M1 : eg_H, M1 = (sI M (60, 0) 2 (0 : Int32)) → (l1 < 0 → post (-1 : Int32) M1) ∧ ((¬ l1 < 0) → (∀ x4 : Int32, x4 = (fX11_isIn M1 l2 (0 : Int32) (600 : Int32)) → (x4 = 0 → post (-1 : Int32) M1) ∧ ((¬ x4 = 0) → (∀ x7 : Int32, x7 = (fX11_isTime M1 l3) → (x7 = 0 → post (-1 : Int32) M1) ∧ ((¬ x7 = 0) → (∀ x10 : Int32, x10 = (fX11_isBound M1 l4) → ((¬ x10 = 0) → (∀ x12 : Int64, x12 = (l1.toInt64) → eg_W κ gM mtX11_chance d (eQI κ gM post) 47 [(0, vR (60, 0)), (2, vI l2), (3, vI l3), (4, vI l4), (5, vL x12), (7, vI (0 : Int32)), (8, vI (0 : Int32))] [] M1)) ∧ (x10 = 0 → post (-1 : Int32) M1))))))))) : eg_W κ gM mtX11_chance d (eQI κ gM post) 0 [(0, vR (60, 0)), (1, vI l1), (2, vI l2), (3, vI l3), (4, vI l4)] [] M := by
  refine eg_aload_n 0 dX11_chance_0 rfl rfl ?_
  refine eg_iconst dX11_chance_1 ic_0 ?_
  refine en_putI dX11_chance_2 fl_11_127 rfl rfl (obM_60 z1) (fun M1 eM1 => ?_)
  have h := h M1 eM1
  refine eg_iload_n 1 dX11_chance_5 rfl rfl ?_
  refine eg_if_lt (tgt := 35) dX11_chance_6 rfl (fun c2 => ?_) (fun c2 => ?_)
  · have h := h.1 c2
    refine eg_iconst dX11_chance_35 ic_m1 ?_
    exact eg_ireturn dX11_chance_36 rfl h
  · have h := h.2 c2
    refine eg_iload_n 2 dX11_chance_9 rfl rfl ?_
    refine eg_iconst dX11_chance_10 ic_0 ?_
    refine eg_sipush dX11_chance_11 sp_600 ?_
    refine eg_callSI (av := [vI l2, vI (0 : Int32), vI (600 : Int32)]) (st := []) dX11_chance_14 ml_11_171 rfl rfl (Nat.le_of_ble_eq_true rfl) (eg_dd (by omega)) (sX11_isIn (by omega) M1 l2 (0 : Int32) (600 : Int32)  ) (fun x4 M3 hp => ?_)
    obtain ⟨ex4, eM3⟩ := hp
    rw [eM3]
    have h := h x4 ex4
    refine eg_if_eq (tgt := 35) dX11_chance_17 rfl (fun c5 => ?_) (fun c5 => ?_)
    · have h := h.1 c5
      refine eg_iconst dX11_chance_35 ic_m1 ?_
      exact eg_ireturn dX11_chance_36 rfl h
    · have h := h.2 c5
      refine eg_iload_n 3 dX11_chance_20 rfl rfl ?_
      refine eg_callSI (av := [vI l3]) (st := []) dX11_chance_21 ml_11_487 rfl rfl (Nat.le_of_ble_eq_true rfl) (eg_dd (by omega)) (sX11_isTime (by omega) M1 l3  ) (fun x7 M6 hp => ?_)
      obtain ⟨ex7, eM6⟩ := hp
      rw [eM6]
      have h := h x7 ex7
      refine eg_if_eq (tgt := 35) dX11_chance_24 rfl (fun c8 => ?_) (fun c8 => ?_)
      · have h := h.1 c8
        refine eg_iconst dX11_chance_35 ic_m1 ?_
        exact eg_ireturn dX11_chance_36 rfl h
      · have h := h.2 c8
        refine eg_iload 4 dX11_chance_27 rfl ?_
        refine eg_callSI (av := [vI l4]) (st := []) dX11_chance_29 ml_11_497 rfl rfl (Nat.le_of_ble_eq_true rfl) (eg_dd (by omega)) (sX11_isBound (by omega) M1 l4  ) (fun x10 M9 hp => ?_)
        obtain ⟨ex10, eM9⟩ := hp
        rw [eM9]
        have h := h x10 ex10
        refine eg_if_ne (tgt := 37) dX11_chance_32 rfl (fun c11 => ?_) (fun c11 => ?_)
        · have h := h.1 c11
          refine eg_iload_n 1 dX11_chance_37 rfl rfl ?_
          refine eg_i2l dX11_chance_38 ?_
          refine en_lstore (f := fun x12 => [(5, vL x12), (0, vR (60, 0)), (1, vI l1), (2, vI l2), (3, vI l3), (4, vI l4)]) dX11_chance_39 (by decide) rfl (fun x12 ex12 => ?_)
          have h := h x12 ex12
          refine eg_iconst dX11_chance_41 ic_0 ?_
          refine eg_istore dX11_chance_42 (by decide) (ls1 := [(7, vI (0 : Int32)), (5, vL x12), (0, vR (60, 0)), (1, vI l1), (2, vI l2), (3, vI l3), (4, vI l4)]) rfl ?_
          refine eg_iconst dX11_chance_44 ic_0 ?_
          refine eg_istore dX11_chance_45 (by decide) (ls1 := [(8, vI (0 : Int32)), (7, vI (0 : Int32)), (5, vL x12), (0, vR (60, 0)), (1, vI l1), (2, vI l2), (3, vI l3), (4, vI l4)]) rfl ?_
          refine eg_sub [3, 5, 6, 7, 2, 1, 0] rfl ?_
          exact h
        · have h := h.2 c11
          refine eg_iconst dX11_chance_35 ic_m1 ?_
          exact eg_ireturn dX11_chance_36 rfl h
set_option maxRecDepth 10000 in
theorem vX11_chance_47 {κ : eg_K} {d : Nat} (hd : 1 ≤ d) {post : Int32 → eg_H → Prop} (M : eg_H) (l2 : Int32) (l3 : Int32) (l4 : Int32) (l5 : Int64) (l7 : Int32) (l8 : Int32) (h : ((10 : Int32) ≤ l8 → post l7 M) ∧ ((¬ (10 : Int32) ≤ l8) → (gX11_clears M ∧ (∀ M3 : eg_H, M3 = (fX11_clears M) → eg_W κ gM mtX11_chance d (eQI κ gM post) 61 [(0, vR (60, 0)), (2, vI l2), (3, vI l3), (4, vI l4), (5, vL l5), (7, vI l7), (8, vI l8), (9, vI (0 : Int32))] [] M3)))) : eg_W κ gM mtX11_chance d (eQI κ gM post) 47 [(0, vR (60, 0)), (2, vI l2), (3, vI l3), (4, vI l4), (5, vL l5), (7, vI l7), (8, vI l8)] [] M := by
  refine eg_iload 6 dX11_chance_47 rfl ?_
  refine eg_bipush dX11_chance_49 bp_10 ?_
  refine eg_icmp_ge (tgt := 142) dX11_chance_51 rfl (fun c1 => ?_) (fun c1 => ?_)
  · have h := h.1 c1
    refine eg_iload 5 dX11_chance_142 rfl ?_
    exact eg_ireturn dX11_chance_144 rfl h
  · have h := h.2 c1
    refine eg_aload_n 0 dX11_chance_54 rfl rfl ?_
    obtain ⟨g2, h⟩ := h
    refine eg_callVV (av := []) (st := []) dX11_chance_55 ml_11_243 rfl rfl (obM_60 z1) (by decide) rfl (Nat.le_of_ble_eq_true rfl) (eg_dd (by omega)) (sX11_clears (by omega) M   g2) (fun M3 eM3 => ?_)
    have h := h M3 eM3
    refine eg_iconst dX11_chance_58 ic_0 ?_
    refine eg_istore dX11_chance_59 (by decide) (ls1 := [(9, vI (0 : Int32)), (0, vR (60, 0)), (2, vI l2), (3, vI l3), (4, vI l4), (5, vL l5), (7, vI l7), (8, vI l8)]) rfl ?_
    refine eg_sub [1, 2, 3, 4, 5, 6, 7, 0] rfl ?_
    exact h
set_option maxRecDepth 10000 in
theorem vX11_chance_61 {κ : eg_K} {d : Nat} (hd : 2 ≤ d) {post : Int32 → eg_H → Prop} (M : eg_H) (l2 : Int32) (l3 : Int32) (l4 : Int32) (l5 : Int64) (l7 : Int32) (l8 : Int32) (l9 : Int32) (h : ((M.1 (60, 0) 13) ≤ l9 → eCV κ gM mtX11_runs d [vR (60, 0), vI l3] M (fun M2 => (gX11_waitedOf M2 (-1 : Int32) ∧ (∀ x6 : Int32, x6 = (fX11_waitedOf M2 (-1 : Int32)) → (∀ x7 : Int32, x7 = ((if x6 ≤ l4 then (0 : Int32) else (1 : Int32))) → (∀ x8 : Int32, x8 = (l7 + x7) → (∀ x9 : Int32, x9 = (l8 + (1 : Int32)) → eg_W κ gM mtX11_chance d (eQI κ gM post) 47 [(0, vR (60, 0)), (2, vI l2), (3, vI l3), (4, vI l4), (5, vL l5), (7, vI x8), (8, vI x9)] [] M2))))))) ∧ ((¬ (M.1 (60, 0) 13) ≤ l9) → (∀ x11 : Int64, x11 = (((l5 * (1103515245 : Int64)) + (12345 : Int64)) &&& (2147483647 : Int64)) → ((¬ ((l2 + (1 : Int32)).toInt64) = 0) ∧ (vp_in l9 15 ∧ (∀ M14 : eg_H, M14 = (sI M (125, 0) l9.toNatClampNeg (((x11 / (65536 : Int64)) - (x11 / (65536 : Int64)) / ((l2 + (1 : Int32)).toInt64) * ((l2 + (1 : Int32)).toInt64)).toInt32)) → (∀ x15 : Int32, x15 = (l9 + (1 : Int32)) → eg_W κ gM mtX11_chance d (eQI κ gM post) 61 [(0, vR (60, 0)), (2, vI l2), (3, vI l3), (4, vI l4), (5, vL x11), (7, vI l7), (8, vI l8), (9, vI x15)] [] M14))))))) : eg_W κ gM mtX11_chance d (eQI κ gM post) 61 [(0, vR (60, 0)), (2, vI l2), (3, vI l3), (4, vI l4), (5, vL l5), (7, vI l7), (8, vI l8), (9, vI l9)] [] M := by
  refine eg_iload 7 dX11_chance_61 rfl ?_
  refine eg_aload_n 0 dX11_chance_63 rfl rfl ?_
  refine eg_getI dX11_chance_64 fl_11_212 rfl trivial (obM_60 z1) ?_
  refine eg_icmp_ge (tgt := 111) dX11_chance_67 rfl (fun c1 => ?_) (fun c1 => ?_)
  · have h := h.1 c1
    refine eg_aload_n 0 dX11_chance_111 rfl rfl ?_
    refine eg_iload_n 2 dX11_chance_112 rfl rfl ?_
    obtain ⟨q3, hq3, h⟩ := h
    refine eg_callVV (av := [vI l3]) (st := []) dX11_chance_113 ml_11_490 rfl rfl (obM_60 z1) (by decide) rfl (Nat.le_of_ble_eq_true rfl) (eg_dd (by omega)) hq3 (fun M2 hp => ?_)
    have h := h M2 hp
    refine eg_iload 5 dX11_chance_116 rfl ?_
    refine eg_aload_n 0 dX11_chance_118 rfl rfl ?_
    refine eg_iconst dX11_chance_119 ic_m1 ?_
    obtain ⟨g4, h⟩ := h
    refine eg_callVI (av := [vI (-1 : Int32)]) (st := [vI l7]) dX11_chance_120 ml_11_493 rfl rfl (obM_60 z1) (by decide) rfl (Nat.le_of_ble_eq_true rfl) (eg_dd (by omega)) (sX11_waitedOf (by omega) M2 (-1 : Int32)  g4) (fun x6 M5 hp => ?_)
    obtain ⟨ex6, eM5⟩ := hp
    rw [eM5]
    have h := h x6 ex6
    refine eg_iload 3 dX11_chance_123 rfl ?_
    have J : ∀ x7 : Int32, x7 = (if x6 ≤ l4 then (0 : Int32) else (1 : Int32)) → eg_W κ gM mtX11_chance d (eQI κ gM post) 133 [(0, vR (60, 0)), (2, vI l2), (3, vI l3), (4, vI l4), (5, vL l5), (7, vI l7), (8, vI l8), (9, vI l9)] [vI x7, vI l7] M2 := by
      intro x7 ex7
      have h := h x7 ex7
      refine eg_iadd dX11_chance_133 ?_
      refine en_istore (f := fun x8 => [(7, vI x8), (0, vR (60, 0)), (2, vI l2), (3, vI l3), (4, vI l4), (5, vL l5), (8, vI l8), (9, vI l9)]) dX11_chance_134 (by decide) rfl (fun x8 ex8 => ?_)
      have h := h x8 ex8
      refine en_iinc (f := fun x9 => [(8, vI x9), (7, vI x8), (0, vR (60, 0)), (2, vI l2), (3, vI l3), (4, vI l4), (5, vL l5), (9, vI l9)]) 6 dX11_chance_136 rfl rfl (by decide) rfl (fun x9 ex9 => ?_)
      have h := h x9 ex9
      refine eg_goto (tgt := 47) dX11_chance_139 rfl ?_
      refine eg_sub [2, 3, 4, 5, 6, 1, 0] rfl ?_
      exact h
    clear h
    refine eg_icmp_le (tgt := 132) dX11_chance_125 rfl (fun c10 => ?_) (fun c10 => ?_)
    · refine eg_iconst dX11_chance_132 ic_0 ?_
      exact J _ (by rw [if_pos c10])
    · refine eg_iconst dX11_chance_128 ic_1 ?_
      refine eg_goto (tgt := 133) dX11_chance_129 rfl ?_
      exact J _ (by rw [if_neg c10])
  · have h := h.2 c1
    refine eg_lload 4 dX11_chance_70 rfl ?_
    refine eg_ldc2 dX11_chance_72 kc_11_519 ?_
    refine eg_lmul dX11_chance_75 ?_
    refine eg_ldc2 dX11_chance_76 kc_11_521 ?_
    refine eg_ladd dX11_chance_79 ?_
    refine eg_ldc2 dX11_chance_80 kc_11_523 ?_
    refine eg_land dX11_chance_83 ?_
    refine en_lstore (f := fun x11 => [(5, vL x11), (0, vR (60, 0)), (2, vI l2), (3, vI l3), (4, vI l4), (7, vI l7), (8, vI l8), (9, vI l9)]) dX11_chance_84 (by decide) rfl (fun x11 ex11 => ?_)
    have h := h x11 ex11
    refine eg_aload_n 1 dX11_chance_86 rfl rfl ?_
    refine eg_getR dX11_chance_87 fl_11_78 rfl rfl (obM_60 z1) ?_
    show eg_W κ gM mtX11_chance d (eQI κ gM post) 90 [(5, vL x11), (0, vR (60, 0)), (2, vI l2), (3, vI l3), (4, vI l4), (7, vI l7), (8, vI l8), (9, vI l9)] [vR (125, 0)] M
    refine eg_iload 7 dX11_chance_90 rfl ?_
    refine eg_lload 0 dX11_chance_92 rfl ?_
    refine eg_ldc2 dX11_chance_94 kc_11_525 ?_
    refine eg_ldiv dX11_chance_97 (by decide) ?_
    refine eg_iload_n 2 dX11_chance_98 rfl rfl ?_
    refine eg_iconst dX11_chance_99 ic_1 ?_
    refine eg_iadd dX11_chance_100 ?_
    refine eg_i2l dX11_chance_101 ?_
    obtain ⟨g12, h⟩ := h
    refine eg_lrem dX11_chance_102 g12 ?_
    refine eg_l2i dX11_chance_103 ?_
    obtain ⟨g13, h⟩ := h
    refine en_iastore dX11_chance_104 (arM_125 z1 g13) (fun M14 eM14 => ?_)
    have h := h M14 eM14
    refine en_iinc (f := fun x15 => [(9, vI x15), (5, vL x11), (0, vR (60, 0)), (2, vI l2), (3, vI l3), (4, vI l4), (7, vI l7), (8, vI l8)]) 7 dX11_chance_105 rfl rfl (by decide) rfl (fun x15 ex15 => ?_)
    have h := h x15 ex15
    refine eg_goto (tgt := 61) dX11_chance_108 rfl ?_
    refine eg_sub [2, 3, 4, 5, 1, 6, 7, 0] rfl ?_
    exact h
theorem dX11_law_0 : decode cX11_law 0 = .ok (.aload_n 0, 1) := by decide +kernel
theorem dX11_law_1 : decode cX11_law 1 = .ok (.iconst 0, 1) := by decide +kernel
theorem dX11_law_2 : decode cX11_law 2 = .ok (.putfield 127, 3) := by decide +kernel
theorem dX11_law_5 : decode cX11_law 5 = .ok (.iload_n 1, 1) := by decide +kernel
theorem dX11_law_6 : decode cX11_law 6 = .ok (.iconst 0, 1) := by decide +kernel
theorem dX11_law_7 : decode cX11_law 7 = .ok (.iconst 2, 1) := by decide +kernel
theorem dX11_law_8 : decode cX11_law 8 = .ok (.invokestatic 171, 3) := by decide +kernel
theorem dX11_law_11 : decode cX11_law 11 = .ok (.ifCond .eq 58, 3) := by decide +kernel
theorem dX11_law_14 : decode cX11_law 14 = .ok (.aload_n 0, 1) := by decide +kernel
theorem dX11_law_15 : decode cX11_law 15 = .ok (.getfield 50, 3) := by decide +kernel
theorem dX11_law_18 : decode cX11_law 18 = .ok (.iload_n 1, 1) := by decide +kernel
theorem dX11_law_19 : decode cX11_law 19 = .ok (.baload, 1) := by decide +kernel
theorem dX11_law_20 : decode cX11_law 20 = .ok (.ifCond .eq 49, 3) := by decide +kernel
theorem dX11_law_23 : decode cX11_law 23 = .ok (.iload_n 2, 1) := by decide +kernel
theorem dX11_law_24 : decode cX11_law 24 = .ok (.iconst 0, 1) := by decide +kernel
theorem dX11_law_25 : decode cX11_law 25 = .ok (.sipush 9999, 3) := by decide +kernel
theorem dX11_law_28 : decode cX11_law 28 = .ok (.invokestatic 171, 3) := by decide +kernel
theorem dX11_law_31 : decode cX11_law 31 = .ok (.ifCond .eq 38, 3) := by decide +kernel
theorem dX11_law_34 : decode cX11_law 34 = .ok (.iload_n 3, 1) := by decide +kernel
theorem dX11_law_35 : decode cX11_law 35 = .ok (.iconst 0, 1) := by decide +kernel
theorem dX11_law_36 : decode cX11_law 36 = .ok (.sipush 9999, 3) := by decide +kernel
theorem dX11_law_39 : decode cX11_law 39 = .ok (.invokestatic 171, 3) := by decide +kernel
theorem dX11_law_42 : decode cX11_law 42 = .ok (.ifCond .eq 27, 3) := by decide +kernel
theorem dX11_law_45 : decode cX11_law 45 = .ok (.iload 4, 2) := by decide +kernel
theorem dX11_law_47 : decode cX11_law 47 = .ok (.iconst 0, 1) := by decide +kernel
theorem dX11_law_48 : decode cX11_law 48 = .ok (.sipush 9999, 3) := by decide +kernel
theorem dX11_law_51 : decode cX11_law 51 = .ok (.invokestatic 171, 3) := by decide +kernel
theorem dX11_law_54 : decode cX11_law 54 = .ok (.ifCond .eq 15, 3) := by decide +kernel
theorem dX11_law_57 : decode cX11_law 57 = .ok (.iload 5, 2) := by decide +kernel
theorem dX11_law_59 : decode cX11_law 59 = .ok (.iconst 0, 1) := by decide +kernel
theorem dX11_law_60 : decode cX11_law 60 = .ok (.sipush 9999, 3) := by decide +kernel
theorem dX11_law_63 : decode cX11_law 63 = .ok (.invokestatic 171, 3) := by decide +kernel
theorem dX11_law_66 : decode cX11_law 66 = .ok (.ifCond .ne 7, 3) := by decide +kernel
theorem dX11_law_69 : decode cX11_law 69 = .ok (.ldc2_w 527, 3) := by decide +kernel
theorem dX11_law_72 : decode cX11_law 72 = .ok (.lreturn, 1) := by decide +kernel
theorem dX11_law_73 : decode cX11_law 73 = .ok (.aload_n 0, 1) := by decide +kernel
theorem dX11_law_74 : decode cX11_law 74 = .ok (.getfield 84, 3) := by decide +kernel
theorem dX11_law_77 : decode cX11_law 77 = .ok (.iconst 0, 1) := by decide +kernel
theorem dX11_law_78 : decode cX11_law 78 = .ok (.iload_n 2, 1) := by decide +kernel
theorem dX11_law_79 : decode cX11_law 79 = .ok (.i2l, 1) := by decide +kernel
theorem dX11_law_80 : decode cX11_law 80 = .ok (.lastore, 1) := by decide +kernel
theorem dX11_law_81 : decode cX11_law 81 = .ok (.aload_n 0, 1) := by decide +kernel
theorem dX11_law_82 : decode cX11_law 82 = .ok (.getfield 84, 3) := by decide +kernel
theorem dX11_law_85 : decode cX11_law 85 = .ok (.iconst 1, 1) := by decide +kernel
theorem dX11_law_86 : decode cX11_law 86 = .ok (.iload_n 3, 1) := by decide +kernel
theorem dX11_law_87 : decode cX11_law 87 = .ok (.i2l, 1) := by decide +kernel
theorem dX11_law_88 : decode cX11_law 88 = .ok (.lastore, 1) := by decide +kernel
theorem dX11_law_89 : decode cX11_law 89 = .ok (.aload_n 0, 1) := by decide +kernel
theorem dX11_law_90 : decode cX11_law 90 = .ok (.getfield 84, 3) := by decide +kernel
theorem dX11_law_93 : decode cX11_law 93 = .ok (.iconst 2, 1) := by decide +kernel
theorem dX11_law_94 : decode cX11_law 94 = .ok (.iload 4, 2) := by decide +kernel
theorem dX11_law_96 : decode cX11_law 96 = .ok (.i2l, 1) := by decide +kernel
theorem dX11_law_97 : decode cX11_law 97 = .ok (.lastore, 1) := by decide +kernel
theorem dX11_law_98 : decode cX11_law 98 = .ok (.aload_n 0, 1) := by decide +kernel
theorem dX11_law_99 : decode cX11_law 99 = .ok (.getfield 84, 3) := by decide +kernel
theorem dX11_law_102 : decode cX11_law 102 = .ok (.iconst 3, 1) := by decide +kernel
theorem dX11_law_103 : decode cX11_law 103 = .ok (.lconst 0, 1) := by decide +kernel
theorem dX11_law_104 : decode cX11_law 104 = .ok (.lastore, 1) := by decide +kernel
theorem dX11_law_105 : decode cX11_law 105 = .ok (.aload_n 0, 1) := by decide +kernel
theorem dX11_law_106 : decode cX11_law 106 = .ok (.getfield 84, 3) := by decide +kernel
theorem dX11_law_109 : decode cX11_law 109 = .ok (.iconst 4, 1) := by decide +kernel
theorem dX11_law_110 : decode cX11_law 110 = .ok (.iload 5, 2) := by decide +kernel
theorem dX11_law_112 : decode cX11_law 112 = .ok (.i2l, 1) := by decide +kernel
theorem dX11_law_113 : decode cX11_law 113 = .ok (.lastore, 1) := by decide +kernel
theorem dX11_law_114 : decode cX11_law 114 = .ok (.aload_n 0, 1) := by decide +kernel
theorem dX11_law_115 : decode cX11_law 115 = .ok (.getfield 84, 3) := by decide +kernel
theorem dX11_law_118 : decode cX11_law 118 = .ok (.iconst 5, 1) := by decide +kernel
theorem dX11_law_119 : decode cX11_law 119 = .ok (.lconst 0, 1) := by decide +kernel
theorem dX11_law_120 : decode cX11_law 120 = .ok (.lastore, 1) := by decide +kernel
theorem dX11_law_121 : decode cX11_law 121 = .ok (.aload_n 0, 1) := by decide +kernel
theorem dX11_law_122 : decode cX11_law 122 = .ok (.getfield 84, 3) := by decide +kernel
theorem dX11_law_125 : decode cX11_law 125 = .ok (.bipush 6, 2) := by decide +kernel
theorem dX11_law_127 : decode cX11_law 127 = .ok (.iload_n 3, 1) := by decide +kernel
theorem dX11_law_128 : decode cX11_law 128 = .ok (.i2l, 1) := by decide +kernel
theorem dX11_law_129 : decode cX11_law 129 = .ok (.lastore, 1) := by decide +kernel
theorem dX11_law_130 : decode cX11_law 130 = .ok (.aload_n 0, 1) := by decide +kernel
theorem dX11_law_131 : decode cX11_law 131 = .ok (.getfield 84, 3) := by decide +kernel
theorem dX11_law_134 : decode cX11_law 134 = .ok (.bipush 7, 2) := by decide +kernel
theorem dX11_law_136 : decode cX11_law 136 = .ok (.lconst 0, 1) := by decide +kernel
theorem dX11_law_137 : decode cX11_law 137 = .ok (.lastore, 1) := by decide +kernel
theorem dX11_law_138 : decode cX11_law 138 = .ok (.aload_n 0, 1) := by decide +kernel
theorem dX11_law_139 : decode cX11_law 139 = .ok (.iload_n 1, 1) := by decide +kernel
theorem dX11_law_140 : decode cX11_law 140 = .ok (.invokevirtual 409, 3) := by decide +kernel
theorem dX11_law_143 : decode cX11_law 143 = .ok (.lstore 6, 2) := by decide +kernel
theorem dX11_law_145 : decode cX11_law 145 = .ok (.aload_n 0, 1) := by decide +kernel
theorem dX11_law_146 : decode cX11_law 146 = .ok (.getfield 383, 3) := by decide +kernel
theorem dX11_law_149 : decode cX11_law 149 = .ok (.ifCond .eq 9, 3) := by decide +kernel
theorem dX11_law_152 : decode cX11_law 152 = .ok (.ldc2_w 527, 3) := by decide +kernel
theorem dX11_law_155 : decode cX11_law 155 = .ok (.goto 5, 3) := by decide +kernel
theorem dX11_law_158 : decode cX11_law 158 = .ok (.lload 6, 2) := by decide +kernel
theorem dX11_law_160 : decode cX11_law 160 = .ok (.lreturn, 1) := by decide +kernel
set_option maxRecDepth 10000 in
theorem vX11_law_0 {κ : eg_K} {d : Nat} (hd : 3 ≤ d) {post : Int64 → eg_H → Prop} (M : eg_H) (l1 : Int32) (l2 : Int32) (l3 : Int32) (l4 : Int32) (l5 : Int32) (h : (∀ M1 : eg_H, M1 = (sI M (60, 0) 2 (0 : Int32)) → (∀ x3 : Int32, x3 = (fX11_isIn M1 l1 (0 : Int32) (2 : Int32)) → (x3 = 0 → eg_W κ gM mtX11_law d (eQL κ gM post) 69 [] [] M1) ∧ ((¬ x3 = 0) → (vp_in l1 6 ∧ ((M1.1 (98, 0) l1.toNatClampNeg) = 0 → eg_W κ gM mtX11_law d (eQL κ gM post) 69 [] [] M1) ∧ ((¬ (M1.1 (98, 0) l1.toNatClampNeg) = 0) → (∀ x8 : Int32, x8 = (fX11_isIn M1 l2 (0 : Int32) (9999 : Int32)) → (x8 = 0 → eg_W κ gM mtX11_law d (eQL κ gM post) 69 [] [] M1) ∧ ((¬ x8 = 0) → (∀ x11 : Int32, x11 = (fX11_isIn M1 l3 (0 : Int32) (9999 : Int32)) → (x11 = 0 → eg_W κ gM mtX11_law d (eQL κ gM post) 69 [] [] M1) ∧ ((¬ x11 = 0) → (∀ x14 : Int32, x14 = (fX11_isIn M1 l4 (0 : Int32) (9999 : Int32)) → (x14 = 0 → eg_W κ gM mtX11_law d (eQL κ gM post) 69 [] [] M1) ∧ ((¬ x14 = 0) → (∀ x17 : Int32, x17 = (fX11_isIn M1 l5 (0 : Int32) (9999 : Int32)) → ((¬ x17 = 0) → (vp_in (0 : Int32) 8 ∧ (∀ M20 : eg_H, M20 = (sL M1 (127, 0) (0 : Int32).toNatClampNeg (l2.toInt64)) → (vp_in (1 : Int32) 8 ∧ (∀ M22 : eg_H, M22 = (sL M20 (127, 0) (1 : Int32).toNatClampNeg (l3.toInt64)) → (vp_in (2 : Int32) 8 ∧ (∀ M24 : eg_H, M24 = (sL M22 (127, 0) (2 : Int32).toNatClampNeg (l4.toInt64)) → (vp_in (3 : Int32) 8 ∧ (∀ M26 : eg_H, M26 = (sL M24 (127, 0) (3 : Int32).toNatClampNeg (0 : Int64)) → (vp_in (4 : Int32) 8 ∧ (∀ M28 : eg_H, M28 = (sL M26 (127, 0) (4 : Int32).toNatClampNeg (l5.toInt64)) → (vp_in (5 : Int32) 8 ∧ (∀ M30 : eg_H, M30 = (sL M28 (127, 0) (5 : Int32).toNatClampNeg (0 : Int64)) → (vp_in (6 : Int32) 8 ∧ (∀ M32 : eg_H, M32 = (sL M30 (127, 0) (6 : Int32).toNatClampNeg (l3.toInt64)) → (vp_in (7 : Int32) 8 ∧ (∀ M34 : eg_H, M34 = (sL M32 (127, 0) (7 : Int32).toNatClampNeg (0 : Int64)) → (gX11_sumOf M34 l1 ∧ (∀ (x37 : Int64) (M36 : eg_H), (x37, M36) = fX11_sumOf M34 l1 → (∀ x38 : Int64, x38 = ((if (M36.1 (60, 0) 68) = 0 then x37 else (-9223372036854775808 : Int64))) → post x38 M36)))))))))))))))))))) ∧ (x17 = 0 → eg_W κ gM mtX11_law d (eQL κ gM post) 69 [] [] M1)))))))))))))) : eg_W κ gM mtX11_law d (eQL κ gM post) 0 [(0, vR (60, 0)), (1, vI l1), (2, vI l2), (3, vI l3), (4, vI l4), (5, vI l5)] [] M := by
  refine eg_aload_n 0 dX11_law_0 rfl rfl ?_
  refine eg_iconst dX11_law_1 ic_0 ?_
  refine en_putI dX11_law_2 fl_11_127 rfl rfl (obM_60 z1) (fun M1 eM1 => ?_)
  have h := h M1 eM1
  refine eg_iload_n 1 dX11_law_5 rfl rfl ?_
  refine eg_iconst dX11_law_6 ic_0 ?_
  refine eg_iconst dX11_law_7 ic_2 ?_
  refine eg_callSI (av := [vI l1, vI (0 : Int32), vI (2 : Int32)]) (st := []) dX11_law_8 ml_11_171 rfl rfl (Nat.le_of_ble_eq_true rfl) (eg_dd (by omega)) (sX11_isIn (by omega) M1 l1 (0 : Int32) (2 : Int32)  ) (fun x3 M2 hp => ?_)
  obtain ⟨ex3, eM2⟩ := hp
  rw [eM2]
  have h := h x3 ex3
  refine eg_if_eq (tgt := 69) dX11_law_11 rfl (fun c4 => ?_) (fun c4 => ?_)
  · have h := h.1 c4
    refine eg_sub [] rfl ?_
    exact h
  · have h := h.2 c4
    refine eg_aload_n 0 dX11_law_14 rfl rfl ?_
    refine eg_getR dX11_law_15 fl_11_50 rfl rfl (obM_60 z1) ?_
    show eg_W κ gM mtX11_law d (eQL κ gM post) 18 [(0, vR (60, 0)), (1, vI l1), (2, vI l2), (3, vI l3), (4, vI l4), (5, vI l5)] [vR (98, 0)] M1
    refine eg_iload_n 1 dX11_law_18 rfl rfl ?_
    obtain ⟨g5, h⟩ := h
    refine eg_zaload dX11_law_19 (arM_98 z1 g5) ?_
    refine eg_if_eq (tgt := 69) dX11_law_20 rfl (fun c6 => ?_) (fun c6 => ?_)
    · have h := h.1 c6
      refine eg_sub [] rfl ?_
      exact h
    · have h := h.2 c6
      refine eg_iload_n 2 dX11_law_23 rfl rfl ?_
      refine eg_iconst dX11_law_24 ic_0 ?_
      refine eg_sipush dX11_law_25 sp_9999 ?_
      refine eg_callSI (av := [vI l2, vI (0 : Int32), vI (9999 : Int32)]) (st := []) dX11_law_28 ml_11_171 rfl rfl (Nat.le_of_ble_eq_true rfl) (eg_dd (by omega)) (sX11_isIn (by omega) M1 l2 (0 : Int32) (9999 : Int32)  ) (fun x8 M7 hp => ?_)
      obtain ⟨ex8, eM7⟩ := hp
      rw [eM7]
      have h := h x8 ex8
      refine eg_if_eq (tgt := 69) dX11_law_31 rfl (fun c9 => ?_) (fun c9 => ?_)
      · have h := h.1 c9
        refine eg_sub [] rfl ?_
        exact h
      · have h := h.2 c9
        refine eg_iload_n 3 dX11_law_34 rfl rfl ?_
        refine eg_iconst dX11_law_35 ic_0 ?_
        refine eg_sipush dX11_law_36 sp_9999 ?_
        refine eg_callSI (av := [vI l3, vI (0 : Int32), vI (9999 : Int32)]) (st := []) dX11_law_39 ml_11_171 rfl rfl (Nat.le_of_ble_eq_true rfl) (eg_dd (by omega)) (sX11_isIn (by omega) M1 l3 (0 : Int32) (9999 : Int32)  ) (fun x11 M10 hp => ?_)
        obtain ⟨ex11, eM10⟩ := hp
        rw [eM10]
        have h := h x11 ex11
        refine eg_if_eq (tgt := 69) dX11_law_42 rfl (fun c12 => ?_) (fun c12 => ?_)
        · have h := h.1 c12
          refine eg_sub [] rfl ?_
          exact h
        · have h := h.2 c12
          refine eg_iload 4 dX11_law_45 rfl ?_
          refine eg_iconst dX11_law_47 ic_0 ?_
          refine eg_sipush dX11_law_48 sp_9999 ?_
          refine eg_callSI (av := [vI l4, vI (0 : Int32), vI (9999 : Int32)]) (st := []) dX11_law_51 ml_11_171 rfl rfl (Nat.le_of_ble_eq_true rfl) (eg_dd (by omega)) (sX11_isIn (by omega) M1 l4 (0 : Int32) (9999 : Int32)  ) (fun x14 M13 hp => ?_)
          obtain ⟨ex14, eM13⟩ := hp
          rw [eM13]
          have h := h x14 ex14
          refine eg_if_eq (tgt := 69) dX11_law_54 rfl (fun c15 => ?_) (fun c15 => ?_)
          · have h := h.1 c15
            refine eg_sub [] rfl ?_
            exact h
          · have h := h.2 c15
            refine eg_iload 5 dX11_law_57 rfl ?_
            refine eg_iconst dX11_law_59 ic_0 ?_
            refine eg_sipush dX11_law_60 sp_9999 ?_
            refine eg_callSI (av := [vI l5, vI (0 : Int32), vI (9999 : Int32)]) (st := []) dX11_law_63 ml_11_171 rfl rfl (Nat.le_of_ble_eq_true rfl) (eg_dd (by omega)) (sX11_isIn (by omega) M1 l5 (0 : Int32) (9999 : Int32)  ) (fun x17 M16 hp => ?_)
            obtain ⟨ex17, eM16⟩ := hp
            rw [eM16]
            have h := h x17 ex17
            refine eg_if_ne (tgt := 73) dX11_law_66 rfl (fun c18 => ?_) (fun c18 => ?_)
            · have h := h.1 c18
              refine eg_aload_n 0 dX11_law_73 rfl rfl ?_
              refine eg_getR dX11_law_74 fl_11_84 rfl rfl (obM_60 z1) ?_
              show eg_W κ gM mtX11_law d (eQL κ gM post) 77 [(0, vR (60, 0)), (1, vI l1), (2, vI l2), (3, vI l3), (4, vI l4), (5, vI l5)] [vR (127, 0)] M1
              refine eg_iconst dX11_law_77 ic_0 ?_
              refine eg_iload_n 2 dX11_law_78 rfl rfl ?_
              refine eg_i2l dX11_law_79 ?_
              obtain ⟨g19, h⟩ := h
              refine en_lastore dX11_law_80 (arM_127 z1 g19) (fun M20 eM20 => ?_)
              have h := h M20 eM20
              refine eg_aload_n 0 dX11_law_81 rfl rfl ?_
              refine eg_getR dX11_law_82 fl_11_84 rfl rfl (obM_60 z1) ?_
              show eg_W κ gM mtX11_law d (eQL κ gM post) 85 [(0, vR (60, 0)), (1, vI l1), (2, vI l2), (3, vI l3), (4, vI l4), (5, vI l5)] [vR (127, 0)] M20
              refine eg_iconst dX11_law_85 ic_1 ?_
              refine eg_iload_n 3 dX11_law_86 rfl rfl ?_
              refine eg_i2l dX11_law_87 ?_
              obtain ⟨g21, h⟩ := h
              refine en_lastore dX11_law_88 (arM_127 z1 g21) (fun M22 eM22 => ?_)
              have h := h M22 eM22
              refine eg_aload_n 0 dX11_law_89 rfl rfl ?_
              refine eg_getR dX11_law_90 fl_11_84 rfl rfl (obM_60 z1) ?_
              show eg_W κ gM mtX11_law d (eQL κ gM post) 93 [(0, vR (60, 0)), (1, vI l1), (2, vI l2), (3, vI l3), (4, vI l4), (5, vI l5)] [vR (127, 0)] M22
              refine eg_iconst dX11_law_93 ic_2 ?_
              refine eg_iload 4 dX11_law_94 rfl ?_
              refine eg_i2l dX11_law_96 ?_
              obtain ⟨g23, h⟩ := h
              refine en_lastore dX11_law_97 (arM_127 z1 g23) (fun M24 eM24 => ?_)
              have h := h M24 eM24
              refine eg_aload_n 0 dX11_law_98 rfl rfl ?_
              refine eg_getR dX11_law_99 fl_11_84 rfl rfl (obM_60 z1) ?_
              show eg_W κ gM mtX11_law d (eQL κ gM post) 102 [(0, vR (60, 0)), (1, vI l1), (2, vI l2), (3, vI l3), (4, vI l4), (5, vI l5)] [vR (127, 0)] M24
              refine eg_iconst dX11_law_102 ic_3 ?_
              refine eg_lconst dX11_law_103 lc_0 ?_
              obtain ⟨g25, h⟩ := h
              refine en_lastore dX11_law_104 (arM_127 z1 g25) (fun M26 eM26 => ?_)
              have h := h M26 eM26
              refine eg_aload_n 0 dX11_law_105 rfl rfl ?_
              refine eg_getR dX11_law_106 fl_11_84 rfl rfl (obM_60 z1) ?_
              show eg_W κ gM mtX11_law d (eQL κ gM post) 109 [(0, vR (60, 0)), (1, vI l1), (2, vI l2), (3, vI l3), (4, vI l4), (5, vI l5)] [vR (127, 0)] M26
              refine eg_iconst dX11_law_109 ic_4 ?_
              refine eg_iload 5 dX11_law_110 rfl ?_
              refine eg_i2l dX11_law_112 ?_
              obtain ⟨g27, h⟩ := h
              refine en_lastore dX11_law_113 (arM_127 z1 g27) (fun M28 eM28 => ?_)
              have h := h M28 eM28
              refine eg_aload_n 0 dX11_law_114 rfl rfl ?_
              refine eg_getR dX11_law_115 fl_11_84 rfl rfl (obM_60 z1) ?_
              show eg_W κ gM mtX11_law d (eQL κ gM post) 118 [(0, vR (60, 0)), (1, vI l1), (2, vI l2), (3, vI l3), (4, vI l4), (5, vI l5)] [vR (127, 0)] M28
              refine eg_iconst dX11_law_118 ic_5 ?_
              refine eg_lconst dX11_law_119 lc_0 ?_
              obtain ⟨g29, h⟩ := h
              refine en_lastore dX11_law_120 (arM_127 z1 g29) (fun M30 eM30 => ?_)
              have h := h M30 eM30
              refine eg_aload_n 0 dX11_law_121 rfl rfl ?_
              refine eg_getR dX11_law_122 fl_11_84 rfl rfl (obM_60 z1) ?_
              show eg_W κ gM mtX11_law d (eQL κ gM post) 125 [(0, vR (60, 0)), (1, vI l1), (2, vI l2), (3, vI l3), (4, vI l4), (5, vI l5)] [vR (127, 0)] M30
              refine eg_bipush dX11_law_125 bp_6 ?_
              refine eg_iload_n 3 dX11_law_127 rfl rfl ?_
              refine eg_i2l dX11_law_128 ?_
              obtain ⟨g31, h⟩ := h
              refine en_lastore dX11_law_129 (arM_127 z1 g31) (fun M32 eM32 => ?_)
              have h := h M32 eM32
              refine eg_aload_n 0 dX11_law_130 rfl rfl ?_
              refine eg_getR dX11_law_131 fl_11_84 rfl rfl (obM_60 z1) ?_
              show eg_W κ gM mtX11_law d (eQL κ gM post) 134 [(0, vR (60, 0)), (1, vI l1), (2, vI l2), (3, vI l3), (4, vI l4), (5, vI l5)] [vR (127, 0)] M32
              refine eg_bipush dX11_law_134 bp_7 ?_
              refine eg_lconst dX11_law_136 lc_0 ?_
              obtain ⟨g33, h⟩ := h
              refine en_lastore dX11_law_137 (arM_127 z1 g33) (fun M34 eM34 => ?_)
              have h := h M34 eM34
              refine eg_aload_n 0 dX11_law_138 rfl rfl ?_
              refine eg_iload_n 1 dX11_law_139 rfl rfl ?_
              obtain ⟨g35, h⟩ := h
              refine eg_callVL (av := [vI l1]) (st := []) dX11_law_140 ml_11_409 rfl rfl (obM_60 z1) (by decide) rfl (Nat.le_of_ble_eq_true rfl) (eg_dd (by omega)) (sX11_sumOf (by omega) M34 l1  g35) (fun x37 M36 eM36 => ?_)
              have h := h x37 M36 eM36
              refine eg_lstore dX11_law_143 (by decide) (ls1 := [(6, vL x37), (0, vR (60, 0)), (1, vI l1), (2, vI l2), (3, vI l3), (4, vI l4), (5, vI l5)]) rfl ?_
              refine eg_aload_n 1 dX11_law_145 rfl rfl ?_
              refine eg_getI dX11_law_146 fl_11_383 rfl trivial (obM_60 z1) ?_
              have J : ∀ x38 : Int64, x38 = (if (M36.1 (60, 0) 68) = 0 then x37 else (-9223372036854775808 : Int64)) → eg_W κ gM mtX11_law d (eQL κ gM post) 160 [(6, vL x37), (0, vR (60, 0)), (1, vI l1), (2, vI l2), (3, vI l3), (4, vI l4), (5, vI l5)] [vL x38] M36 := by
                intro x38 ex38
                have h := h x38 ex38
                exact eg_lreturn dX11_law_160 rfl h
              clear h
              refine eg_if_eq (tgt := 158) dX11_law_149 rfl (fun c39 => ?_) (fun c39 => ?_)
              · refine eg_lload 0 dX11_law_158 rfl ?_
                exact J _ (by rw [if_pos c39])
              · refine eg_ldc2 dX11_law_152 kc_11_527 ?_
                refine eg_goto (tgt := 160) dX11_law_155 rfl ?_
                exact J _ (by rw [if_neg c39])
            · have h := h.2 c18
              refine eg_sub [] rfl ?_
              exact h
set_option maxRecDepth 10000 in
theorem vX11_law_69 {κ : eg_K} {d : Nat} {post : Int64 → eg_H → Prop} (M : eg_H)  (h : post (-9223372036854775808 : Int64) M) : eg_W κ gM mtX11_law d (eQL κ gM post) 69 [] [] M := by
  refine eg_ldc2 dX11_law_69 kc_11_527 ?_
  exact eg_lreturn dX11_law_72 rfl h
theorem dX11_count_0 : decode cX11_count 0 = .ok (.aload_n 0, 1) := by decide +kernel
theorem dX11_count_1 : decode cX11_count 1 = .ok (.iconst 0, 1) := by decide +kernel
theorem dX11_count_2 : decode cX11_count 2 = .ok (.putfield 127, 3) := by decide +kernel
theorem dX11_count_5 : decode cX11_count 5 = .ok (.aload_n 0, 1) := by decide +kernel
theorem dX11_count_6 : decode cX11_count 6 = .ok (.getfield 234, 3) := by decide +kernel
theorem dX11_count_9 : decode cX11_count 9 = .ok (.bipush 40, 2) := by decide +kernel
theorem dX11_count_11 : decode cX11_count 11 = .ok (.if_icmp .eq 51, 3) := by decide +kernel
theorem dX11_count_14 : decode cX11_count 14 = .ok (.aload_n 0, 1) := by decide +kernel
theorem dX11_count_15 : decode cX11_count 15 = .ok (.iload_n 1, 1) := by decide +kernel
theorem dX11_count_16 : decode cX11_count 16 = .ok (.invokevirtual 478, 3) := by decide +kernel
theorem dX11_count_19 : decode cX11_count 19 = .ok (.ifCond .eq 43, 3) := by decide +kernel
theorem dX11_count_22 : decode cX11_count 22 = .ok (.aload_n 0, 1) := by decide +kernel
theorem dX11_count_23 : decode cX11_count 23 = .ok (.iload_n 1, 1) := by decide +kernel
theorem dX11_count_24 : decode cX11_count 24 = .ok (.invokevirtual 415, 3) := by decide +kernel
theorem dX11_count_27 : decode cX11_count 27 = .ok (.ifCond .eq 35, 3) := by decide +kernel
theorem dX11_count_30 : decode cX11_count 30 = .ok (.iload_n 2, 1) := by decide +kernel
theorem dX11_count_31 : decode cX11_count 31 = .ok (.iconst 0, 1) := by decide +kernel
theorem dX11_count_32 : decode cX11_count 32 = .ok (.sipush 3599, 3) := by decide +kernel
theorem dX11_count_35 : decode cX11_count 35 = .ok (.invokestatic 171, 3) := by decide +kernel
theorem dX11_count_38 : decode cX11_count 38 = .ok (.ifCond .eq 24, 3) := by decide +kernel
theorem dX11_count_41 : decode cX11_count 41 = .ok (.iload_n 3, 1) := by decide +kernel
theorem dX11_count_42 : decode cX11_count 42 = .ok (.iconst 0, 1) := by decide +kernel
theorem dX11_count_43 : decode cX11_count 43 = .ok (.bipush 99, 2) := by decide +kernel
theorem dX11_count_45 : decode cX11_count 45 = .ok (.invokestatic 171, 3) := by decide +kernel
theorem dX11_count_48 : decode cX11_count 48 = .ok (.ifCond .eq 14, 3) := by decide +kernel
theorem dX11_count_51 : decode cX11_count 51 = .ok (.iload 4, 2) := by decide +kernel
theorem dX11_count_53 : decode cX11_count 53 = .ok (.iload_n 3, 1) := by decide +kernel
theorem dX11_count_54 : decode cX11_count 54 = .ok (.bipush 99, 2) := by decide +kernel
theorem dX11_count_56 : decode cX11_count 56 = .ok (.invokestatic 171, 3) := by decide +kernel
theorem dX11_count_59 : decode cX11_count 59 = .ok (.ifCond .ne 5, 3) := by decide +kernel
theorem dX11_count_62 : decode cX11_count 62 = .ok (.iconst (-1), 1) := by decide +kernel
theorem dX11_count_63 : decode cX11_count 63 = .ok (.ireturn, 1) := by decide +kernel
theorem dX11_count_64 : decode cX11_count 64 = .ok (.aload_n 0, 1) := by decide +kernel
theorem dX11_count_65 : decode cX11_count 65 = .ok (.getfield 103, 3) := by decide +kernel
theorem dX11_count_68 : decode cX11_count 68 = .ok (.aload_n 0, 1) := by decide +kernel
theorem dX11_count_69 : decode cX11_count 69 = .ok (.getfield 234, 3) := by decide +kernel
theorem dX11_count_72 : decode cX11_count 72 = .ok (.iload_n 1, 1) := by decide +kernel
theorem dX11_count_73 : decode cX11_count 73 = .ok (.iastore, 1) := by decide +kernel
theorem dX11_count_74 : decode cX11_count 74 = .ok (.aload_n 0, 1) := by decide +kernel
theorem dX11_count_75 : decode cX11_count 75 = .ok (.getfield 106, 3) := by decide +kernel
theorem dX11_count_78 : decode cX11_count 78 = .ok (.aload_n 0, 1) := by decide +kernel
theorem dX11_count_79 : decode cX11_count 79 = .ok (.getfield 234, 3) := by decide +kernel
theorem dX11_count_82 : decode cX11_count 82 = .ok (.iload_n 2, 1) := by decide +kernel
theorem dX11_count_83 : decode cX11_count 83 = .ok (.iastore, 1) := by decide +kernel
theorem dX11_count_84 : decode cX11_count 84 = .ok (.aload_n 0, 1) := by decide +kernel
theorem dX11_count_85 : decode cX11_count 85 = .ok (.getfield 109, 3) := by decide +kernel
theorem dX11_count_88 : decode cX11_count 88 = .ok (.aload_n 0, 1) := by decide +kernel
theorem dX11_count_89 : decode cX11_count 89 = .ok (.getfield 234, 3) := by decide +kernel
theorem dX11_count_92 : decode cX11_count 92 = .ok (.iload_n 3, 1) := by decide +kernel
theorem dX11_count_93 : decode cX11_count 93 = .ok (.iastore, 1) := by decide +kernel
theorem dX11_count_94 : decode cX11_count 94 = .ok (.aload_n 0, 1) := by decide +kernel
theorem dX11_count_95 : decode cX11_count 95 = .ok (.getfield 112, 3) := by decide +kernel
theorem dX11_count_98 : decode cX11_count 98 = .ok (.aload_n 0, 1) := by decide +kernel
theorem dX11_count_99 : decode cX11_count 99 = .ok (.getfield 234, 3) := by decide +kernel
theorem dX11_count_102 : decode cX11_count 102 = .ok (.iload 4, 2) := by decide +kernel
theorem dX11_count_104 : decode cX11_count 104 = .ok (.iastore, 1) := by decide +kernel
theorem dX11_count_105 : decode cX11_count 105 = .ok (.aload_n 0, 1) := by decide +kernel
theorem dX11_count_106 : decode cX11_count 106 = .ok (.dup, 1) := by decide +kernel
theorem dX11_count_107 : decode cX11_count 107 = .ok (.getfield 234, 3) := by decide +kernel
theorem dX11_count_110 : decode cX11_count 110 = .ok (.iconst 1, 1) := by decide +kernel
theorem dX11_count_111 : decode cX11_count 111 = .ok (.iadd, 1) := by decide +kernel
theorem dX11_count_112 : decode cX11_count 112 = .ok (.putfield 234, 3) := by decide +kernel
theorem dX11_count_115 : decode cX11_count 115 = .ok (.aload_n 0, 1) := by decide +kernel
theorem dX11_count_116 : decode cX11_count 116 = .ok (.getfield 234, 3) := by decide +kernel
theorem dX11_count_119 : decode cX11_count 119 = .ok (.iconst 1, 1) := by decide +kernel
theorem dX11_count_120 : decode cX11_count 120 = .ok (.isub, 1) := by decide +kernel
theorem dX11_count_121 : decode cX11_count 121 = .ok (.ireturn, 1) := by decide +kernel
set_option maxRecDepth 10000 in
theorem vX11_count_0 {κ : eg_K} {d : Nat} (hd : 2 ≤ d) {post : Int32 → eg_H → Prop} (M : eg_H) (l1 : Int32) (l2 : Int32) (l3 : Int32) (l4 : Int32) (h : (∀ M1 : eg_H, M1 = (sI M (60, 0) 2 (0 : Int32)) → ((M1.1 (60, 0) 73) = (40 : Int32) → eg_W κ gM mtX11_count d (eQI κ gM post) 62 [] [] M1) ∧ ((¬ (M1.1 (60, 0) 73) = (40 : Int32)) → (∀ x4 : Int32, x4 = (fX11_isStation M1 l1) → (x4 = 0 → eg_W κ gM mtX11_count d (eQI κ gM post) 62 [] [] M1) ∧ ((¬ x4 = 0) → (gX11_hasPan M1 l1 ∧ (∀ x8 : Int32, x8 = (fX11_hasPan M1 l1) → (x8 = 0 → eg_W κ gM mtX11_count d (eQI κ gM post) 62 [] [] M1) ∧ ((¬ x8 = 0) → (∀ x11 : Int32, x11 = (fX11_isIn M1 l2 (0 : Int32) (3599 : Int32)) → (x11 = 0 → eg_W κ gM mtX11_count d (eQI κ gM post) 62 [] [] M1) ∧ ((¬ x11 = 0) → (∀ x14 : Int32, x14 = (fX11_isIn M1 l3 (0 : Int32) (99 : Int32)) → (x14 = 0 → eg_W κ gM mtX11_count d (eQI κ gM post) 62 [] [] M1) ∧ ((¬ x14 = 0) → (∀ x17 : Int32, x17 = (fX11_isIn M1 l4 l3 (99 : Int32)) → ((¬ x17 = 0) → (vp_in (M1.1 (60, 0) 73) 40 ∧ (∀ M20 : eg_H, M20 = (sI M1 (136, 0) (M1.1 (60, 0) 73).toNatClampNeg l1) → (vp_in (M20.1 (60, 0) 73) 40 ∧ (∀ M22 : eg_H, M22 = (sI M20 (137, 0) (M20.1 (60, 0) 73).toNatClampNeg l2) → (vp_in (M22.1 (60, 0) 73) 40 ∧ (∀ M24 : eg_H, M24 = (sI M22 (138, 0) (M22.1 (60, 0) 73).toNatClampNeg l3) → (vp_in (M24.1 (60, 0) 73) 40 ∧ (∀ M26 : eg_H, M26 = (sI M24 (139, 0) (M24.1 (60, 0) 73).toNatClampNeg l4) → (∀ M27 : eg_H, M27 = (sI M26 (60, 0) 73 ((M26.1 (60, 0) 73) + (1 : Int32))) → post ((M27.1 (60, 0) 73) - (1 : Int32)) M27)))))))))) ∧ (x17 = 0 → eg_W κ gM mtX11_count d (eQI κ gM post) 62 [] [] M1)))))))))))))) : eg_W κ gM mtX11_count d (eQI κ gM post) 0 [(0, vR (60, 0)), (1, vI l1), (2, vI l2), (3, vI l3), (4, vI l4)] [] M := by
  refine eg_aload_n 0 dX11_count_0 rfl rfl ?_
  refine eg_iconst dX11_count_1 ic_0 ?_
  refine en_putI dX11_count_2 fl_11_127 rfl rfl (obM_60 z1) (fun M1 eM1 => ?_)
  have h := h M1 eM1
  refine eg_aload_n 0 dX11_count_5 rfl rfl ?_
  refine eg_getI dX11_count_6 fl_11_234 rfl trivial (obM_60 z1) ?_
  refine eg_bipush dX11_count_9 bp_40 ?_
  refine eg_icmp_eq (tgt := 62) dX11_count_11 rfl (fun c2 => ?_) (fun c2 => ?_)
  · have h := h.1 c2
    refine eg_sub [] rfl ?_
    exact h
  · have h := h.2 c2
    refine eg_aload_n 0 dX11_count_14 rfl rfl ?_
    refine eg_iload_n 1 dX11_count_15 rfl rfl ?_
    refine eg_callVI (av := [vI l1]) (st := []) dX11_count_16 ml_11_478 rfl rfl (obM_60 z1) (by decide) rfl (Nat.le_of_ble_eq_true rfl) (eg_dd (by omega)) (sX11_isStation (by omega) M1 l1  ) (fun x4 M3 hp => ?_)
    obtain ⟨ex4, eM3⟩ := hp
    rw [eM3]
    have h := h x4 ex4
    refine eg_if_eq (tgt := 62) dX11_count_19 rfl (fun c5 => ?_) (fun c5 => ?_)
    · have h := h.1 c5
      refine eg_sub [] rfl ?_
      exact h
    · have h := h.2 c5
      refine eg_aload_n 0 dX11_count_22 rfl rfl ?_
      refine eg_iload_n 1 dX11_count_23 rfl rfl ?_
      obtain ⟨g6, h⟩ := h
      refine eg_callVI (av := [vI l1]) (st := []) dX11_count_24 ml_11_415 rfl rfl (obM_60 z1) (by decide) rfl (Nat.le_of_ble_eq_true rfl) (eg_dd (by omega)) (sX11_hasPan (by omega) M1 l1  g6) (fun x8 M7 hp => ?_)
      obtain ⟨ex8, eM7⟩ := hp
      rw [eM7]
      have h := h x8 ex8
      refine eg_if_eq (tgt := 62) dX11_count_27 rfl (fun c9 => ?_) (fun c9 => ?_)
      · have h := h.1 c9
        refine eg_sub [] rfl ?_
        exact h
      · have h := h.2 c9
        refine eg_iload_n 2 dX11_count_30 rfl rfl ?_
        refine eg_iconst dX11_count_31 ic_0 ?_
        refine eg_sipush dX11_count_32 sp_3599 ?_
        refine eg_callSI (av := [vI l2, vI (0 : Int32), vI (3599 : Int32)]) (st := []) dX11_count_35 ml_11_171 rfl rfl (Nat.le_of_ble_eq_true rfl) (eg_dd (by omega)) (sX11_isIn (by omega) M1 l2 (0 : Int32) (3599 : Int32)  ) (fun x11 M10 hp => ?_)
        obtain ⟨ex11, eM10⟩ := hp
        rw [eM10]
        have h := h x11 ex11
        refine eg_if_eq (tgt := 62) dX11_count_38 rfl (fun c12 => ?_) (fun c12 => ?_)
        · have h := h.1 c12
          refine eg_sub [] rfl ?_
          exact h
        · have h := h.2 c12
          refine eg_iload_n 3 dX11_count_41 rfl rfl ?_
          refine eg_iconst dX11_count_42 ic_0 ?_
          refine eg_bipush dX11_count_43 bp_99 ?_
          refine eg_callSI (av := [vI l3, vI (0 : Int32), vI (99 : Int32)]) (st := []) dX11_count_45 ml_11_171 rfl rfl (Nat.le_of_ble_eq_true rfl) (eg_dd (by omega)) (sX11_isIn (by omega) M1 l3 (0 : Int32) (99 : Int32)  ) (fun x14 M13 hp => ?_)
          obtain ⟨ex14, eM13⟩ := hp
          rw [eM13]
          have h := h x14 ex14
          refine eg_if_eq (tgt := 62) dX11_count_48 rfl (fun c15 => ?_) (fun c15 => ?_)
          · have h := h.1 c15
            refine eg_sub [] rfl ?_
            exact h
          · have h := h.2 c15
            refine eg_iload 4 dX11_count_51 rfl ?_
            refine eg_iload_n 3 dX11_count_53 rfl rfl ?_
            refine eg_bipush dX11_count_54 bp_99 ?_
            refine eg_callSI (av := [vI l4, vI l3, vI (99 : Int32)]) (st := []) dX11_count_56 ml_11_171 rfl rfl (Nat.le_of_ble_eq_true rfl) (eg_dd (by omega)) (sX11_isIn (by omega) M1 l4 l3 (99 : Int32)  ) (fun x17 M16 hp => ?_)
            obtain ⟨ex17, eM16⟩ := hp
            rw [eM16]
            have h := h x17 ex17
            refine eg_if_ne (tgt := 64) dX11_count_59 rfl (fun c18 => ?_) (fun c18 => ?_)
            · have h := h.1 c18
              refine eg_aload_n 0 dX11_count_64 rfl rfl ?_
              refine eg_getR dX11_count_65 fl_11_103 rfl rfl (obM_60 z1) ?_
              show eg_W κ gM mtX11_count d (eQI κ gM post) 68 [(0, vR (60, 0)), (1, vI l1), (2, vI l2), (3, vI l3), (4, vI l4)] [vR (136, 0)] M1
              refine eg_aload_n 0 dX11_count_68 rfl rfl ?_
              refine eg_getI dX11_count_69 fl_11_234 rfl trivial (obM_60 z1) ?_
              refine eg_iload_n 1 dX11_count_72 rfl rfl ?_
              obtain ⟨g19, h⟩ := h
              refine en_iastore dX11_count_73 (arM_136 z1 g19) (fun M20 eM20 => ?_)
              have h := h M20 eM20
              refine eg_aload_n 0 dX11_count_74 rfl rfl ?_
              refine eg_getR dX11_count_75 fl_11_106 rfl rfl (obM_60 z1) ?_
              show eg_W κ gM mtX11_count d (eQI κ gM post) 78 [(0, vR (60, 0)), (1, vI l1), (2, vI l2), (3, vI l3), (4, vI l4)] [vR (137, 0)] M20
              refine eg_aload_n 0 dX11_count_78 rfl rfl ?_
              refine eg_getI dX11_count_79 fl_11_234 rfl trivial (obM_60 z1) ?_
              refine eg_iload_n 2 dX11_count_82 rfl rfl ?_
              obtain ⟨g21, h⟩ := h
              refine en_iastore dX11_count_83 (arM_137 z1 g21) (fun M22 eM22 => ?_)
              have h := h M22 eM22
              refine eg_aload_n 0 dX11_count_84 rfl rfl ?_
              refine eg_getR dX11_count_85 fl_11_109 rfl rfl (obM_60 z1) ?_
              show eg_W κ gM mtX11_count d (eQI κ gM post) 88 [(0, vR (60, 0)), (1, vI l1), (2, vI l2), (3, vI l3), (4, vI l4)] [vR (138, 0)] M22
              refine eg_aload_n 0 dX11_count_88 rfl rfl ?_
              refine eg_getI dX11_count_89 fl_11_234 rfl trivial (obM_60 z1) ?_
              refine eg_iload_n 3 dX11_count_92 rfl rfl ?_
              obtain ⟨g23, h⟩ := h
              refine en_iastore dX11_count_93 (arM_138 z1 g23) (fun M24 eM24 => ?_)
              have h := h M24 eM24
              refine eg_aload_n 0 dX11_count_94 rfl rfl ?_
              refine eg_getR dX11_count_95 fl_11_112 rfl rfl (obM_60 z1) ?_
              show eg_W κ gM mtX11_count d (eQI κ gM post) 98 [(0, vR (60, 0)), (1, vI l1), (2, vI l2), (3, vI l3), (4, vI l4)] [vR (139, 0)] M24
              refine eg_aload_n 0 dX11_count_98 rfl rfl ?_
              refine eg_getI dX11_count_99 fl_11_234 rfl trivial (obM_60 z1) ?_
              refine eg_iload 4 dX11_count_102 rfl ?_
              obtain ⟨g25, h⟩ := h
              refine en_iastore dX11_count_104 (arM_139 z1 g25) (fun M26 eM26 => ?_)
              have h := h M26 eM26
              refine eg_aload_n 0 dX11_count_105 rfl rfl ?_
              refine eg_dup dX11_count_106 rfl ?_
              refine eg_getI dX11_count_107 fl_11_234 rfl trivial (obM_60 z1) ?_
              refine eg_iconst dX11_count_110 ic_1 ?_
              refine eg_iadd dX11_count_111 ?_
              refine en_putI dX11_count_112 fl_11_234 rfl rfl (obM_60 z1) (fun M27 eM27 => ?_)
              have h := h M27 eM27
              refine eg_aload_n 0 dX11_count_115 rfl rfl ?_
              refine eg_getI dX11_count_116 fl_11_234 rfl trivial (obM_60 z1) ?_
              refine eg_iconst dX11_count_119 ic_1 ?_
              refine eg_isub dX11_count_120 ?_
              exact eg_ireturn dX11_count_121 rfl h
            · have h := h.2 c18
              refine eg_sub [] rfl ?_
              exact h
set_option maxRecDepth 10000 in
theorem vX11_count_62 {κ : eg_K} {d : Nat} {post : Int32 → eg_H → Prop} (M : eg_H)  (h : post (-1 : Int32) M) : eg_W κ gM mtX11_count d (eQI κ gM post) 62 [] [] M := by
  refine eg_iconst dX11_count_62 ic_m1 ?_
  exact eg_ireturn dX11_count_63 rfl h
theorem dX11_strike_0 : decode cX11_strike 0 = .ok (.aload_n 0, 1) := by decide +kernel
theorem dX11_strike_1 : decode cX11_strike 1 = .ok (.iconst 0, 1) := by decide +kernel
theorem dX11_strike_2 : decode cX11_strike 2 = .ok (.putfield 127, 3) := by decide +kernel
theorem dX11_strike_5 : decode cX11_strike 5 = .ok (.aload_n 0, 1) := by decide +kernel
theorem dX11_strike_6 : decode cX11_strike 6 = .ok (.getfield 234, 3) := by decide +kernel
theorem dX11_strike_9 : decode cX11_strike 9 = .ok (.bipush 40, 2) := by decide +kernel
theorem dX11_strike_11 : decode cX11_strike 11 = .ok (.if_icmp .eq 15, 3) := by decide +kernel
theorem dX11_strike_14 : decode cX11_strike 14 = .ok (.iload_n 1, 1) := by decide +kernel
theorem dX11_strike_15 : decode cX11_strike 15 = .ok (.ifCond .lt 11, 3) := by decide +kernel
theorem dX11_strike_18 : decode cX11_strike 18 = .ok (.iload_n 1, 1) := by decide +kernel
theorem dX11_strike_19 : decode cX11_strike 19 = .ok (.aload_n 0, 1) := by decide +kernel
theorem dX11_strike_20 : decode cX11_strike 20 = .ok (.getfield 234, 3) := by decide +kernel
theorem dX11_strike_23 : decode cX11_strike 23 = .ok (.if_icmp .lt 5, 3) := by decide +kernel
theorem dX11_strike_26 : decode cX11_strike 26 = .ok (.iconst (-1), 1) := by decide +kernel
theorem dX11_strike_27 : decode cX11_strike 27 = .ok (.ireturn, 1) := by decide +kernel
theorem dX11_strike_28 : decode cX11_strike 28 = .ok (.aload_n 0, 1) := by decide +kernel
theorem dX11_strike_29 : decode cX11_strike 29 = .ok (.getfield 103, 3) := by decide +kernel
theorem dX11_strike_32 : decode cX11_strike 32 = .ok (.aload_n 0, 1) := by decide +kernel
theorem dX11_strike_33 : decode cX11_strike 33 = .ok (.getfield 234, 3) := by decide +kernel
theorem dX11_strike_36 : decode cX11_strike 36 = .ok (.iconst (-1), 1) := by decide +kernel
theorem dX11_strike_37 : decode cX11_strike 37 = .ok (.iastore, 1) := by decide +kernel
theorem dX11_strike_38 : decode cX11_strike 38 = .ok (.aload_n 0, 1) := by decide +kernel
theorem dX11_strike_39 : decode cX11_strike 39 = .ok (.getfield 106, 3) := by decide +kernel
theorem dX11_strike_42 : decode cX11_strike 42 = .ok (.aload_n 0, 1) := by decide +kernel
theorem dX11_strike_43 : decode cX11_strike 43 = .ok (.getfield 234, 3) := by decide +kernel
theorem dX11_strike_46 : decode cX11_strike 46 = .ok (.iload_n 1, 1) := by decide +kernel
theorem dX11_strike_47 : decode cX11_strike 47 = .ok (.iastore, 1) := by decide +kernel
theorem dX11_strike_48 : decode cX11_strike 48 = .ok (.aload_n 0, 1) := by decide +kernel
theorem dX11_strike_49 : decode cX11_strike 49 = .ok (.dup, 1) := by decide +kernel
theorem dX11_strike_50 : decode cX11_strike 50 = .ok (.getfield 234, 3) := by decide +kernel
theorem dX11_strike_53 : decode cX11_strike 53 = .ok (.iconst 1, 1) := by decide +kernel
theorem dX11_strike_54 : decode cX11_strike 54 = .ok (.iadd, 1) := by decide +kernel
theorem dX11_strike_55 : decode cX11_strike 55 = .ok (.putfield 234, 3) := by decide +kernel
theorem dX11_strike_58 : decode cX11_strike 58 = .ok (.aload_n 0, 1) := by decide +kernel
theorem dX11_strike_59 : decode cX11_strike 59 = .ok (.getfield 234, 3) := by decide +kernel
theorem dX11_strike_62 : decode cX11_strike 62 = .ok (.iconst 1, 1) := by decide +kernel
theorem dX11_strike_63 : decode cX11_strike 63 = .ok (.isub, 1) := by decide +kernel
theorem dX11_strike_64 : decode cX11_strike 64 = .ok (.ireturn, 1) := by decide +kernel
set_option maxRecDepth 10000 in
theorem vX11_strike_0 {κ : eg_K} {d : Nat} {post : Int32 → eg_H → Prop} (M : eg_H) (l1 : Int32) (h : (∀ M1 : eg_H, M1 = (sI M (60, 0) 2 (0 : Int32)) → ((M1.1 (60, 0) 73) = (40 : Int32) → post (-1 : Int32) M1) ∧ ((¬ (M1.1 (60, 0) 73) = (40 : Int32)) → (l1 < 0 → post (-1 : Int32) M1) ∧ ((¬ l1 < 0) → (l1 < (M1.1 (60, 0) 73) → (vp_in (M1.1 (60, 0) 73) 40 ∧ (∀ M6 : eg_H, M6 = (sI M1 (136, 0) (M1.1 (60, 0) 73).toNatClampNeg (-1 : Int32)) → (vp_in (M6.1 (60, 0) 73) 40 ∧ (∀ M8 : eg_H, M8 = (sI M6 (137, 0) (M6.1 (60, 0) 73).toNatClampNeg l1) → (∀ M9 : eg_H, M9 = (sI M8 (60, 0) 73 ((M8.1 (60, 0) 73) + (1 : Int32))) → post ((M9.1 (60, 0) 73) - (1 : Int32)) M9)))))) ∧ ((¬ l1 < (M1.1 (60, 0) 73)) → post (-1 : Int32) M1))))) : eg_W κ gM mtX11_strike d (eQI κ gM post) 0 [(0, vR (60, 0)), (1, vI l1)] [] M := by
  refine eg_aload_n 0 dX11_strike_0 rfl rfl ?_
  refine eg_iconst dX11_strike_1 ic_0 ?_
  refine en_putI dX11_strike_2 fl_11_127 rfl rfl (obM_60 z1) (fun M1 eM1 => ?_)
  have h := h M1 eM1
  refine eg_aload_n 0 dX11_strike_5 rfl rfl ?_
  refine eg_getI dX11_strike_6 fl_11_234 rfl trivial (obM_60 z1) ?_
  refine eg_bipush dX11_strike_9 bp_40 ?_
  refine eg_icmp_eq (tgt := 26) dX11_strike_11 rfl (fun c2 => ?_) (fun c2 => ?_)
  · have h := h.1 c2
    refine eg_iconst dX11_strike_26 ic_m1 ?_
    exact eg_ireturn dX11_strike_27 rfl h
  · have h := h.2 c2
    refine eg_iload_n 1 dX11_strike_14 rfl rfl ?_
    refine eg_if_lt (tgt := 26) dX11_strike_15 rfl (fun c3 => ?_) (fun c3 => ?_)
    · have h := h.1 c3
      refine eg_iconst dX11_strike_26 ic_m1 ?_
      exact eg_ireturn dX11_strike_27 rfl h
    · have h := h.2 c3
      refine eg_iload_n 1 dX11_strike_18 rfl rfl ?_
      refine eg_aload_n 0 dX11_strike_19 rfl rfl ?_
      refine eg_getI dX11_strike_20 fl_11_234 rfl trivial (obM_60 z1) ?_
      refine eg_icmp_lt (tgt := 28) dX11_strike_23 rfl (fun c4 => ?_) (fun c4 => ?_)
      · have h := h.1 c4
        refine eg_aload_n 0 dX11_strike_28 rfl rfl ?_
        refine eg_getR dX11_strike_29 fl_11_103 rfl rfl (obM_60 z1) ?_
        show eg_W κ gM mtX11_strike d (eQI κ gM post) 32 [(0, vR (60, 0)), (1, vI l1)] [vR (136, 0)] M1
        refine eg_aload_n 0 dX11_strike_32 rfl rfl ?_
        refine eg_getI dX11_strike_33 fl_11_234 rfl trivial (obM_60 z1) ?_
        refine eg_iconst dX11_strike_36 ic_m1 ?_
        obtain ⟨g5, h⟩ := h
        refine en_iastore dX11_strike_37 (arM_136 z1 g5) (fun M6 eM6 => ?_)
        have h := h M6 eM6
        refine eg_aload_n 0 dX11_strike_38 rfl rfl ?_
        refine eg_getR dX11_strike_39 fl_11_106 rfl rfl (obM_60 z1) ?_
        show eg_W κ gM mtX11_strike d (eQI κ gM post) 42 [(0, vR (60, 0)), (1, vI l1)] [vR (137, 0)] M6
        refine eg_aload_n 0 dX11_strike_42 rfl rfl ?_
        refine eg_getI dX11_strike_43 fl_11_234 rfl trivial (obM_60 z1) ?_
        refine eg_iload_n 1 dX11_strike_46 rfl rfl ?_
        obtain ⟨g7, h⟩ := h
        refine en_iastore dX11_strike_47 (arM_137 z1 g7) (fun M8 eM8 => ?_)
        have h := h M8 eM8
        refine eg_aload_n 0 dX11_strike_48 rfl rfl ?_
        refine eg_dup dX11_strike_49 rfl ?_
        refine eg_getI dX11_strike_50 fl_11_234 rfl trivial (obM_60 z1) ?_
        refine eg_iconst dX11_strike_53 ic_1 ?_
        refine eg_iadd dX11_strike_54 ?_
        refine en_putI dX11_strike_55 fl_11_234 rfl rfl (obM_60 z1) (fun M9 eM9 => ?_)
        have h := h M9 eM9
        refine eg_aload_n 0 dX11_strike_58 rfl rfl ?_
        refine eg_getI dX11_strike_59 fl_11_234 rfl trivial (obM_60 z1) ?_
        refine eg_iconst dX11_strike_62 ic_1 ?_
        refine eg_isub dX11_strike_63 ?_
        exact eg_ireturn dX11_strike_64 rfl h
      · have h := h.2 c4
        refine eg_iconst dX11_strike_26 ic_m1 ?_
        exact eg_ireturn dX11_strike_27 rfl h
theorem dX11_isFit_0 : decode cX11_isFit 0 = .ok (.aload_n 0, 1) := by decide +kernel
theorem dX11_isFit_1 : decode cX11_isFit 1 = .ok (.invokevirtual 246, 3) := by decide +kernel
theorem dX11_isFit_4 : decode cX11_isFit 4 = .ok (.iconst 1, 1) := by decide +kernel
theorem dX11_isFit_5 : decode cX11_isFit 5 = .ok (.istore_n 2, 1) := by decide +kernel
theorem dX11_isFit_6 : decode cX11_isFit 6 = .ok (.aload_n 0, 1) := by decide +kernel
theorem dX11_isFit_7 : decode cX11_isFit 7 = .ok (.getfield 69, 3) := by decide +kernel
theorem dX11_isFit_10 : decode cX11_isFit 10 = .ok (.iconst 0, 1) := by decide +kernel
theorem dX11_isFit_11 : decode cX11_isFit 11 = .ok (.iaload, 1) := by decide +kernel
theorem dX11_isFit_12 : decode cX11_isFit 12 = .ok (.iload_n 1, 1) := by decide +kernel
theorem dX11_isFit_13 : decode cX11_isFit 13 = .ok (.if_icmp .gt 110, 3) := by decide +kernel
theorem dX11_isFit_16 : decode cX11_isFit 16 = .ok (.iload_n 2, 1) := by decide +kernel
theorem dX11_isFit_17 : decode cX11_isFit 17 = .ok (.ifCond .eq 106, 3) := by decide +kernel
theorem dX11_isFit_20 : decode cX11_isFit 20 = .ok (.aload_n 0, 1) := by decide +kernel
theorem dX11_isFit_21 : decode cX11_isFit 21 = .ok (.invokevirtual 468, 3) := by decide +kernel
theorem dX11_isFit_24 : decode cX11_isFit 24 = .ok (.iconst 0, 1) := by decide +kernel
theorem dX11_isFit_25 : decode cX11_isFit 25 = .ok (.istore_n 3, 1) := by decide +kernel
theorem dX11_isFit_26 : decode cX11_isFit 26 = .ok (.iload_n 3, 1) := by decide +kernel
theorem dX11_isFit_27 : decode cX11_isFit 27 = .ok (.aload_n 0, 1) := by decide +kernel
theorem dX11_isFit_28 : decode cX11_isFit 28 = .ok (.invokevirtual 529, 3) := by decide +kernel
theorem dX11_isFit_31 : decode cX11_isFit 31 = .ok (.if_icmp .ge 89, 3) := by decide +kernel
theorem dX11_isFit_34 : decode cX11_isFit 34 = .ok (.aload_n 0, 1) := by decide +kernel
theorem dX11_isFit_35 : decode cX11_isFit 35 = .ok (.getfield 115, 3) := by decide +kernel
theorem dX11_isFit_38 : decode cX11_isFit 38 = .ok (.iload_n 3, 1) := by decide +kernel
theorem dX11_isFit_39 : decode cX11_isFit 39 = .ok (.baload, 1) := by decide +kernel
theorem dX11_isFit_40 : decode cX11_isFit 40 = .ok (.ifCond .eq 74, 3) := by decide +kernel
theorem dX11_isFit_43 : decode cX11_isFit 43 = .ok (.aload_n 0, 1) := by decide +kernel
theorem dX11_isFit_44 : decode cX11_isFit 44 = .ok (.getfield 103, 3) := by decide +kernel
theorem dX11_isFit_47 : decode cX11_isFit 47 = .ok (.iload_n 3, 1) := by decide +kernel
theorem dX11_isFit_48 : decode cX11_isFit 48 = .ok (.iaload, 1) := by decide +kernel
theorem dX11_isFit_49 : decode cX11_isFit 49 = .ok (.ifCond .lt 65, 3) := by decide +kernel
theorem dX11_isFit_52 : decode cX11_isFit 52 = .ok (.aload_n 0, 1) := by decide +kernel
theorem dX11_isFit_53 : decode cX11_isFit 53 = .ok (.getfield 106, 3) := by decide +kernel
theorem dX11_isFit_56 : decode cX11_isFit 56 = .ok (.iload_n 3, 1) := by decide +kernel
theorem dX11_isFit_57 : decode cX11_isFit 57 = .ok (.iaload, 1) := by decide +kernel
theorem dX11_isFit_58 : decode cX11_isFit 58 = .ok (.aload_n 0, 1) := by decide +kernel
theorem dX11_isFit_59 : decode cX11_isFit 59 = .ok (.getfield 69, 3) := by decide +kernel
theorem dX11_isFit_62 : decode cX11_isFit 62 = .ok (.iconst 0, 1) := by decide +kernel
theorem dX11_isFit_63 : decode cX11_isFit 63 = .ok (.iaload, 1) := by decide +kernel
theorem dX11_isFit_64 : decode cX11_isFit 64 = .ok (.iconst 1, 1) := by decide +kernel
theorem dX11_isFit_65 : decode cX11_isFit 65 = .ok (.isub, 1) := by decide +kernel
theorem dX11_isFit_66 : decode cX11_isFit 66 = .ok (.if_icmp .eq 6, 3) := by decide +kernel
theorem dX11_isFit_69 : decode cX11_isFit 69 = .ok (.goto 45, 3) := by decide +kernel
theorem dX11_isFit_72 : decode cX11_isFit 72 = .ok (.iload_n 2, 1) := by decide +kernel
theorem dX11_isFit_73 : decode cX11_isFit 73 = .ok (.ifCond .eq 39, 3) := by decide +kernel
theorem dX11_isFit_76 : decode cX11_isFit 76 = .ok (.aload_n 0, 1) := by decide +kernel
theorem dX11_isFit_77 : decode cX11_isFit 77 = .ok (.getfield 69, 3) := by decide +kernel
theorem dX11_isFit_80 : decode cX11_isFit 80 = .ok (.aload_n 0, 1) := by decide +kernel
theorem dX11_isFit_81 : decode cX11_isFit 81 = .ok (.getfield 103, 3) := by decide +kernel
theorem dX11_isFit_84 : decode cX11_isFit 84 = .ok (.iload_n 3, 1) := by decide +kernel
theorem dX11_isFit_85 : decode cX11_isFit 85 = .ok (.iaload, 1) := by decide +kernel
theorem dX11_isFit_86 : decode cX11_isFit 86 = .ok (.invokestatic 377, 3) := by decide +kernel
theorem dX11_isFit_89 : decode cX11_isFit 89 = .ok (.iaload, 1) := by decide +kernel
theorem dX11_isFit_90 : decode cX11_isFit 90 = .ok (.aload_n 0, 1) := by decide +kernel
theorem dX11_isFit_91 : decode cX11_isFit 91 = .ok (.getfield 109, 3) := by decide +kernel
theorem dX11_isFit_94 : decode cX11_isFit 94 = .ok (.iload_n 3, 1) := by decide +kernel
theorem dX11_isFit_95 : decode cX11_isFit 95 = .ok (.iaload, 1) := by decide +kernel
theorem dX11_isFit_96 : decode cX11_isFit 96 = .ok (.aload_n 0, 1) := by decide +kernel
theorem dX11_isFit_97 : decode cX11_isFit 97 = .ok (.getfield 112, 3) := by decide +kernel
theorem dX11_isFit_100 : decode cX11_isFit 100 = .ok (.iload_n 3, 1) := by decide +kernel
theorem dX11_isFit_101 : decode cX11_isFit 101 = .ok (.iaload, 1) := by decide +kernel
theorem dX11_isFit_102 : decode cX11_isFit 102 = .ok (.invokestatic 171, 3) := by decide +kernel
theorem dX11_isFit_105 : decode cX11_isFit 105 = .ok (.ifCond .eq 7, 3) := by decide +kernel
theorem dX11_isFit_108 : decode cX11_isFit 108 = .ok (.iconst 1, 1) := by decide +kernel
theorem dX11_isFit_109 : decode cX11_isFit 109 = .ok (.goto 4, 3) := by decide +kernel
theorem dX11_isFit_112 : decode cX11_isFit 112 = .ok (.iconst 0, 1) := by decide +kernel
theorem dX11_isFit_113 : decode cX11_isFit 113 = .ok (.istore_n 2, 1) := by decide +kernel
theorem dX11_isFit_114 : decode cX11_isFit 114 = .ok (.iinc 3 1, 3) := by decide +kernel
theorem dX11_isFit_117 : decode cX11_isFit 117 = .ok (.goto (-91), 3) := by decide +kernel
theorem dX11_isFit_120 : decode cX11_isFit 120 = .ok (.goto (-114), 3) := by decide +kernel
theorem dX11_isFit_123 : decode cX11_isFit 123 = .ok (.iload_n 2, 1) := by decide +kernel
theorem dX11_isFit_124 : decode cX11_isFit 124 = .ok (.ireturn, 1) := by decide +kernel
set_option maxRecDepth 10000 in
theorem vX11_isFit_0 {κ : eg_K} {d : Nat} (hd : 3 ≤ d) {post : Int32 → eg_H → Prop} (M : eg_H) (l1 : Int32) (h : (gX11_begins M ∧ (∀ M2 : eg_H, M2 = (fX11_begins M) → eg_W κ gM mtX11_isFit d (eQI κ gM post) 6 [(0, vR (60, 0)), (1, vI l1), (2, vI (1 : Int32))] [] M2))) : eg_W κ gM mtX11_isFit d (eQI κ gM post) 0 [(0, vR (60, 0)), (1, vI l1)] [] M := by
  refine eg_aload_n 0 dX11_isFit_0 rfl rfl ?_
  obtain ⟨g1, h⟩ := h
  refine eg_callVV (av := []) (st := []) dX11_isFit_1 ml_11_246 rfl rfl (obM_60 z1) (by decide) rfl (Nat.le_of_ble_eq_true rfl) (eg_dd (by omega)) (sX11_begins (by omega) M   g1) (fun M2 eM2 => ?_)
  have h := h M2 eM2
  refine eg_iconst dX11_isFit_4 ic_1 ?_
  refine eg_istore_n dX11_isFit_5 rfl (by decide) (ls1 := [(2, vI (1 : Int32)), (0, vR (60, 0)), (1, vI l1)]) rfl ?_
  refine eg_sub [1, 2, 0] rfl ?_
  exact h
set_option maxRecDepth 10000 in
theorem vX11_isFit_6 {κ : eg_K} {d : Nat} (hd : 1 ≤ d) {post : Int32 → eg_H → Prop} (M : eg_H) (l1 : Int32) (l2 : Int32) (h : (vp_in (0 : Int32) 366 ∧ (l1 < (M.1 (110, 0) (0 : Int32).toNatClampNeg) → ((l2 = 0 ∨ l2 = 1) ∧ post l2 M)) ∧ ((¬ l1 < (M.1 (110, 0) (0 : Int32).toNatClampNeg)) → (l2 = 0 → ((l2 = 0 ∨ l2 = 1) ∧ post l2 M)) ∧ ((¬ l2 = 0) → eCV κ gM mtX11_second d [vR (60, 0)] M (fun M6 => eg_W κ gM mtX11_isFit d (eQI κ gM post) 26 [(0, vR (60, 0)), (1, vI l1), (2, vI l2), (3, vI (0 : Int32))] [] M6))))) : eg_W κ gM mtX11_isFit d (eQI κ gM post) 6 [(0, vR (60, 0)), (1, vI l1), (2, vI l2)] [] M := by
  refine eg_aload_n 0 dX11_isFit_6 rfl rfl ?_
  refine eg_getR dX11_isFit_7 fl_11_69 rfl rfl (obM_60 z1) ?_
  show eg_W κ gM mtX11_isFit d (eQI κ gM post) 10 [(0, vR (60, 0)), (1, vI l1), (2, vI l2)] [vR (110, 0)] M
  refine eg_iconst dX11_isFit_10 ic_0 ?_
  obtain ⟨g1, h⟩ := h
  refine eg_iaload dX11_isFit_11 (arM_110 z1 g1) ?_
  refine eg_iload_n 1 dX11_isFit_12 rfl rfl ?_
  refine eg_icmp_gt (tgt := 123) dX11_isFit_13 rfl (fun c2 => ?_) (fun c2 => ?_)
  · have h := h.1 c2
    refine eg_iload_n 2 dX11_isFit_123 rfl rfl ?_
    obtain ⟨g3, h⟩ := h
    exact eg_zreturn dX11_isFit_124 rfl g3 h
  · have h := h.2 c2
    refine eg_iload_n 2 dX11_isFit_16 rfl rfl ?_
    refine eg_if_eq (tgt := 123) dX11_isFit_17 rfl (fun c4 => ?_) (fun c4 => ?_)
    · have h := h.1 c4
      refine eg_iload_n 2 dX11_isFit_123 rfl rfl ?_
      obtain ⟨g5, h⟩ := h
      exact eg_zreturn dX11_isFit_124 rfl g5 h
    · have h := h.2 c4
      refine eg_aload_n 0 dX11_isFit_20 rfl rfl ?_
      obtain ⟨q7, hq7, h⟩ := h
      refine eg_callVV (av := []) (st := []) dX11_isFit_21 ml_11_468 rfl rfl (obM_60 z1) (by decide) rfl (Nat.le_of_ble_eq_true rfl) (eg_dd (by omega)) hq7 (fun M6 hp => ?_)
      have h := h M6 hp
      refine eg_iconst dX11_isFit_24 ic_0 ?_
      refine eg_istore_n dX11_isFit_25 rfl (by decide) (ls1 := [(3, vI (0 : Int32)), (0, vR (60, 0)), (1, vI l1), (2, vI l2)]) rfl ?_
      refine eg_sub [1, 2, 3, 0] rfl ?_
      exact h
set_option maxRecDepth 10000 in
theorem vX11_isFit_26 {κ : eg_K} {d : Nat} (hd : 1 ≤ d) {post : Int32 → eg_H → Prop} (M : eg_H) (l1 : Int32) (l2 : Int32) (l3 : Int32) (h : (∀ x2 : Int32, x2 = (fX11_knownMany M) → (x2 ≤ l3 → eg_W κ gM mtX11_isFit d (eQI κ gM post) 6 [(0, vR (60, 0)), (1, vI l1), (2, vI l2)] [] M) ∧ ((¬ x2 ≤ l3) → (vp_in l3 40 ∧ ((M.1 (140, 0) l3.toNatClampNeg) = 0 → (∀ x6 : Int32, x6 = (l3 + (1 : Int32)) → eg_W κ gM mtX11_isFit d (eQI κ gM post) 26 [(0, vR (60, 0)), (1, vI l1), (2, vI l2), (3, vI x6)] [] M)) ∧ ((¬ (M.1 (140, 0) l3.toNatClampNeg) = 0) → ((M.1 (136, 0) l3.toNatClampNeg) < 0 → (∀ x8 : Int32, x8 = (l3 + (1 : Int32)) → eg_W κ gM mtX11_isFit d (eQI κ gM post) 26 [(0, vR (60, 0)), (1, vI l1), (2, vI l2), (3, vI x8)] [] M)) ∧ ((¬ (M.1 (136, 0) l3.toNatClampNeg) < 0) → (vp_in (0 : Int32) 366 ∧ ((M.1 (137, 0) l3.toNatClampNeg) = ((M.1 (110, 0) (0 : Int32).toNatClampNeg) - (1 : Int32)) → (l2 = 0 → (∀ x12 : Int32, x12 = (l3 + (1 : Int32)) → eg_W κ gM mtX11_isFit d (eQI κ gM post) 26 [(0, vR (60, 0)), (1, vI l1), (2, vI (0 : Int32)), (3, vI x12)] [] M)) ∧ ((¬ l2 = 0) → (∀ x14 : Int32, x14 = (fX11_pan M (M.1 (136, 0) l3.toNatClampNeg)) → (vp_in x14 366 ∧ (∀ x17 : Int32, x17 = (fX11_isIn M (M.1 (110, 0) x14.toNatClampNeg) (M.1 (138, 0) l3.toNatClampNeg) (M.1 (139, 0) l3.toNatClampNeg)) → (∀ x18 : Int32, x18 = ((if x17 = 0 then (0 : Int32) else (1 : Int32))) → (∀ x19 : Int32, x19 = (l3 + (1 : Int32)) → eg_W κ gM mtX11_isFit d (eQI κ gM post) 26 [(0, vR (60, 0)), (1, vI l1), (2, vI x18), (3, vI x19)] [] M))))))) ∧ ((¬ (M.1 (137, 0) l3.toNatClampNeg) = ((M.1 (110, 0) (0 : Int32).toNatClampNeg) - (1 : Int32))) → (∀ x21 : Int32, x21 = (l3 + (1 : Int32)) → eg_W κ gM mtX11_isFit d (eQI κ gM post) 26 [(0, vR (60, 0)), (1, vI l1), (2, vI l2), (3, vI x21)] [] M))))))))) : eg_W κ gM mtX11_isFit d (eQI κ gM post) 26 [(0, vR (60, 0)), (1, vI l1), (2, vI l2), (3, vI l3)] [] M := by
  refine eg_iload_n 3 dX11_isFit_26 rfl rfl ?_
  refine eg_aload_n 0 dX11_isFit_27 rfl rfl ?_
  refine eg_callVI (av := []) (st := [vI l3]) dX11_isFit_28 ml_11_529 rfl rfl (obM_60 z1) (by decide) rfl (Nat.le_of_ble_eq_true rfl) (eg_dd (by omega)) (sX11_knownMany (by omega) M   ) (fun x2 M1 hp => ?_)
  obtain ⟨ex2, eM1⟩ := hp
  rw [eM1]
  have h := h x2 ex2
  refine eg_icmp_ge (tgt := 120) dX11_isFit_31 rfl (fun c3 => ?_) (fun c3 => ?_)
  · have h := h.1 c3
    refine eg_goto (tgt := 6) dX11_isFit_120 rfl ?_
    refine eg_sub [0, 1, 2] rfl ?_
    exact h
  · have h := h.2 c3
    refine eg_aload_n 0 dX11_isFit_34 rfl rfl ?_
    refine eg_getR dX11_isFit_35 fl_11_115 rfl rfl (obM_60 z1) ?_
    show eg_W κ gM mtX11_isFit d (eQI κ gM post) 38 [(0, vR (60, 0)), (1, vI l1), (2, vI l2), (3, vI l3)] [vR (140, 0)] M
    refine eg_iload_n 3 dX11_isFit_38 rfl rfl ?_
    obtain ⟨g4, h⟩ := h
    refine eg_zaload dX11_isFit_39 (arM_140 z1 g4) ?_
    refine eg_if_eq (tgt := 114) dX11_isFit_40 rfl (fun c5 => ?_) (fun c5 => ?_)
    · have h := h.1 c5
      refine en_iinc (f := fun x6 => [(3, vI x6), (0, vR (60, 0)), (1, vI l1), (2, vI l2)]) 3 dX11_isFit_114 rfl rfl (by decide) rfl (fun x6 ex6 => ?_)
      have h := h x6 ex6
      refine eg_goto (tgt := 26) dX11_isFit_117 rfl ?_
      refine eg_sub [1, 2, 3, 0] rfl ?_
      exact h
    · have h := h.2 c5
      refine eg_aload_n 0 dX11_isFit_43 rfl rfl ?_
      refine eg_getR dX11_isFit_44 fl_11_103 rfl rfl (obM_60 z1) ?_
      show eg_W κ gM mtX11_isFit d (eQI κ gM post) 47 [(0, vR (60, 0)), (1, vI l1), (2, vI l2), (3, vI l3)] [vR (136, 0)] M
      refine eg_iload_n 3 dX11_isFit_47 rfl rfl ?_
      refine eg_iaload dX11_isFit_48 (arM_136 z1 g4) ?_
      refine eg_if_lt (tgt := 114) dX11_isFit_49 rfl (fun c7 => ?_) (fun c7 => ?_)
      · have h := h.1 c7
        refine en_iinc (f := fun x8 => [(3, vI x8), (0, vR (60, 0)), (1, vI l1), (2, vI l2)]) 3 dX11_isFit_114 rfl rfl (by decide) rfl (fun x8 ex8 => ?_)
        have h := h x8 ex8
        refine eg_goto (tgt := 26) dX11_isFit_117 rfl ?_
        refine eg_sub [1, 2, 3, 0] rfl ?_
        exact h
      · have h := h.2 c7
        refine eg_aload_n 0 dX11_isFit_52 rfl rfl ?_
        refine eg_getR dX11_isFit_53 fl_11_106 rfl rfl (obM_60 z1) ?_
        show eg_W κ gM mtX11_isFit d (eQI κ gM post) 56 [(0, vR (60, 0)), (1, vI l1), (2, vI l2), (3, vI l3)] [vR (137, 0)] M
        refine eg_iload_n 3 dX11_isFit_56 rfl rfl ?_
        refine eg_iaload dX11_isFit_57 (arM_137 z1 g4) ?_
        refine eg_aload_n 0 dX11_isFit_58 rfl rfl ?_
        refine eg_getR dX11_isFit_59 fl_11_69 rfl rfl (obM_60 z1) ?_
        show eg_W κ gM mtX11_isFit d (eQI κ gM post) 62 [(0, vR (60, 0)), (1, vI l1), (2, vI l2), (3, vI l3)] [vR (110, 0), vI (M.1 (137, 0) l3.toNatClampNeg)] M
        refine eg_iconst dX11_isFit_62 ic_0 ?_
        obtain ⟨g9, h⟩ := h
        refine eg_iaload dX11_isFit_63 (arM_110 z1 g9) ?_
        refine eg_iconst dX11_isFit_64 ic_1 ?_
        refine eg_isub dX11_isFit_65 ?_
        refine eg_icmp_eq (tgt := 72) dX11_isFit_66 rfl (fun c10 => ?_) (fun c10 => ?_)
        · have h := h.1 c10
          refine eg_iload_n 2 dX11_isFit_72 rfl rfl ?_
          refine eg_if_eq (tgt := 112) dX11_isFit_73 rfl (fun c11 => ?_) (fun c11 => ?_)
          · have h := h.1 c11
            refine eg_iconst dX11_isFit_112 ic_0 ?_
            refine eg_istore_n dX11_isFit_113 rfl (by decide) (ls1 := [(2, vI (0 : Int32)), (0, vR (60, 0)), (1, vI l1), (3, vI l3)]) rfl ?_
            refine en_iinc (f := fun x12 => [(3, vI x12), (2, vI (0 : Int32)), (0, vR (60, 0)), (1, vI l1)]) 3 dX11_isFit_114 rfl rfl (by decide) rfl (fun x12 ex12 => ?_)
            have h := h x12 ex12
            refine eg_goto (tgt := 26) dX11_isFit_117 rfl ?_
            refine eg_sub [2, 3, 1, 0] rfl ?_
            exact h
          · have h := h.2 c11
            refine eg_aload_n 0 dX11_isFit_76 rfl rfl ?_
            refine eg_getR dX11_isFit_77 fl_11_69 rfl rfl (obM_60 z1) ?_
            show eg_W κ gM mtX11_isFit d (eQI κ gM post) 80 [(0, vR (60, 0)), (1, vI l1), (2, vI l2), (3, vI l3)] [vR (110, 0)] M
            refine eg_aload_n 0 dX11_isFit_80 rfl rfl ?_
            refine eg_getR dX11_isFit_81 fl_11_103 rfl rfl (obM_60 z1) ?_
            show eg_W κ gM mtX11_isFit d (eQI κ gM post) 84 [(0, vR (60, 0)), (1, vI l1), (2, vI l2), (3, vI l3)] [vR (136, 0), vR (110, 0)] M
            refine eg_iload_n 3 dX11_isFit_84 rfl rfl ?_
            refine eg_iaload dX11_isFit_85 (arM_136 z1 g4) ?_
            refine eg_callSI (av := [vI (M.1 (136, 0) l3.toNatClampNeg)]) (st := [vR (110, 0)]) dX11_isFit_86 ml_11_377 rfl rfl (Nat.le_of_ble_eq_true rfl) (eg_dd (by omega)) (sX11_pan (by omega) M (M.1 (136, 0) l3.toNatClampNeg)  ) (fun x14 M13 hp => ?_)
            obtain ⟨ex14, eM13⟩ := hp
            rw [eM13]
            have h := h x14 ex14
            obtain ⟨g15, h⟩ := h
            refine eg_iaload dX11_isFit_89 (arM_110 z1 g15) ?_
            refine eg_aload_n 0 dX11_isFit_90 rfl rfl ?_
            refine eg_getR dX11_isFit_91 fl_11_109 rfl rfl (obM_60 z1) ?_
            show eg_W κ gM mtX11_isFit d (eQI κ gM post) 94 [(0, vR (60, 0)), (1, vI l1), (2, vI l2), (3, vI l3)] [vR (138, 0), vI (M.1 (110, 0) x14.toNatClampNeg)] M
            refine eg_iload_n 3 dX11_isFit_94 rfl rfl ?_
            refine eg_iaload dX11_isFit_95 (arM_138 z1 g4) ?_
            refine eg_aload_n 0 dX11_isFit_96 rfl rfl ?_
            refine eg_getR dX11_isFit_97 fl_11_112 rfl rfl (obM_60 z1) ?_
            show eg_W κ gM mtX11_isFit d (eQI κ gM post) 100 [(0, vR (60, 0)), (1, vI l1), (2, vI l2), (3, vI l3)] [vR (139, 0), vI (M.1 (138, 0) l3.toNatClampNeg), vI (M.1 (110, 0) x14.toNatClampNeg)] M
            refine eg_iload_n 3 dX11_isFit_100 rfl rfl ?_
            refine eg_iaload dX11_isFit_101 (arM_139 z1 g4) ?_
            refine eg_callSI (av := [vI (M.1 (110, 0) x14.toNatClampNeg), vI (M.1 (138, 0) l3.toNatClampNeg), vI (M.1 (139, 0) l3.toNatClampNeg)]) (st := []) dX11_isFit_102 ml_11_171 rfl rfl (Nat.le_of_ble_eq_true rfl) (eg_dd (by omega)) (sX11_isIn (by omega) M (M.1 (110, 0) x14.toNatClampNeg) (M.1 (138, 0) l3.toNatClampNeg) (M.1 (139, 0) l3.toNatClampNeg)  ) (fun x17 M16 hp => ?_)
            obtain ⟨ex17, eM16⟩ := hp
            rw [eM16]
            have h := h x17 ex17
            have J : ∀ x18 : Int32, x18 = (if x17 = 0 then (0 : Int32) else (1 : Int32)) → eg_W κ gM mtX11_isFit d (eQI κ gM post) 113 [(0, vR (60, 0)), (1, vI l1), (2, vI l2), (3, vI l3)] [vI x18] M := by
              intro x18 ex18
              have h := h x18 ex18
              refine eg_istore_n dX11_isFit_113 rfl (by decide) (ls1 := [(2, vI x18), (0, vR (60, 0)), (1, vI l1), (3, vI l3)]) rfl ?_
              refine en_iinc (f := fun x19 => [(3, vI x19), (2, vI x18), (0, vR (60, 0)), (1, vI l1)]) 3 dX11_isFit_114 rfl rfl (by decide) rfl (fun x19 ex19 => ?_)
              have h := h x19 ex19
              refine eg_goto (tgt := 26) dX11_isFit_117 rfl ?_
              refine eg_sub [2, 3, 1, 0] rfl ?_
              exact h
            clear h
            refine eg_if_eq (tgt := 112) dX11_isFit_105 rfl (fun c20 => ?_) (fun c20 => ?_)
            · refine eg_iconst dX11_isFit_112 ic_0 ?_
              exact J _ (by rw [if_pos c20])
            · refine eg_iconst dX11_isFit_108 ic_1 ?_
              refine eg_goto (tgt := 113) dX11_isFit_109 rfl ?_
              exact J _ (by rw [if_neg c20])
        · have h := h.2 c10
          refine eg_goto (tgt := 114) dX11_isFit_69 rfl ?_
          refine en_iinc (f := fun x21 => [(3, vI x21), (0, vR (60, 0)), (1, vI l1), (2, vI l2)]) 3 dX11_isFit_114 rfl rfl (by decide) rfl (fun x21 ex21 => ?_)
          have h := h x21 ex21
          refine eg_goto (tgt := 26) dX11_isFit_117 rfl ?_
          refine eg_sub [1, 2, 3, 0] rfl ?_
          exact h
theorem dX11_fits_0 : decode cX11_fits 0 = .ok (.aload_n 0, 1) := by decide +kernel
theorem dX11_fits_1 : decode cX11_fits 1 = .ok (.iconst 0, 1) := by decide +kernel
theorem dX11_fits_2 : decode cX11_fits 2 = .ok (.putfield 127, 3) := by decide +kernel
theorem dX11_fits_5 : decode cX11_fits 5 = .ok (.iconst (-1), 1) := by decide +kernel
theorem dX11_fits_6 : decode cX11_fits 6 = .ok (.istore_n 1, 1) := by decide +kernel
theorem dX11_fits_7 : decode cX11_fits 7 = .ok (.iconst 0, 1) := by decide +kernel
theorem dX11_fits_8 : decode cX11_fits 8 = .ok (.istore_n 2, 1) := by decide +kernel
theorem dX11_fits_9 : decode cX11_fits 9 = .ok (.iload_n 2, 1) := by decide +kernel
theorem dX11_fits_10 : decode cX11_fits 10 = .ok (.aload_n 0, 1) := by decide +kernel
theorem dX11_fits_11 : decode cX11_fits 11 = .ok (.invokevirtual 529, 3) := by decide +kernel
theorem dX11_fits_14 : decode cX11_fits 14 = .ok (.if_icmp .ge 16, 3) := by decide +kernel
theorem dX11_fits_17 : decode cX11_fits 17 = .ok (.aload_n 0, 1) := by decide +kernel
theorem dX11_fits_18 : decode cX11_fits 18 = .ok (.getfield 115, 3) := by decide +kernel
theorem dX11_fits_21 : decode cX11_fits 21 = .ok (.iload_n 2, 1) := by decide +kernel
theorem dX11_fits_22 : decode cX11_fits 22 = .ok (.iconst 1, 1) := by decide +kernel
theorem dX11_fits_23 : decode cX11_fits 23 = .ok (.bastore, 1) := by decide +kernel
theorem dX11_fits_24 : decode cX11_fits 24 = .ok (.iinc 2 1, 3) := by decide +kernel
theorem dX11_fits_27 : decode cX11_fits 27 = .ok (.goto (-18), 3) := by decide +kernel
theorem dX11_fits_30 : decode cX11_fits 30 = .ok (.aload_n 0, 1) := by decide +kernel
theorem dX11_fits_31 : decode cX11_fits 31 = .ok (.invokevirtual 529, 3) := by decide +kernel
theorem dX11_fits_34 : decode cX11_fits 34 = .ok (.iconst 1, 1) := by decide +kernel
theorem dX11_fits_35 : decode cX11_fits 35 = .ok (.isub, 1) := by decide +kernel
theorem dX11_fits_36 : decode cX11_fits 36 = .ok (.istore_n 2, 1) := by decide +kernel
theorem dX11_fits_37 : decode cX11_fits 37 = .ok (.iload_n 2, 1) := by decide +kernel
theorem dX11_fits_38 : decode cX11_fits 38 = .ok (.ifCond .lt 39, 3) := by decide +kernel
theorem dX11_fits_41 : decode cX11_fits 41 = .ok (.aload_n 0, 1) := by decide +kernel
theorem dX11_fits_42 : decode cX11_fits 42 = .ok (.getfield 103, 3) := by decide +kernel
theorem dX11_fits_45 : decode cX11_fits 45 = .ok (.iload_n 2, 1) := by decide +kernel
theorem dX11_fits_46 : decode cX11_fits 46 = .ok (.iaload, 1) := by decide +kernel
theorem dX11_fits_47 : decode cX11_fits 47 = .ok (.ifCond .ge 24, 3) := by decide +kernel
theorem dX11_fits_50 : decode cX11_fits 50 = .ok (.aload_n 0, 1) := by decide +kernel
theorem dX11_fits_51 : decode cX11_fits 51 = .ok (.getfield 115, 3) := by decide +kernel
theorem dX11_fits_54 : decode cX11_fits 54 = .ok (.iload_n 2, 1) := by decide +kernel
theorem dX11_fits_55 : decode cX11_fits 55 = .ok (.baload, 1) := by decide +kernel
theorem dX11_fits_56 : decode cX11_fits 56 = .ok (.ifCond .eq 15, 3) := by decide +kernel
theorem dX11_fits_59 : decode cX11_fits 59 = .ok (.aload_n 0, 1) := by decide +kernel
theorem dX11_fits_60 : decode cX11_fits 60 = .ok (.getfield 115, 3) := by decide +kernel
theorem dX11_fits_63 : decode cX11_fits 63 = .ok (.aload_n 0, 1) := by decide +kernel
theorem dX11_fits_64 : decode cX11_fits 64 = .ok (.getfield 106, 3) := by decide +kernel
theorem dX11_fits_67 : decode cX11_fits 67 = .ok (.iload_n 2, 1) := by decide +kernel
theorem dX11_fits_68 : decode cX11_fits 68 = .ok (.iaload, 1) := by decide +kernel
theorem dX11_fits_69 : decode cX11_fits 69 = .ok (.iconst 0, 1) := by decide +kernel
theorem dX11_fits_70 : decode cX11_fits 70 = .ok (.bastore, 1) := by decide +kernel
theorem dX11_fits_71 : decode cX11_fits 71 = .ok (.iinc 2 (-1), 3) := by decide +kernel
theorem dX11_fits_74 : decode cX11_fits 74 = .ok (.goto (-37), 3) := by decide +kernel
theorem dX11_fits_77 : decode cX11_fits 77 = .ok (.iconst 0, 1) := by decide +kernel
theorem dX11_fits_78 : decode cX11_fits 78 = .ok (.istore_n 2, 1) := by decide +kernel
theorem dX11_fits_79 : decode cX11_fits 79 = .ok (.iload_n 2, 1) := by decide +kernel
theorem dX11_fits_80 : decode cX11_fits 80 = .ok (.aload_n 0, 1) := by decide +kernel
theorem dX11_fits_81 : decode cX11_fits 81 = .ok (.invokevirtual 529, 3) := by decide +kernel
theorem dX11_fits_84 : decode cX11_fits 84 = .ok (.if_icmp .ge 48, 3) := by decide +kernel
theorem dX11_fits_87 : decode cX11_fits 87 = .ok (.aload_n 0, 1) := by decide +kernel
theorem dX11_fits_88 : decode cX11_fits 88 = .ok (.getfield 115, 3) := by decide +kernel
theorem dX11_fits_91 : decode cX11_fits 91 = .ok (.iload_n 2, 1) := by decide +kernel
theorem dX11_fits_92 : decode cX11_fits 92 = .ok (.baload, 1) := by decide +kernel
theorem dX11_fits_93 : decode cX11_fits 93 = .ok (.ifCond .eq 31, 3) := by decide +kernel
theorem dX11_fits_96 : decode cX11_fits 96 = .ok (.aload_n 0, 1) := by decide +kernel
theorem dX11_fits_97 : decode cX11_fits 97 = .ok (.getfield 103, 3) := by decide +kernel
theorem dX11_fits_100 : decode cX11_fits 100 = .ok (.iload_n 2, 1) := by decide +kernel
theorem dX11_fits_101 : decode cX11_fits 101 = .ok (.iaload, 1) := by decide +kernel
theorem dX11_fits_102 : decode cX11_fits 102 = .ok (.ifCond .lt 22, 3) := by decide +kernel
theorem dX11_fits_105 : decode cX11_fits 105 = .ok (.aload_n 0, 1) := by decide +kernel
theorem dX11_fits_106 : decode cX11_fits 106 = .ok (.getfield 106, 3) := by decide +kernel
theorem dX11_fits_109 : decode cX11_fits 109 = .ok (.iload_n 2, 1) := by decide +kernel
theorem dX11_fits_110 : decode cX11_fits 110 = .ok (.iaload, 1) := by decide +kernel
theorem dX11_fits_111 : decode cX11_fits 111 = .ok (.iload_n 1, 1) := by decide +kernel
theorem dX11_fits_112 : decode cX11_fits 112 = .ok (.if_icmp .le 12, 3) := by decide +kernel
theorem dX11_fits_115 : decode cX11_fits 115 = .ok (.aload_n 0, 1) := by decide +kernel
theorem dX11_fits_116 : decode cX11_fits 116 = .ok (.getfield 106, 3) := by decide +kernel
theorem dX11_fits_119 : decode cX11_fits 119 = .ok (.iload_n 2, 1) := by decide +kernel
theorem dX11_fits_120 : decode cX11_fits 120 = .ok (.iaload, 1) := by decide +kernel
theorem dX11_fits_121 : decode cX11_fits 121 = .ok (.goto 4, 3) := by decide +kernel
theorem dX11_fits_124 : decode cX11_fits 124 = .ok (.iload_n 1, 1) := by decide +kernel
theorem dX11_fits_125 : decode cX11_fits 125 = .ok (.istore_n 1, 1) := by decide +kernel
theorem dX11_fits_126 : decode cX11_fits 126 = .ok (.iinc 2 1, 3) := by decide +kernel
theorem dX11_fits_129 : decode cX11_fits 129 = .ok (.goto (-50), 3) := by decide +kernel
theorem dX11_fits_132 : decode cX11_fits 132 = .ok (.iconst 0, 1) := by decide +kernel
theorem dX11_fits_133 : decode cX11_fits 133 = .ok (.istore_n 2, 1) := by decide +kernel
theorem dX11_fits_134 : decode cX11_fits 134 = .ok (.iconst 0, 1) := by decide +kernel
theorem dX11_fits_135 : decode cX11_fits 135 = .ok (.istore_n 3, 1) := by decide +kernel
theorem dX11_fits_136 : decode cX11_fits 136 = .ok (.iload_n 3, 1) := by decide +kernel
theorem dX11_fits_137 : decode cX11_fits 137 = .ok (.aload_n 0, 1) := by decide +kernel
theorem dX11_fits_138 : decode cX11_fits 138 = .ok (.getfield 215, 3) := by decide +kernel
theorem dX11_fits_141 : decode cX11_fits 141 = .ok (.if_icmp .gt 56, 3) := by decide +kernel
theorem dX11_fits_144 : decode cX11_fits 144 = .ok (.aload_n 0, 1) := by decide +kernel
theorem dX11_fits_145 : decode cX11_fits 145 = .ok (.invokevirtual 243, 3) := by decide +kernel
theorem dX11_fits_148 : decode cX11_fits 148 = .ok (.iload_n 3, 1) := by decide +kernel
theorem dX11_fits_149 : decode cX11_fits 149 = .ok (.aload_n 0, 1) := by decide +kernel
theorem dX11_fits_150 : decode cX11_fits 150 = .ok (.getfield 215, 3) := by decide +kernel
theorem dX11_fits_153 : decode cX11_fits 153 = .ok (.if_icmp .ge 20, 3) := by decide +kernel
theorem dX11_fits_156 : decode cX11_fits 156 = .ok (.aload_n 0, 1) := by decide +kernel
theorem dX11_fits_157 : decode cX11_fits 157 = .ok (.aload_n 0, 1) := by decide +kernel
theorem dX11_fits_158 : decode cX11_fits 158 = .ok (.getfield 41, 3) := by decide +kernel
theorem dX11_fits_161 : decode cX11_fits 161 = .ok (.iload_n 3, 1) := by decide +kernel
theorem dX11_fits_162 : decode cX11_fits 162 = .ok (.iaload, 1) := by decide +kernel
theorem dX11_fits_163 : decode cX11_fits 163 = .ok (.putfield 360, 3) := by decide +kernel
theorem dX11_fits_166 : decode cX11_fits 166 = .ok (.aload_n 0, 1) := by decide +kernel
theorem dX11_fits_167 : decode cX11_fits 167 = .ok (.iconst 3, 1) := by decide +kernel
theorem dX11_fits_168 : decode cX11_fits 168 = .ok (.iload_n 3, 1) := by decide +kernel
theorem dX11_fits_169 : decode cX11_fits 169 = .ok (.iadd, 1) := by decide +kernel
theorem dX11_fits_170 : decode cX11_fits 170 = .ok (.putfield 406, 3) := by decide +kernel
theorem dX11_fits_173 : decode cX11_fits 173 = .ok (.iload_n 2, 1) := by decide +kernel
theorem dX11_fits_174 : decode cX11_fits 174 = .ok (.aload_n 0, 1) := by decide +kernel
theorem dX11_fits_175 : decode cX11_fits 175 = .ok (.iload_n 1, 1) := by decide +kernel
theorem dX11_fits_176 : decode cX11_fits 176 = .ok (.invokevirtual 532, 3) := by decide +kernel
theorem dX11_fits_179 : decode cX11_fits 179 = .ok (.ifCond .eq 9, 3) := by decide +kernel
theorem dX11_fits_182 : decode cX11_fits 182 = .ok (.iconst 1, 1) := by decide +kernel
theorem dX11_fits_183 : decode cX11_fits 183 = .ok (.iload_n 3, 1) := by decide +kernel
theorem dX11_fits_184 : decode cX11_fits 184 = .ok (.ishl, 1) := by decide +kernel
theorem dX11_fits_185 : decode cX11_fits 185 = .ok (.goto 4, 3) := by decide +kernel
theorem dX11_fits_188 : decode cX11_fits 188 = .ok (.iconst 0, 1) := by decide +kernel
theorem dX11_fits_189 : decode cX11_fits 189 = .ok (.ior, 1) := by decide +kernel
theorem dX11_fits_190 : decode cX11_fits 190 = .ok (.istore_n 2, 1) := by decide +kernel
theorem dX11_fits_191 : decode cX11_fits 191 = .ok (.iinc 3 1, 3) := by decide +kernel
theorem dX11_fits_194 : decode cX11_fits 194 = .ok (.goto (-58), 3) := by decide +kernel
theorem dX11_fits_197 : decode cX11_fits 197 = .ok (.iload_n 2, 1) := by decide +kernel
theorem dX11_fits_198 : decode cX11_fits 198 = .ok (.ireturn, 1) := by decide +kernel
set_option maxRecDepth 10000 in
theorem vX11_fits_0 {κ : eg_K} {d : Nat} {post : Int32 → eg_H → Prop} (M : eg_H)  (h : (∀ M1 : eg_H, M1 = (sI M (60, 0) 2 (0 : Int32)) → eg_W κ gM mtX11_fits d (eQI κ gM post) 9 [(0, vR (60, 0)), (1, vI (-1 : Int32)), (2, vI (0 : Int32))] [] M1)) : eg_W κ gM mtX11_fits d (eQI κ gM post) 0 [(0, vR (60, 0))] [] M := by
  refine eg_aload_n 0 dX11_fits_0 rfl rfl ?_
  refine eg_iconst dX11_fits_1 ic_0 ?_
  refine en_putI dX11_fits_2 fl_11_127 rfl rfl (obM_60 z1) (fun M1 eM1 => ?_)
  have h := h M1 eM1
  refine eg_iconst dX11_fits_5 ic_m1 ?_
  refine eg_istore_n dX11_fits_6 rfl (by decide) (ls1 := [(1, vI (-1 : Int32)), (0, vR (60, 0))]) rfl ?_
  refine eg_iconst dX11_fits_7 ic_0 ?_
  refine eg_istore_n dX11_fits_8 rfl (by decide) (ls1 := [(2, vI (0 : Int32)), (1, vI (-1 : Int32)), (0, vR (60, 0))]) rfl ?_
  refine eg_sub [2, 1, 0] rfl ?_
  exact h
set_option maxRecDepth 10000 in
theorem vX11_fits_9 {κ : eg_K} {d : Nat} (hd : 1 ≤ d) {post : Int32 → eg_H → Prop} (M : eg_H) (l1 : Int32) (l2 : Int32) (h : (∀ x2 : Int32, x2 = (fX11_knownMany M) → (x2 ≤ l2 → (∀ x5 : Int32, x5 = (fX11_knownMany M) → (∀ x6 : Int32, x6 = (x5 - (1 : Int32)) → eg_W κ gM mtX11_fits d (eQI κ gM post) 37 [(0, vR (60, 0)), (1, vI l1), (2, vI x6)] [] M))) ∧ ((¬ x2 ≤ l2) → (vp_in l2 40 ∧ (∀ M8 : eg_H, M8 = (sI M (140, 0) l2.toNatClampNeg (vp_nar .boolean (1 : Int32))) → (∀ x9 : Int32, x9 = (l2 + (1 : Int32)) → eg_W κ gM mtX11_fits d (eQI κ gM post) 9 [(0, vR (60, 0)), (1, vI l1), (2, vI x9)] [] M8)))))) : eg_W κ gM mtX11_fits d (eQI κ gM post) 9 [(0, vR (60, 0)), (1, vI l1), (2, vI l2)] [] M := by
  refine eg_iload_n 2 dX11_fits_9 rfl rfl ?_
  refine eg_aload_n 0 dX11_fits_10 rfl rfl ?_
  refine eg_callVI (av := []) (st := [vI l2]) dX11_fits_11 ml_11_529 rfl rfl (obM_60 z1) (by decide) rfl (Nat.le_of_ble_eq_true rfl) (eg_dd (by omega)) (sX11_knownMany (by omega) M   ) (fun x2 M1 hp => ?_)
  obtain ⟨ex2, eM1⟩ := hp
  rw [eM1]
  have h := h x2 ex2
  refine eg_icmp_ge (tgt := 30) dX11_fits_14 rfl (fun c3 => ?_) (fun c3 => ?_)
  · have h := h.1 c3
    refine eg_aload_n 0 dX11_fits_30 rfl rfl ?_
    refine eg_callVI (av := []) (st := []) dX11_fits_31 ml_11_529 rfl rfl (obM_60 z1) (by decide) rfl (Nat.le_of_ble_eq_true rfl) (eg_dd (by omega)) (sX11_knownMany (by omega) M   ) (fun x5 M4 hp => ?_)
    obtain ⟨ex5, eM4⟩ := hp
    rw [eM4]
    have h := h x5 ex5
    refine eg_iconst dX11_fits_34 ic_1 ?_
    refine eg_isub dX11_fits_35 ?_
    refine en_istore_n (f := fun x6 => [(2, vI x6), (0, vR (60, 0)), (1, vI l1)]) dX11_fits_36 rfl (by decide) rfl (fun x6 ex6 => ?_)
    have h := h x6 ex6
    refine eg_sub [1, 2, 0] rfl ?_
    exact h
  · have h := h.2 c3
    refine eg_aload_n 0 dX11_fits_17 rfl rfl ?_
    refine eg_getR dX11_fits_18 fl_11_115 rfl rfl (obM_60 z1) ?_
    show eg_W κ gM mtX11_fits d (eQI κ gM post) 21 [(0, vR (60, 0)), (1, vI l1), (2, vI l2)] [vR (140, 0)] M
    refine eg_iload_n 2 dX11_fits_21 rfl rfl ?_
    refine eg_iconst dX11_fits_22 ic_1 ?_
    obtain ⟨g7, h⟩ := h
    refine en_zastore dX11_fits_23 (arM_140 z1 g7) (fun M8 eM8 => ?_)
    have h := h M8 eM8
    refine en_iinc (f := fun x9 => [(2, vI x9), (0, vR (60, 0)), (1, vI l1)]) 2 dX11_fits_24 rfl rfl (by decide) rfl (fun x9 ex9 => ?_)
    have h := h x9 ex9
    refine eg_goto (tgt := 9) dX11_fits_27 rfl ?_
    refine eg_sub [1, 2, 0] rfl ?_
    exact h
set_option maxRecDepth 10000 in
theorem vX11_fits_37 {κ : eg_K} {d : Nat} {post : Int32 → eg_H → Prop} (M : eg_H) (l1 : Int32) (l2 : Int32) (h : (l2 < 0 → eg_W κ gM mtX11_fits d (eQI κ gM post) 79 [(0, vR (60, 0)), (1, vI l1), (2, vI (0 : Int32))] [] M) ∧ ((¬ l2 < 0) → (vp_in l2 40 ∧ (0 ≤ (M.1 (136, 0) l2.toNatClampNeg) → (∀ x4 : Int32, x4 = (l2 + (-1 : Int32)) → eg_W κ gM mtX11_fits d (eQI κ gM post) 37 [(0, vR (60, 0)), (1, vI l1), (2, vI x4)] [] M)) ∧ ((¬ 0 ≤ (M.1 (136, 0) l2.toNatClampNeg)) → ((M.1 (140, 0) l2.toNatClampNeg) = 0 → (∀ x6 : Int32, x6 = (l2 + (-1 : Int32)) → eg_W κ gM mtX11_fits d (eQI κ gM post) 37 [(0, vR (60, 0)), (1, vI l1), (2, vI x6)] [] M)) ∧ ((¬ (M.1 (140, 0) l2.toNatClampNeg) = 0) → (vp_in (M.1 (137, 0) l2.toNatClampNeg) 40 ∧ (∀ M8 : eg_H, M8 = (sI M (140, 0) (M.1 (137, 0) l2.toNatClampNeg).toNatClampNeg (vp_nar .boolean (0 : Int32))) → (∀ x9 : Int32, x9 = (l2 + (-1 : Int32)) → eg_W κ gM mtX11_fits d (eQI κ gM post) 37 [(0, vR (60, 0)), (1, vI l1), (2, vI x9)] [] M8)))))))) : eg_W κ gM mtX11_fits d (eQI κ gM post) 37 [(0, vR (60, 0)), (1, vI l1), (2, vI l2)] [] M := by
  refine eg_iload_n 2 dX11_fits_37 rfl rfl ?_
  refine eg_if_lt (tgt := 77) dX11_fits_38 rfl (fun c1 => ?_) (fun c1 => ?_)
  · have h := h.1 c1
    refine eg_iconst dX11_fits_77 ic_0 ?_
    refine eg_istore_n dX11_fits_78 rfl (by decide) (ls1 := [(2, vI (0 : Int32)), (0, vR (60, 0)), (1, vI l1)]) rfl ?_
    refine eg_sub [1, 2, 0] rfl ?_
    exact h
  · have h := h.2 c1
    refine eg_aload_n 0 dX11_fits_41 rfl rfl ?_
    refine eg_getR dX11_fits_42 fl_11_103 rfl rfl (obM_60 z1) ?_
    show eg_W κ gM mtX11_fits d (eQI κ gM post) 45 [(0, vR (60, 0)), (1, vI l1), (2, vI l2)] [vR (136, 0)] M
    refine eg_iload_n 2 dX11_fits_45 rfl rfl ?_
    obtain ⟨g2, h⟩ := h
    refine eg_iaload dX11_fits_46 (arM_136 z1 g2) ?_
    refine eg_if_ge (tgt := 71) dX11_fits_47 rfl (fun c3 => ?_) (fun c3 => ?_)
    · have h := h.1 c3
      refine en_iinc (f := fun x4 => [(2, vI x4), (0, vR (60, 0)), (1, vI l1)]) 2 dX11_fits_71 rfl rfl (by decide) rfl (fun x4 ex4 => ?_)
      have h := h x4 ex4
      refine eg_goto (tgt := 37) dX11_fits_74 rfl ?_
      refine eg_sub [1, 2, 0] rfl ?_
      exact h
    · have h := h.2 c3
      refine eg_aload_n 0 dX11_fits_50 rfl rfl ?_
      refine eg_getR dX11_fits_51 fl_11_115 rfl rfl (obM_60 z1) ?_
      show eg_W κ gM mtX11_fits d (eQI κ gM post) 54 [(0, vR (60, 0)), (1, vI l1), (2, vI l2)] [vR (140, 0)] M
      refine eg_iload_n 2 dX11_fits_54 rfl rfl ?_
      refine eg_zaload dX11_fits_55 (arM_140 z1 g2) ?_
      refine eg_if_eq (tgt := 71) dX11_fits_56 rfl (fun c5 => ?_) (fun c5 => ?_)
      · have h := h.1 c5
        refine en_iinc (f := fun x6 => [(2, vI x6), (0, vR (60, 0)), (1, vI l1)]) 2 dX11_fits_71 rfl rfl (by decide) rfl (fun x6 ex6 => ?_)
        have h := h x6 ex6
        refine eg_goto (tgt := 37) dX11_fits_74 rfl ?_
        refine eg_sub [1, 2, 0] rfl ?_
        exact h
      · have h := h.2 c5
        refine eg_aload_n 0 dX11_fits_59 rfl rfl ?_
        refine eg_getR dX11_fits_60 fl_11_115 rfl rfl (obM_60 z1) ?_
        show eg_W κ gM mtX11_fits d (eQI κ gM post) 63 [(0, vR (60, 0)), (1, vI l1), (2, vI l2)] [vR (140, 0)] M
        refine eg_aload_n 0 dX11_fits_63 rfl rfl ?_
        refine eg_getR dX11_fits_64 fl_11_106 rfl rfl (obM_60 z1) ?_
        show eg_W κ gM mtX11_fits d (eQI κ gM post) 67 [(0, vR (60, 0)), (1, vI l1), (2, vI l2)] [vR (137, 0), vR (140, 0)] M
        refine eg_iload_n 2 dX11_fits_67 rfl rfl ?_
        refine eg_iaload dX11_fits_68 (arM_137 z1 g2) ?_
        refine eg_iconst dX11_fits_69 ic_0 ?_
        obtain ⟨g7, h⟩ := h
        refine en_zastore dX11_fits_70 (arM_140 z1 g7) (fun M8 eM8 => ?_)
        have h := h M8 eM8
        refine en_iinc (f := fun x9 => [(2, vI x9), (0, vR (60, 0)), (1, vI l1)]) 2 dX11_fits_71 rfl rfl (by decide) rfl (fun x9 ex9 => ?_)
        have h := h x9 ex9
        refine eg_goto (tgt := 37) dX11_fits_74 rfl ?_
        refine eg_sub [1, 2, 0] rfl ?_
        exact h
set_option maxRecDepth 10000 in
theorem vX11_fits_79 {κ : eg_K} {d : Nat} (hd : 1 ≤ d) {post : Int32 → eg_H → Prop} (M : eg_H) (l1 : Int32) (l2 : Int32) (h : (∀ x2 : Int32, x2 = (fX11_knownMany M) → (x2 ≤ l2 → eg_W κ gM mtX11_fits d (eQI κ gM post) 136 [(0, vR (60, 0)), (1, vI l1), (2, vI (0 : Int32)), (3, vI (0 : Int32))] [] M) ∧ ((¬ x2 ≤ l2) → (vp_in l2 40 ∧ (∀ x5 : Int32, x5 = ((if (M.1 (140, 0) l2.toNatClampNeg) = 0 then l1 else (if (M.1 (136, 0) l2.toNatClampNeg) < 0 then l1 else (if (M.1 (137, 0) l2.toNatClampNeg) ≤ l1 then l1 else (M.1 (137, 0) l2.toNatClampNeg))))) → (∀ x6 : Int32, x6 = (l2 + (1 : Int32)) → eg_W κ gM mtX11_fits d (eQI κ gM post) 79 [(0, vR (60, 0)), (1, vI x5), (2, vI x6)] [] M)))))) : eg_W κ gM mtX11_fits d (eQI κ gM post) 79 [(0, vR (60, 0)), (1, vI l1), (2, vI l2)] [] M := by
  refine eg_iload_n 2 dX11_fits_79 rfl rfl ?_
  refine eg_aload_n 0 dX11_fits_80 rfl rfl ?_
  refine eg_callVI (av := []) (st := [vI l2]) dX11_fits_81 ml_11_529 rfl rfl (obM_60 z1) (by decide) rfl (Nat.le_of_ble_eq_true rfl) (eg_dd (by omega)) (sX11_knownMany (by omega) M   ) (fun x2 M1 hp => ?_)
  obtain ⟨ex2, eM1⟩ := hp
  rw [eM1]
  have h := h x2 ex2
  refine eg_icmp_ge (tgt := 132) dX11_fits_84 rfl (fun c3 => ?_) (fun c3 => ?_)
  · have h := h.1 c3
    refine eg_iconst dX11_fits_132 ic_0 ?_
    refine eg_istore_n dX11_fits_133 rfl (by decide) (ls1 := [(2, vI (0 : Int32)), (0, vR (60, 0)), (1, vI l1)]) rfl ?_
    refine eg_iconst dX11_fits_134 ic_0 ?_
    refine eg_istore_n dX11_fits_135 rfl (by decide) (ls1 := [(3, vI (0 : Int32)), (2, vI (0 : Int32)), (0, vR (60, 0)), (1, vI l1)]) rfl ?_
    refine eg_sub [2, 3, 1, 0] rfl ?_
    exact h
  · have h := h.2 c3
    refine eg_aload_n 0 dX11_fits_87 rfl rfl ?_
    refine eg_getR dX11_fits_88 fl_11_115 rfl rfl (obM_60 z1) ?_
    show eg_W κ gM mtX11_fits d (eQI κ gM post) 91 [(0, vR (60, 0)), (1, vI l1), (2, vI l2)] [vR (140, 0)] M
    refine eg_iload_n 2 dX11_fits_91 rfl rfl ?_
    obtain ⟨g4, h⟩ := h
    refine eg_zaload dX11_fits_92 (arM_140 z1 g4) ?_
    have J : ∀ x5 : Int32, x5 = (if (M.1 (140, 0) l2.toNatClampNeg) = 0 then l1 else (if (M.1 (136, 0) l2.toNatClampNeg) < 0 then l1 else (if (M.1 (137, 0) l2.toNatClampNeg) ≤ l1 then l1 else (M.1 (137, 0) l2.toNatClampNeg)))) → eg_W κ gM mtX11_fits d (eQI κ gM post) 125 [(0, vR (60, 0)), (1, vI l1), (2, vI l2)] [vI x5] M := by
      intro x5 ex5
      have h := h x5 ex5
      refine eg_istore_n dX11_fits_125 rfl (by decide) (ls1 := [(1, vI x5), (0, vR (60, 0)), (2, vI l2)]) rfl ?_
      refine en_iinc (f := fun x6 => [(2, vI x6), (1, vI x5), (0, vR (60, 0))]) 2 dX11_fits_126 rfl rfl (by decide) rfl (fun x6 ex6 => ?_)
      have h := h x6 ex6
      refine eg_goto (tgt := 79) dX11_fits_129 rfl ?_
      refine eg_sub [2, 1, 0] rfl ?_
      exact h
    clear h
    refine eg_if_eq (tgt := 124) dX11_fits_93 rfl (fun c7 => ?_) (fun c7 => ?_)
    · refine eg_iload_n 1 dX11_fits_124 rfl rfl ?_
      exact J _ (by rw [if_pos c7])
    · refine eg_aload_n 0 dX11_fits_96 rfl rfl ?_
      refine eg_getR dX11_fits_97 fl_11_103 rfl rfl (obM_60 z1) ?_
      show eg_W κ gM mtX11_fits d (eQI κ gM post) 100 [(0, vR (60, 0)), (1, vI l1), (2, vI l2)] [vR (136, 0)] M
      refine eg_iload_n 2 dX11_fits_100 rfl rfl ?_
      refine eg_iaload dX11_fits_101 (arM_136 z1 g4) ?_
      refine eg_if_lt (tgt := 124) dX11_fits_102 rfl (fun c8 => ?_) (fun c8 => ?_)
      · refine eg_iload_n 1 dX11_fits_124 rfl rfl ?_
        exact J _ (by rw [if_neg c7, if_pos c8])
      · refine eg_aload_n 0 dX11_fits_105 rfl rfl ?_
        refine eg_getR dX11_fits_106 fl_11_106 rfl rfl (obM_60 z1) ?_
        show eg_W κ gM mtX11_fits d (eQI κ gM post) 109 [(0, vR (60, 0)), (1, vI l1), (2, vI l2)] [vR (137, 0)] M
        refine eg_iload_n 2 dX11_fits_109 rfl rfl ?_
        refine eg_iaload dX11_fits_110 (arM_137 z1 g4) ?_
        refine eg_iload_n 1 dX11_fits_111 rfl rfl ?_
        refine eg_icmp_le (tgt := 124) dX11_fits_112 rfl (fun c9 => ?_) (fun c9 => ?_)
        · refine eg_iload_n 1 dX11_fits_124 rfl rfl ?_
          exact J _ (by rw [if_neg c7, if_neg c8, if_pos c9])
        · refine eg_aload_n 0 dX11_fits_115 rfl rfl ?_
          refine eg_getR dX11_fits_116 fl_11_106 rfl rfl (obM_60 z1) ?_
          show eg_W κ gM mtX11_fits d (eQI κ gM post) 119 [(0, vR (60, 0)), (1, vI l1), (2, vI l2)] [vR (137, 0)] M
          refine eg_iload_n 2 dX11_fits_119 rfl rfl ?_
          refine eg_iaload dX11_fits_120 (arM_137 z1 g4) ?_
          refine eg_goto (tgt := 125) dX11_fits_121 rfl ?_
          exact J _ (by rw [if_neg c7, if_neg c8, if_neg c9])
set_option maxRecDepth 10000 in
theorem vX11_fits_136 {κ : eg_K} {d : Nat} (hd : 1 ≤ d) {post : Int32 → eg_H → Prop} (M : eg_H) (l1 : Int32) (l2 : Int32) (l3 : Int32) (h : ((M.1 (60, 0) 14) < l3 → post l2 M) ∧ ((¬ (M.1 (60, 0) 14) < l3) → (gX11_clears M ∧ (∀ M3 : eg_H, M3 = (fX11_clears M) → ((M3.1 (60, 0) 14) ≤ l3 → eCI κ gM mtX11_isFit d [vR (60, 0), vI l1] M3 (fun x6 M7 => (∀ x9 : Int32, x9 = ((if x6 = 0 then (0 : Int32) else ((1 : Int32) <<< (l3 &&& 31)))) → (∀ x10 : Int32, x10 = (l2 ||| x9) → (∀ x11 : Int32, x11 = (l3 + (1 : Int32)) → eg_W κ gM mtX11_fits d (eQI κ gM post) 136 [(0, vR (60, 0)), (1, vI l1), (2, vI x10), (3, vI x11)] [] M7))))) ∧ ((¬ (M3.1 (60, 0) 14) ≤ l3) → (vp_in l3 8 ∧ (∀ M14 : eg_H, M14 = (sI M3 (60, 0) 62 (M3.1 (95, 0) l3.toNatClampNeg)) → (∀ M15 : eg_H, M15 = (sI M14 (60, 0) 63 ((3 : Int32) + l3)) → eCI κ gM mtX11_isFit d [vR (60, 0), vI l1] M15 (fun x16 M17 => (∀ x19 : Int32, x19 = ((if x16 = 0 then (0 : Int32) else ((1 : Int32) <<< (l3 &&& 31)))) → (∀ x20 : Int32, x20 = (l2 ||| x19) → (∀ x21 : Int32, x21 = (l3 + (1 : Int32)) → eg_W κ gM mtX11_fits d (eQI κ gM post) 136 [(0, vR (60, 0)), (1, vI l1), (2, vI x20), (3, vI x21)] [] M17)))))))))))) : eg_W κ gM mtX11_fits d (eQI κ gM post) 136 [(0, vR (60, 0)), (1, vI l1), (2, vI l2), (3, vI l3)] [] M := by
  refine eg_iload_n 3 dX11_fits_136 rfl rfl ?_
  refine eg_aload_n 0 dX11_fits_137 rfl rfl ?_
  refine eg_getI dX11_fits_138 fl_11_215 rfl trivial (obM_60 z1) ?_
  refine eg_icmp_gt (tgt := 197) dX11_fits_141 rfl (fun c1 => ?_) (fun c1 => ?_)
  · have h := h.1 c1
    refine eg_iload_n 2 dX11_fits_197 rfl rfl ?_
    exact eg_ireturn dX11_fits_198 rfl h
  · have h := h.2 c1
    refine eg_aload_n 0 dX11_fits_144 rfl rfl ?_
    obtain ⟨g2, h⟩ := h
    refine eg_callVV (av := []) (st := []) dX11_fits_145 ml_11_243 rfl rfl (obM_60 z1) (by decide) rfl (Nat.le_of_ble_eq_true rfl) (eg_dd (by omega)) (sX11_clears (by omega) M   g2) (fun M3 eM3 => ?_)
    have h := h M3 eM3
    refine eg_iload_n 3 dX11_fits_148 rfl rfl ?_
    refine eg_aload_n 0 dX11_fits_149 rfl rfl ?_
    refine eg_getI dX11_fits_150 fl_11_215 rfl trivial (obM_60 z1) ?_
    refine eg_icmp_ge (tgt := 173) dX11_fits_153 rfl (fun c5 => ?_) (fun c5 => ?_)
    · have h := h.1 c5
      refine eg_iload_n 2 dX11_fits_173 rfl rfl ?_
      refine eg_aload_n 0 dX11_fits_174 rfl rfl ?_
      refine eg_iload_n 1 dX11_fits_175 rfl rfl ?_
      obtain ⟨q8, hq8, h⟩ := h
      refine eg_callVI (av := [vI l1]) (st := [vI l2]) dX11_fits_176 ml_11_532 rfl rfl (obM_60 z1) (by decide) rfl (Nat.le_of_ble_eq_true rfl) (eg_dd (by omega)) hq8 (fun x6 M7 hp => ?_)
      have h := h x6 M7 hp
      have J : ∀ x9 : Int32, x9 = (if x6 = 0 then (0 : Int32) else ((1 : Int32) <<< (l3 &&& 31))) → eg_W κ gM mtX11_fits d (eQI κ gM post) 189 [(0, vR (60, 0)), (1, vI l1), (2, vI l2), (3, vI l3)] [vI x9, vI l2] M7 := by
        intro x9 ex9
        have h := h x9 ex9
        refine eg_ior dX11_fits_189 ?_
        refine en_istore_n (f := fun x10 => [(2, vI x10), (0, vR (60, 0)), (1, vI l1), (3, vI l3)]) dX11_fits_190 rfl (by decide) rfl (fun x10 ex10 => ?_)
        have h := h x10 ex10
        refine en_iinc (f := fun x11 => [(3, vI x11), (2, vI x10), (0, vR (60, 0)), (1, vI l1)]) 3 dX11_fits_191 rfl rfl (by decide) rfl (fun x11 ex11 => ?_)
        have h := h x11 ex11
        refine eg_goto (tgt := 136) dX11_fits_194 rfl ?_
        refine eg_sub [2, 3, 1, 0] rfl ?_
        exact h
      clear h
      refine eg_if_eq (tgt := 188) dX11_fits_179 rfl (fun c12 => ?_) (fun c12 => ?_)
      · refine eg_iconst dX11_fits_188 ic_0 ?_
        exact J _ (by rw [if_pos c12])
      · refine eg_iconst dX11_fits_182 ic_1 ?_
        refine eg_iload_n 3 dX11_fits_183 rfl rfl ?_
        refine eg_ishl dX11_fits_184 ?_
        refine eg_goto (tgt := 189) dX11_fits_185 rfl ?_
        exact J _ (by rw [if_neg c12])
    · have h := h.2 c5
      refine eg_aload_n 0 dX11_fits_156 rfl rfl ?_
      refine eg_aload_n 0 dX11_fits_157 rfl rfl ?_
      refine eg_getR dX11_fits_158 fl_11_41 rfl rfl (obM_60 z1) ?_
      show eg_W κ gM mtX11_fits d (eQI κ gM post) 161 [(0, vR (60, 0)), (1, vI l1), (2, vI l2), (3, vI l3)] [vR (95, 0), vR (60, 0)] M3
      refine eg_iload_n 3 dX11_fits_161 rfl rfl ?_
      obtain ⟨g13, h⟩ := h
      refine eg_iaload dX11_fits_162 (arM_95 z1 g13) ?_
      refine en_putI dX11_fits_163 fl_11_360 rfl rfl (obM_60 z1) (fun M14 eM14 => ?_)
      have h := h M14 eM14
      refine eg_aload_n 0 dX11_fits_166 rfl rfl ?_
      refine eg_iconst dX11_fits_167 ic_3 ?_
      refine eg_iload_n 3 dX11_fits_168 rfl rfl ?_
      refine eg_iadd dX11_fits_169 ?_
      refine en_putI dX11_fits_170 fl_11_406 rfl rfl (obM_60 z1) (fun M15 eM15 => ?_)
      have h := h M15 eM15
      refine eg_iload_n 2 dX11_fits_173 rfl rfl ?_
      refine eg_aload_n 0 dX11_fits_174 rfl rfl ?_
      refine eg_iload_n 1 dX11_fits_175 rfl rfl ?_
      obtain ⟨q18, hq18, h⟩ := h
      refine eg_callVI (av := [vI l1]) (st := [vI l2]) dX11_fits_176 ml_11_532 rfl rfl (obM_60 z1) (by decide) rfl (Nat.le_of_ble_eq_true rfl) (eg_dd (by omega)) hq18 (fun x16 M17 hp => ?_)
      have h := h x16 M17 hp
      have J : ∀ x19 : Int32, x19 = (if x16 = 0 then (0 : Int32) else ((1 : Int32) <<< (l3 &&& 31))) → eg_W κ gM mtX11_fits d (eQI κ gM post) 189 [(0, vR (60, 0)), (1, vI l1), (2, vI l2), (3, vI l3)] [vI x19, vI l2] M17 := by
        intro x19 ex19
        have h := h x19 ex19
        refine eg_ior dX11_fits_189 ?_
        refine en_istore_n (f := fun x20 => [(2, vI x20), (0, vR (60, 0)), (1, vI l1), (3, vI l3)]) dX11_fits_190 rfl (by decide) rfl (fun x20 ex20 => ?_)
        have h := h x20 ex20
        refine en_iinc (f := fun x21 => [(3, vI x21), (2, vI x20), (0, vR (60, 0)), (1, vI l1)]) 3 dX11_fits_191 rfl rfl (by decide) rfl (fun x21 ex21 => ?_)
        have h := h x21 ex21
        refine eg_goto (tgt := 136) dX11_fits_194 rfl ?_
        refine eg_sub [2, 3, 1, 0] rfl ?_
        exact h
      clear h
      refine eg_if_eq (tgt := 188) dX11_fits_179 rfl (fun c22 => ?_) (fun c22 => ?_)
      · refine eg_iconst dX11_fits_188 ic_0 ?_
        exact J _ (by rw [if_pos c22])
      · refine eg_iconst dX11_fits_182 ic_1 ?_
        refine eg_iload_n 3 dX11_fits_183 rfl rfl ?_
        refine eg_ishl dX11_fits_184 ?_
        refine eg_goto (tgt := 189) dX11_fits_185 rfl ?_
        exact J _ (by rw [if_neg c22])
theorem dX11_keep_0 : decode cX11_keep 0 = .ok (.aload_n 0, 1) := by decide +kernel
theorem dX11_keep_1 : decode cX11_keep 1 = .ok (.iconst 0, 1) := by decide +kernel
theorem dX11_keep_2 : decode cX11_keep 2 = .ok (.putfield 127, 3) := by decide +kernel
theorem dX11_keep_5 : decode cX11_keep 5 = .ok (.aload_n 0, 1) := by decide +kernel
theorem dX11_keep_6 : decode cX11_keep 6 = .ok (.iconst 1, 1) := by decide +kernel
theorem dX11_keep_7 : decode cX11_keep 7 = .ok (.putfield 240, 3) := by decide +kernel
theorem dX11_keep_10 : decode cX11_keep 10 = .ok (.aload_n 0, 1) := by decide +kernel
theorem dX11_keep_11 : decode cX11_keep 11 = .ok (.getfield 118, 3) := by decide +kernel
theorem dX11_keep_14 : decode cX11_keep 14 = .ok (.aload_n 0, 1) := by decide +kernel
theorem dX11_keep_15 : decode cX11_keep 15 = .ok (.getfield 72, 3) := by decide +kernel
theorem dX11_keep_18 : decode cX11_keep 18 = .ok (.invokestatic 249, 3) := by decide +kernel
theorem dX11_keep_21 : decode cX11_keep 21 = .ok (.aload_n 0, 1) := by decide +kernel
theorem dX11_keep_22 : decode cX11_keep 22 = .ok (.getfield 72, 3) := by decide +kernel
theorem dX11_keep_25 : decode cX11_keep 25 = .ok (.iconst 0, 1) := by decide +kernel
theorem dX11_keep_26 : decode cX11_keep 26 = .ok (.iaload, 1) := by decide +kernel
theorem dX11_keep_27 : decode cX11_keep 27 = .ok (.ireturn, 1) := by decide +kernel
set_option maxRecDepth 10000 in
theorem vX11_keep_0 {κ : eg_K} {d : Nat} (hd : 1 ≤ d) {post : Int32 → eg_H → Prop} (M : eg_H)  (h : (∀ M1 : eg_H, M1 = (sI M (60, 0) 2 (0 : Int32)) → (∀ M2 : eg_H, M2 = (sI M1 (60, 0) 80 (1 : Int32)) → (gX11_lays M2 ((142, 0) : eg_R) ((111, 0) : eg_R) ∧ (∀ M4 : eg_H, M4 = (fX11_lays M2 ((142, 0) : eg_R) ((111, 0) : eg_R)) → (vp_in (0 : Int32) 366 ∧ post (M4.1 (111, 0) (0 : Int32).toNatClampNeg) M4)))))) : eg_W κ gM mtX11_keep d (eQI κ gM post) 0 [(0, vR (60, 0))] [] M := by
  refine eg_aload_n 0 dX11_keep_0 rfl rfl ?_
  refine eg_iconst dX11_keep_1 ic_0 ?_
  refine en_putI dX11_keep_2 fl_11_127 rfl rfl (obM_60 z1) (fun M1 eM1 => ?_)
  have h := h M1 eM1
  refine eg_aload_n 0 dX11_keep_5 rfl rfl ?_
  refine eg_iconst dX11_keep_6 ic_1 ?_
  refine en_putZ dX11_keep_7 fl_11_240 rfl rfl (Or.inr rfl) (obM_60 z1) (fun M2 eM2 => ?_)
  have h := h M2 eM2
  refine eg_aload_n 0 dX11_keep_10 rfl rfl ?_
  refine eg_getR dX11_keep_11 fl_11_118 rfl rfl (obM_60 z1) ?_
  show eg_W κ gM mtX11_keep d (eQI κ gM post) 14 [(0, vR (60, 0))] [vR (142, 0)] M2
  refine eg_aload_n 0 dX11_keep_14 rfl rfl ?_
  refine eg_getR dX11_keep_15 fl_11_72 rfl rfl (obM_60 z1) ?_
  show eg_W κ gM mtX11_keep d (eQI κ gM post) 18 [(0, vR (60, 0))] [vR (111, 0), vR (142, 0)] M2
  obtain ⟨g3, h⟩ := h
  refine eg_callSV (av := [vR (142, 0), vR (111, 0)]) (st := []) dX11_keep_18 ml_11_249 rfl rfl (Nat.le_of_ble_eq_true rfl) (eg_dd (by omega)) (sX11_lays (by omega) M2 ((142, 0) : eg_R) ((111, 0) : eg_R) (anM_142 z1) (anM_111 z1) g3) (fun M4 eM4 => ?_)
  have h := h M4 eM4
  refine eg_aload_n 0 dX11_keep_21 rfl rfl ?_
  refine eg_getR dX11_keep_22 fl_11_72 rfl rfl (obM_60 z1) ?_
  show eg_W κ gM mtX11_keep d (eQI κ gM post) 25 [(0, vR (60, 0))] [vR (111, 0)] M4
  refine eg_iconst dX11_keep_25 ic_0 ?_
  obtain ⟨g6, h⟩ := h
  refine eg_iaload dX11_keep_26 (arM_111 z1 g6) ?_
  exact eg_ireturn dX11_keep_27 rfl h
theorem dX11_back_0 : decode cX11_back 0 = .ok (.aload_n 0, 1) := by decide +kernel
theorem dX11_back_1 : decode cX11_back 1 = .ok (.iconst 0, 1) := by decide +kernel
theorem dX11_back_2 : decode cX11_back 2 = .ok (.putfield 127, 3) := by decide +kernel
theorem dX11_back_5 : decode cX11_back 5 = .ok (.aload_n 0, 1) := by decide +kernel
theorem dX11_back_6 : decode cX11_back 6 = .ok (.getfield 240, 3) := by decide +kernel
theorem dX11_back_9 : decode cX11_back 9 = .ok (.ifCond .ne 5, 3) := by decide +kernel
theorem dX11_back_12 : decode cX11_back 12 = .ok (.iconst (-1), 1) := by decide +kernel
theorem dX11_back_13 : decode cX11_back 13 = .ok (.ireturn, 1) := by decide +kernel
theorem dX11_back_14 : decode cX11_back 14 = .ok (.aload_n 0, 1) := by decide +kernel
theorem dX11_back_15 : decode cX11_back 15 = .ok (.getfield 72, 3) := by decide +kernel
theorem dX11_back_18 : decode cX11_back 18 = .ok (.aload_n 0, 1) := by decide +kernel
theorem dX11_back_19 : decode cX11_back 19 = .ok (.getfield 118, 3) := by decide +kernel
theorem dX11_back_22 : decode cX11_back 22 = .ok (.invokestatic 249, 3) := by decide +kernel
theorem dX11_back_25 : decode cX11_back 25 = .ok (.aload_n 0, 1) := by decide +kernel
theorem dX11_back_26 : decode cX11_back 26 = .ok (.invokevirtual 484, 3) := by decide +kernel
theorem dX11_back_29 : decode cX11_back 29 = .ok (.aload_n 0, 1) := by decide +kernel
theorem dX11_back_30 : decode cX11_back 30 = .ok (.iconst 0, 1) := by decide +kernel
theorem dX11_back_31 : decode cX11_back 31 = .ok (.putfield 237, 3) := by decide +kernel
theorem dX11_back_34 : decode cX11_back 34 = .ok (.aload_n 0, 1) := by decide +kernel
theorem dX11_back_35 : decode cX11_back 35 = .ok (.getfield 72, 3) := by decide +kernel
theorem dX11_back_38 : decode cX11_back 38 = .ok (.iconst 0, 1) := by decide +kernel
theorem dX11_back_39 : decode cX11_back 39 = .ok (.iaload, 1) := by decide +kernel
theorem dX11_back_40 : decode cX11_back 40 = .ok (.ireturn, 1) := by decide +kernel
set_option maxRecDepth 10000 in
theorem vX11_back_0 {κ : eg_K} {d : Nat} (hd : 1 ≤ d) {post : Int32 → eg_H → Prop} (M : eg_H)  (h : (∀ M1 : eg_H, M1 = (sI M (60, 0) 2 (0 : Int32)) → ((¬ (M1.1 (60, 0) 80) = 0) → (gX11_lays M1 ((111, 0) : eg_R) ((142, 0) : eg_R) ∧ (∀ M4 : eg_H, M4 = (fX11_lays M1 ((111, 0) : eg_R) ((142, 0) : eg_R)) → (∀ M6 : eg_H, M6 = (fX11_layRow M4) → (∀ M8 : eg_H, M8 = (sI M6 (60, 0) 69 (0 : Int32)) → (vp_in (0 : Int32) 366 ∧ post (M8.1 (111, 0) (0 : Int32).toNatClampNeg) M8)))))) ∧ ((M1.1 (60, 0) 80) = 0 → post (-1 : Int32) M1))) : eg_W κ gM mtX11_back d (eQI κ gM post) 0 [(0, vR (60, 0))] [] M := by
  refine eg_aload_n 0 dX11_back_0 rfl rfl ?_
  refine eg_iconst dX11_back_1 ic_0 ?_
  refine en_putI dX11_back_2 fl_11_127 rfl rfl (obM_60 z1) (fun M1 eM1 => ?_)
  have h := h M1 eM1
  refine eg_aload_n 0 dX11_back_5 rfl rfl ?_
  refine eg_getI dX11_back_6 fl_11_240 rfl trivial (obM_60 z1) ?_
  refine eg_if_ne (tgt := 14) dX11_back_9 rfl (fun c2 => ?_) (fun c2 => ?_)
  · have h := h.1 c2
    refine eg_aload_n 0 dX11_back_14 rfl rfl ?_
    refine eg_getR dX11_back_15 fl_11_72 rfl rfl (obM_60 z1) ?_
    show eg_W κ gM mtX11_back d (eQI κ gM post) 18 [(0, vR (60, 0))] [vR (111, 0)] M1
    refine eg_aload_n 0 dX11_back_18 rfl rfl ?_
    refine eg_getR dX11_back_19 fl_11_118 rfl rfl (obM_60 z1) ?_
    show eg_W κ gM mtX11_back d (eQI κ gM post) 22 [(0, vR (60, 0))] [vR (142, 0), vR (111, 0)] M1
    obtain ⟨g3, h⟩ := h
    refine eg_callSV (av := [vR (111, 0), vR (142, 0)]) (st := []) dX11_back_22 ml_11_249 rfl rfl (Nat.le_of_ble_eq_true rfl) (eg_dd (by omega)) (sX11_lays (by omega) M1 ((111, 0) : eg_R) ((142, 0) : eg_R) (anM_111 z1) (anM_142 z1) g3) (fun M4 eM4 => ?_)
    have h := h M4 eM4
    refine eg_aload_n 0 dX11_back_25 rfl rfl ?_
    refine eg_callVV (av := []) (st := []) dX11_back_26 ml_11_484 rfl rfl (obM_60 z1) (by decide) rfl (Nat.le_of_ble_eq_true rfl) (eg_dd (by omega)) (sX11_layRow (by omega) M4   ) (fun M6 eM6 => ?_)
    have h := h M6 eM6
    refine eg_aload_n 0 dX11_back_29 rfl rfl ?_
    refine eg_iconst dX11_back_30 ic_0 ?_
    refine en_putI dX11_back_31 fl_11_237 rfl rfl (obM_60 z1) (fun M8 eM8 => ?_)
    have h := h M8 eM8
    refine eg_aload_n 0 dX11_back_34 rfl rfl ?_
    refine eg_getR dX11_back_35 fl_11_72 rfl rfl (obM_60 z1) ?_
    show eg_W κ gM mtX11_back d (eQI κ gM post) 38 [(0, vR (60, 0))] [vR (111, 0)] M8
    refine eg_iconst dX11_back_38 ic_0 ?_
    obtain ⟨g9, h⟩ := h
    refine eg_iaload dX11_back_39 (arM_111 z1 g9) ?_
    exact eg_ireturn dX11_back_40 rfl h
  · have h := h.2 c2
    refine eg_iconst dX11_back_12 ic_m1 ?_
    exact eg_ireturn dX11_back_13 rfl h
theorem dX11_all_0 : decode cX11_all 0 = .ok (.aload_n 0, 1) := by decide +kernel
theorem dX11_all_1 : decode cX11_all 1 = .ok (.iconst 0, 1) := by decide +kernel
theorem dX11_all_2 : decode cX11_all 2 = .ok (.putfield 127, 3) := by decide +kernel
theorem dX11_all_5 : decode cX11_all 5 = .ok (.iconst 0, 1) := by decide +kernel
theorem dX11_all_6 : decode cX11_all 6 = .ok (.istore_n 2, 1) := by decide +kernel
theorem dX11_all_7 : decode cX11_all 7 = .ok (.iload_n 1, 1) := by decide +kernel
theorem dX11_all_8 : decode cX11_all 8 = .ok (.tableswitch 178 0 12 #[68, 73, 78, 83, 88, 95, 100, 105, 110, 117, 123, 130, 172], 68) := by decide +kernel
theorem dX11_all_76 : decode cX11_all 76 = .ok (.aload_n 0, 1) := by decide +kernel
theorem dX11_all_77 : decode cX11_all 77 = .ok (.getfield 209, 3) := by decide +kernel
theorem dX11_all_80 : decode cX11_all 80 = .ok (.ireturn, 1) := by decide +kernel
theorem dX11_all_81 : decode cX11_all 81 = .ok (.aload_n 0, 1) := by decide +kernel
theorem dX11_all_82 : decode cX11_all 82 = .ok (.getfield 212, 3) := by decide +kernel
theorem dX11_all_85 : decode cX11_all 85 = .ok (.ireturn, 1) := by decide +kernel
theorem dX11_all_86 : decode cX11_all 86 = .ok (.aload_n 0, 1) := by decide +kernel
theorem dX11_all_87 : decode cX11_all 87 = .ok (.getfield 215, 3) := by decide +kernel
theorem dX11_all_90 : decode cX11_all 90 = .ok (.ireturn, 1) := by decide +kernel
theorem dX11_all_91 : decode cX11_all 91 = .ok (.aload_n 0, 1) := by decide +kernel
theorem dX11_all_92 : decode cX11_all 92 = .ok (.getfield 218, 3) := by decide +kernel
theorem dX11_all_95 : decode cX11_all 95 = .ok (.ireturn, 1) := by decide +kernel
theorem dX11_all_96 : decode cX11_all 96 = .ok (.aload_n 0, 1) := by decide +kernel
theorem dX11_all_97 : decode cX11_all 97 = .ok (.getfield 72, 3) := by decide +kernel
theorem dX11_all_100 : decode cX11_all 100 = .ok (.iconst 0, 1) := by decide +kernel
theorem dX11_all_101 : decode cX11_all 101 = .ok (.iaload, 1) := by decide +kernel
theorem dX11_all_102 : decode cX11_all 102 = .ok (.ireturn, 1) := by decide +kernel
theorem dX11_all_103 : decode cX11_all 103 = .ok (.aload_n 0, 1) := by decide +kernel
theorem dX11_all_104 : decode cX11_all 104 = .ok (.getfield 234, 3) := by decide +kernel
theorem dX11_all_107 : decode cX11_all 107 = .ok (.ireturn, 1) := by decide +kernel
theorem dX11_all_108 : decode cX11_all 108 = .ok (.aload_n 0, 1) := by decide +kernel
theorem dX11_all_109 : decode cX11_all 109 = .ok (.invokevirtual 529, 3) := by decide +kernel
theorem dX11_all_112 : decode cX11_all 112 = .ok (.ireturn, 1) := by decide +kernel
theorem dX11_all_113 : decode cX11_all 113 = .ok (.aload_n 0, 1) := by decide +kernel
theorem dX11_all_114 : decode cX11_all 114 = .ok (.getfield 237, 3) := by decide +kernel
theorem dX11_all_117 : decode cX11_all 117 = .ok (.ireturn, 1) := by decide +kernel
theorem dX11_all_118 : decode cX11_all 118 = .ok (.aload_n 0, 1) := by decide +kernel
theorem dX11_all_119 : decode cX11_all 119 = .ok (.getfield 72, 3) := by decide +kernel
theorem dX11_all_122 : decode cX11_all 122 = .ok (.iconst 1, 1) := by decide +kernel
theorem dX11_all_123 : decode cX11_all 123 = .ok (.iaload, 1) := by decide +kernel
theorem dX11_all_124 : decode cX11_all 124 = .ok (.ireturn, 1) := by decide +kernel
theorem dX11_all_125 : decode cX11_all 125 = .ok (.aload_n 0, 1) := by decide +kernel
theorem dX11_all_126 : decode cX11_all 126 = .ok (.iconst 5, 1) := by decide +kernel
theorem dX11_all_127 : decode cX11_all 127 = .ok (.invokevirtual 535, 3) := by decide +kernel
theorem dX11_all_130 : decode cX11_all 130 = .ok (.ireturn, 1) := by decide +kernel
theorem dX11_all_131 : decode cX11_all 131 = .ok (.aload_n 0, 1) := by decide +kernel
theorem dX11_all_132 : decode cX11_all 132 = .ok (.bipush 7, 2) := by decide +kernel
theorem dX11_all_134 : decode cX11_all 134 = .ok (.invokevirtual 535, 3) := by decide +kernel
theorem dX11_all_137 : decode cX11_all 137 = .ok (.ireturn, 1) := by decide +kernel
theorem dX11_all_138 : decode cX11_all 138 = .ok (.iconst 0, 1) := by decide +kernel
theorem dX11_all_139 : decode cX11_all 139 = .ok (.istore_n 3, 1) := by decide +kernel
theorem dX11_all_140 : decode cX11_all 140 = .ok (.iload_n 3, 1) := by decide +kernel
theorem dX11_all_141 : decode cX11_all 141 = .ok (.aload_n 0, 1) := by decide +kernel
theorem dX11_all_142 : decode cX11_all 142 = .ok (.getfield 209, 3) := by decide +kernel
theorem dX11_all_145 : decode cX11_all 145 = .ok (.if_icmp .ge 33, 3) := by decide +kernel
theorem dX11_all_148 : decode cX11_all 148 = .ok (.iload_n 2, 1) := by decide +kernel
theorem dX11_all_149 : decode cX11_all 149 = .ok (.aload_n 0, 1) := by decide +kernel
theorem dX11_all_150 : decode cX11_all 150 = .ok (.iload_n 3, 1) := by decide +kernel
theorem dX11_all_151 : decode cX11_all 151 = .ok (.invokevirtual 415, 3) := by decide +kernel
theorem dX11_all_154 : decode cX11_all 154 = .ok (.ifCond .eq 15, 3) := by decide +kernel
theorem dX11_all_157 : decode cX11_all 157 = .ok (.aload_n 0, 1) := by decide +kernel
theorem dX11_all_158 : decode cX11_all 158 = .ok (.getfield 72, 3) := by decide +kernel
theorem dX11_all_161 : decode cX11_all 161 = .ok (.iload_n 3, 1) := by decide +kernel
theorem dX11_all_162 : decode cX11_all 162 = .ok (.invokestatic 377, 3) := by decide +kernel
theorem dX11_all_165 : decode cX11_all 165 = .ok (.iaload, 1) := by decide +kernel
theorem dX11_all_166 : decode cX11_all 166 = .ok (.goto 4, 3) := by decide +kernel
theorem dX11_all_169 : decode cX11_all 169 = .ok (.iconst 0, 1) := by decide +kernel
theorem dX11_all_170 : decode cX11_all 170 = .ok (.iadd, 1) := by decide +kernel
theorem dX11_all_171 : decode cX11_all 171 = .ok (.istore_n 2, 1) := by decide +kernel
theorem dX11_all_172 : decode cX11_all 172 = .ok (.iinc 3 1, 3) := by decide +kernel
theorem dX11_all_175 : decode cX11_all 175 = .ok (.goto (-35), 3) := by decide +kernel
theorem dX11_all_178 : decode cX11_all 178 = .ok (.iload_n 2, 1) := by decide +kernel
theorem dX11_all_179 : decode cX11_all 179 = .ok (.ireturn, 1) := by decide +kernel
theorem dX11_all_180 : decode cX11_all 180 = .ok (.aload_n 0, 1) := by decide +kernel
theorem dX11_all_181 : decode cX11_all 181 = .ok (.iconst 4, 1) := by decide +kernel
theorem dX11_all_182 : decode cX11_all 182 = .ok (.invokevirtual 535, 3) := by decide +kernel
theorem dX11_all_185 : decode cX11_all 185 = .ok (.ireturn, 1) := by decide +kernel
theorem dX11_all_186 : decode cX11_all 186 = .ok (.iconst (-1), 1) := by decide +kernel
theorem dX11_all_187 : decode cX11_all 187 = .ok (.ireturn, 1) := by decide +kernel
set_option maxRecDepth 10000 in
theorem vX11_all_0 {κ : eg_K} {d : Nat} (hd : 2 ≤ d) {post : Int32 → eg_H → Prop} (M : eg_H) (l1 : Int32) (h : (∀ M1 : eg_H, M1 = (sI M (60, 0) 2 (0 : Int32)) → ((¬ l1 = (0 : Int32)) → (¬ l1 = (1 : Int32)) → (¬ l1 = (2 : Int32)) → (¬ l1 = (3 : Int32)) → (¬ l1 = (4 : Int32)) → (¬ l1 = (5 : Int32)) → (¬ l1 = (6 : Int32)) → (¬ l1 = (7 : Int32)) → (¬ l1 = (8 : Int32)) → (¬ l1 = (9 : Int32)) → (¬ l1 = (10 : Int32)) → (¬ l1 = (11 : Int32)) → (¬ l1 = (12 : Int32)) → post (-1 : Int32) M1) ∧ (l1 = (0 : Int32) → post (M1.1 (60, 0) 12) M1) ∧ (l1 = (1 : Int32) → post (M1.1 (60, 0) 13) M1) ∧ (l1 = (2 : Int32) → post (M1.1 (60, 0) 14) M1) ∧ (l1 = (3 : Int32) → post (M1.1 (60, 0) 15) M1) ∧ (l1 = (4 : Int32) → (vp_in (0 : Int32) 366 ∧ post (M1.1 (111, 0) (0 : Int32).toNatClampNeg) M1)) ∧ (l1 = (5 : Int32) → post (M1.1 (60, 0) 73) M1) ∧ (l1 = (6 : Int32) → (∀ x4 : Int32, x4 = (fX11_knownMany M1) → post x4 M1)) ∧ (l1 = (7 : Int32) → post (M1.1 (60, 0) 69) M1) ∧ (l1 = (8 : Int32) → (vp_in (1 : Int32) 366 ∧ post (M1.1 (111, 0) (1 : Int32).toNatClampNeg) M1)) ∧ (l1 = (9 : Int32) → (gX11_truthSum M1 (5 : Int32) ∧ (∀ x8 : Int32, x8 = (fX11_truthSum M1 (5 : Int32)) → post x8 M1))) ∧ (l1 = (10 : Int32) → (gX11_truthSum M1 (7 : Int32) ∧ (∀ x11 : Int32, x11 = (fX11_truthSum M1 (7 : Int32)) → post x11 M1))) ∧ (l1 = (11 : Int32) → eg_W κ gM mtX11_all d (eQI κ gM post) 140 [(0, vR (60, 0)), (2, vI (0 : Int32)), (3, vI (0 : Int32))] [] M1) ∧ (l1 = (12 : Int32) → (gX11_truthSum M1 (4 : Int32) ∧ (∀ x14 : Int32, x14 = (fX11_truthSum M1 (4 : Int32)) → post x14 M1))))) : eg_W κ gM mtX11_all d (eQI κ gM post) 0 [(0, vR (60, 0)), (1, vI l1)] [] M := by
  refine eg_aload_n 0 dX11_all_0 rfl rfl ?_
  refine eg_iconst dX11_all_1 ic_0 ?_
  refine en_putI dX11_all_2 fl_11_127 rfl rfl (obM_60 z1) (fun M1 eM1 => ?_)
  have h := h M1 eM1
  refine eg_iconst dX11_all_5 ic_0 ?_
  refine eg_istore_n dX11_all_6 rfl (by decide) (ls1 := [(2, vI (0 : Int32)), (0, vR (60, 0)), (1, vI l1)]) rfl ?_
  refine eg_iload_n 2 dX11_all_7 rfl rfl ?_
  have J : (¬ l1 = (0 : Int32)) → (¬ l1 = (1 : Int32)) → (¬ l1 = (2 : Int32)) → (¬ l1 = (3 : Int32)) → (¬ l1 = (4 : Int32)) → (¬ l1 = (5 : Int32)) → (¬ l1 = (6 : Int32)) → (¬ l1 = (7 : Int32)) → (¬ l1 = (8 : Int32)) → (¬ l1 = (9 : Int32)) → (¬ l1 = (10 : Int32)) → (¬ l1 = (11 : Int32)) → (¬ l1 = (12 : Int32)) → eg_W κ gM mtX11_all d (eQI κ gM post) 186 [(2, vI (0 : Int32)), (0, vR (60, 0)), (1, vI l1)] [] M1 := by
    intro c0_ c1_ c2_ c3_ c4_ c5_ c6_ c7_ c8_ c9_ c10_ c11_ c12_
    have h := h.1 c0_ c1_ c2_ c3_ c4_ c5_ c6_ c7_ c8_ c9_ c10_ c11_ c12_
    refine eg_iconst dX11_all_186 ic_m1 ?_
    exact eg_ireturn dX11_all_187 rfl h
  by_cases c0_ : l1 = (0 : Int32)
  · refine eg_tabI (tgt := 76) dX11_all_8 (by rw [c0_]; decide) (by rw [c0_]; decide) (off := 68) (by rw [c0_]; rfl) rfl ?_
    have h := h.2.1 c0_
    refine eg_aload_n 1 dX11_all_76 rfl rfl ?_
    refine eg_getI dX11_all_77 fl_11_209 rfl trivial (obM_60 z1) ?_
    exact eg_ireturn dX11_all_80 rfl h
  by_cases c1_ : l1 = (1 : Int32)
  · refine eg_tabI (tgt := 81) dX11_all_8 (by rw [c1_]; decide) (by rw [c1_]; decide) (off := 73) (by rw [c1_]; rfl) rfl ?_
    have h := h.2.2.1 c1_
    refine eg_aload_n 1 dX11_all_81 rfl rfl ?_
    refine eg_getI dX11_all_82 fl_11_212 rfl trivial (obM_60 z1) ?_
    exact eg_ireturn dX11_all_85 rfl h
  by_cases c2_ : l1 = (2 : Int32)
  · refine eg_tabI (tgt := 86) dX11_all_8 (by rw [c2_]; decide) (by rw [c2_]; decide) (off := 78) (by rw [c2_]; rfl) rfl ?_
    have h := h.2.2.2.1 c2_
    refine eg_aload_n 1 dX11_all_86 rfl rfl ?_
    refine eg_getI dX11_all_87 fl_11_215 rfl trivial (obM_60 z1) ?_
    exact eg_ireturn dX11_all_90 rfl h
  by_cases c3_ : l1 = (3 : Int32)
  · refine eg_tabI (tgt := 91) dX11_all_8 (by rw [c3_]; decide) (by rw [c3_]; decide) (off := 83) (by rw [c3_]; rfl) rfl ?_
    have h := h.2.2.2.2.1 c3_
    refine eg_aload_n 1 dX11_all_91 rfl rfl ?_
    refine eg_getI dX11_all_92 fl_11_218 rfl trivial (obM_60 z1) ?_
    exact eg_ireturn dX11_all_95 rfl h
  by_cases c4_ : l1 = (4 : Int32)
  · refine eg_tabI (tgt := 96) dX11_all_8 (by rw [c4_]; decide) (by rw [c4_]; decide) (off := 88) (by rw [c4_]; rfl) rfl ?_
    have h := h.2.2.2.2.2.1 c4_
    refine eg_aload_n 1 dX11_all_96 rfl rfl ?_
    refine eg_getR dX11_all_97 fl_11_72 rfl rfl (obM_60 z1) ?_
    show eg_W κ gM mtX11_all d (eQI κ gM post) 100 [(2, vI (0 : Int32)), (0, vR (60, 0)), (1, vI l1)] [vR (111, 0)] M1
    refine eg_iconst dX11_all_100 ic_0 ?_
    obtain ⟨g2, h⟩ := h
    refine eg_iaload dX11_all_101 (arM_111 z1 g2) ?_
    exact eg_ireturn dX11_all_102 rfl h
  by_cases c5_ : l1 = (5 : Int32)
  · refine eg_tabI (tgt := 103) dX11_all_8 (by rw [c5_]; decide) (by rw [c5_]; decide) (off := 95) (by rw [c5_]; rfl) rfl ?_
    have h := h.2.2.2.2.2.2.1 c5_
    refine eg_aload_n 1 dX11_all_103 rfl rfl ?_
    refine eg_getI dX11_all_104 fl_11_234 rfl trivial (obM_60 z1) ?_
    exact eg_ireturn dX11_all_107 rfl h
  by_cases c6_ : l1 = (6 : Int32)
  · refine eg_tabI (tgt := 108) dX11_all_8 (by rw [c6_]; decide) (by rw [c6_]; decide) (off := 100) (by rw [c6_]; rfl) rfl ?_
    have h := h.2.2.2.2.2.2.2.1 c6_
    refine eg_aload_n 1 dX11_all_108 rfl rfl ?_
    refine eg_callVI (av := []) (st := []) dX11_all_109 ml_11_529 rfl rfl (obM_60 z1) (by decide) rfl (Nat.le_of_ble_eq_true rfl) (eg_dd (by omega)) (sX11_knownMany (by omega) M1   ) (fun x4 M3 hp => ?_)
    obtain ⟨ex4, eM3⟩ := hp
    rw [eM3]
    have h := h x4 ex4
    exact eg_ireturn dX11_all_112 rfl h
  by_cases c7_ : l1 = (7 : Int32)
  · refine eg_tabI (tgt := 113) dX11_all_8 (by rw [c7_]; decide) (by rw [c7_]; decide) (off := 105) (by rw [c7_]; rfl) rfl ?_
    have h := h.2.2.2.2.2.2.2.2.1 c7_
    refine eg_aload_n 1 dX11_all_113 rfl rfl ?_
    refine eg_getI dX11_all_114 fl_11_237 rfl trivial (obM_60 z1) ?_
    exact eg_ireturn dX11_all_117 rfl h
  by_cases c8_ : l1 = (8 : Int32)
  · refine eg_tabI (tgt := 118) dX11_all_8 (by rw [c8_]; decide) (by rw [c8_]; decide) (off := 110) (by rw [c8_]; rfl) rfl ?_
    have h := h.2.2.2.2.2.2.2.2.2.1 c8_
    refine eg_aload_n 1 dX11_all_118 rfl rfl ?_
    refine eg_getR dX11_all_119 fl_11_72 rfl rfl (obM_60 z1) ?_
    show eg_W κ gM mtX11_all d (eQI κ gM post) 122 [(2, vI (0 : Int32)), (0, vR (60, 0)), (1, vI l1)] [vR (111, 0)] M1
    refine eg_iconst dX11_all_122 ic_1 ?_
    obtain ⟨g5, h⟩ := h
    refine eg_iaload dX11_all_123 (arM_111 z1 g5) ?_
    exact eg_ireturn dX11_all_124 rfl h
  by_cases c9_ : l1 = (9 : Int32)
  · refine eg_tabI (tgt := 125) dX11_all_8 (by rw [c9_]; decide) (by rw [c9_]; decide) (off := 117) (by rw [c9_]; rfl) rfl ?_
    have h := h.2.2.2.2.2.2.2.2.2.2.1 c9_
    refine eg_aload_n 1 dX11_all_125 rfl rfl ?_
    refine eg_iconst dX11_all_126 ic_5 ?_
    obtain ⟨g6, h⟩ := h
    refine eg_callVI (av := [vI (5 : Int32)]) (st := []) dX11_all_127 ml_11_535 rfl rfl (obM_60 z1) (by decide) rfl (Nat.le_of_ble_eq_true rfl) (eg_dd (by omega)) (sX11_truthSum (by omega) M1 (5 : Int32)  g6) (fun x8 M7 hp => ?_)
    obtain ⟨ex8, eM7⟩ := hp
    rw [eM7]
    have h := h x8 ex8
    exact eg_ireturn dX11_all_130 rfl h
  by_cases c10_ : l1 = (10 : Int32)
  · refine eg_tabI (tgt := 131) dX11_all_8 (by rw [c10_]; decide) (by rw [c10_]; decide) (off := 123) (by rw [c10_]; rfl) rfl ?_
    have h := h.2.2.2.2.2.2.2.2.2.2.2.1 c10_
    refine eg_aload_n 1 dX11_all_131 rfl rfl ?_
    refine eg_bipush dX11_all_132 bp_7 ?_
    obtain ⟨g9, h⟩ := h
    refine eg_callVI (av := [vI (7 : Int32)]) (st := []) dX11_all_134 ml_11_535 rfl rfl (obM_60 z1) (by decide) rfl (Nat.le_of_ble_eq_true rfl) (eg_dd (by omega)) (sX11_truthSum (by omega) M1 (7 : Int32)  g9) (fun x11 M10 hp => ?_)
    obtain ⟨ex11, eM10⟩ := hp
    rw [eM10]
    have h := h x11 ex11
    exact eg_ireturn dX11_all_137 rfl h
  by_cases c11_ : l1 = (11 : Int32)
  · refine eg_tabI (tgt := 138) dX11_all_8 (by rw [c11_]; decide) (by rw [c11_]; decide) (off := 130) (by rw [c11_]; rfl) rfl ?_
    have h := h.2.2.2.2.2.2.2.2.2.2.2.2.1 c11_
    refine eg_iconst dX11_all_138 ic_0 ?_
    refine eg_istore_n dX11_all_139 rfl (by decide) (ls1 := [(3, vI (0 : Int32)), (2, vI (0 : Int32)), (0, vR (60, 0)), (1, vI l1)]) rfl ?_
    refine eg_sub [2, 1, 0] rfl ?_
    exact h
  by_cases c12_ : l1 = (12 : Int32)
  · refine eg_tabI (tgt := 180) dX11_all_8 (by rw [c12_]; decide) (by rw [c12_]; decide) (off := 172) (by rw [c12_]; rfl) rfl ?_
    have h := h.2.2.2.2.2.2.2.2.2.2.2.2.2 c12_
    refine eg_aload_n 1 dX11_all_180 rfl rfl ?_
    refine eg_iconst dX11_all_181 ic_4 ?_
    obtain ⟨g12, h⟩ := h
    refine eg_callVI (av := [vI (4 : Int32)]) (st := []) dX11_all_182 ml_11_535 rfl rfl (obM_60 z1) (by decide) rfl (Nat.le_of_ble_eq_true rfl) (eg_dd (by omega)) (sX11_truthSum (by omega) M1 (4 : Int32)  g12) (fun x14 M13 hp => ?_)
    obtain ⟨ex14, eM13⟩ := hp
    rw [eM13]
    have h := h x14 ex14
    exact eg_ireturn dX11_all_185 rfl h
  refine eg_tabO (tgt := 186) dX11_all_8 ?_ rfl (J c0_ c1_ c2_ c3_ c4_ c5_ c6_ c7_ c8_ c9_ c10_ c11_ c12_)
  have t0_ := eg_ti 0 (by decide) c0_
  have t1_ := eg_ti 1 (by decide) c1_
  have t2_ := eg_ti 2 (by decide) c2_
  have t3_ := eg_ti 3 (by decide) c3_
  have t4_ := eg_ti 4 (by decide) c4_
  have t5_ := eg_ti 5 (by decide) c5_
  have t6_ := eg_ti 6 (by decide) c6_
  have t7_ := eg_ti 7 (by decide) c7_
  have t8_ := eg_ti 8 (by decide) c8_
  have t9_ := eg_ti 9 (by decide) c9_
  have t10_ := eg_ti 10 (by decide) c10_
  have t11_ := eg_ti 11 (by decide) c11_
  have t12_ := eg_ti 12 (by decide) c12_
  omega
set_option maxRecDepth 10000 in
theorem vX11_all_140 {κ : eg_K} {d : Nat} (hd : 2 ≤ d) {post : Int32 → eg_H → Prop} (M : eg_H) (l2 : Int32) (l3 : Int32) (h : ((M.1 (60, 0) 12) ≤ l3 → post l2 M) ∧ ((¬ (M.1 (60, 0) 12) ≤ l3) → (gX11_hasPan M l3 ∧ (∀ x4 : Int32, x4 = (fX11_hasPan M l3) → (x4 = 0 → (∀ x6 : Int32, x6 = (l2 + (0 : Int32)) → (∀ x7 : Int32, x7 = (l3 + (1 : Int32)) → eg_W κ gM mtX11_all d (eQI κ gM post) 140 [(0, vR (60, 0)), (2, vI x6), (3, vI x7)] [] M))) ∧ ((¬ x4 = 0) → (∀ x9 : Int32, x9 = (fX11_pan M l3) → (vp_in x9 366 ∧ (∀ x11 : Int32, x11 = (l2 + (M.1 (111, 0) x9.toNatClampNeg)) → (∀ x12 : Int32, x12 = (l3 + (1 : Int32)) → eg_W κ gM mtX11_all d (eQI κ gM post) 140 [(0, vR (60, 0)), (2, vI x11), (3, vI x12)] [] M))))))))) : eg_W κ gM mtX11_all d (eQI κ gM post) 140 [(0, vR (60, 0)), (2, vI l2), (3, vI l3)] [] M := by
  refine eg_iload_n 2 dX11_all_140 rfl rfl ?_
  refine eg_aload_n 0 dX11_all_141 rfl rfl ?_
  refine eg_getI dX11_all_142 fl_11_209 rfl trivial (obM_60 z1) ?_
  refine eg_icmp_ge (tgt := 178) dX11_all_145 rfl (fun c1 => ?_) (fun c1 => ?_)
  · have h := h.1 c1
    refine eg_iload_n 1 dX11_all_178 rfl rfl ?_
    exact eg_ireturn dX11_all_179 rfl h
  · have h := h.2 c1
    refine eg_iload_n 1 dX11_all_148 rfl rfl ?_
    refine eg_aload_n 0 dX11_all_149 rfl rfl ?_
    refine eg_iload_n 2 dX11_all_150 rfl rfl ?_
    obtain ⟨g2, h⟩ := h
    refine eg_callVI (av := [vI l3]) (st := [vI l2]) dX11_all_151 ml_11_415 rfl rfl (obM_60 z1) (by decide) rfl (Nat.le_of_ble_eq_true rfl) (eg_dd (by omega)) (sX11_hasPan (by omega) M l3  g2) (fun x4 M3 hp => ?_)
    obtain ⟨ex4, eM3⟩ := hp
    rw [eM3]
    have h := h x4 ex4
    refine eg_if_eq (tgt := 169) dX11_all_154 rfl (fun c5 => ?_) (fun c5 => ?_)
    · have h := h.1 c5
      refine eg_iconst dX11_all_169 ic_0 ?_
      refine eg_iadd dX11_all_170 ?_
      refine en_istore_n (f := fun x6 => [(2, vI x6), (0, vR (60, 0)), (3, vI l3)]) dX11_all_171 rfl (by decide) rfl (fun x6 ex6 => ?_)
      have h := h x6 ex6
      refine en_iinc (f := fun x7 => [(3, vI x7), (2, vI x6), (0, vR (60, 0))]) 2 dX11_all_172 rfl rfl (by decide) rfl (fun x7 ex7 => ?_)
      have h := h x7 ex7
      refine eg_goto (tgt := 140) dX11_all_175 rfl ?_
      refine eg_sub [2, 1, 0] rfl ?_
      exact h
    · have h := h.2 c5
      refine eg_aload_n 0 dX11_all_157 rfl rfl ?_
      refine eg_getR dX11_all_158 fl_11_72 rfl rfl (obM_60 z1) ?_
      show eg_W κ gM mtX11_all d (eQI κ gM post) 161 [(0, vR (60, 0)), (2, vI l2), (3, vI l3)] [vR (111, 0), vI l2] M
      refine eg_iload_n 2 dX11_all_161 rfl rfl ?_
      refine eg_callSI (av := [vI l3]) (st := [vR (111, 0), vI l2]) dX11_all_162 ml_11_377 rfl rfl (Nat.le_of_ble_eq_true rfl) (eg_dd (by omega)) (sX11_pan (by omega) M l3  ) (fun x9 M8 hp => ?_)
      obtain ⟨ex9, eM8⟩ := hp
      rw [eM8]
      have h := h x9 ex9
      obtain ⟨g10, h⟩ := h
      refine eg_iaload dX11_all_165 (arM_111 z1 g10) ?_
      refine eg_goto (tgt := 170) dX11_all_166 rfl ?_
      refine eg_iadd dX11_all_170 ?_
      refine en_istore_n (f := fun x11 => [(2, vI x11), (0, vR (60, 0)), (3, vI l3)]) dX11_all_171 rfl (by decide) rfl (fun x11 ex11 => ?_)
      have h := h x11 ex11
      refine en_iinc (f := fun x12 => [(3, vI x12), (2, vI x11), (0, vR (60, 0))]) 2 dX11_all_172 rfl rfl (by decide) rfl (fun x12 ex12 => ?_)
      have h := h x12 ex12
      refine eg_goto (tgt := 140) dX11_all_175 rfl ?_
      refine eg_sub [2, 1, 0] rfl ?_
      exact h
