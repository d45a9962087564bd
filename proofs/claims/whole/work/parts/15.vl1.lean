theorem dX11_bounded_0 : decode cX11_bounded 0 = .ok (.aload_n 0, 1) := by decide +kernel
theorem dX11_bounded_1 : decode cX11_bounded 1 = .ok (.aload_n 0, 1) := by decide +kernel
theorem dX11_bounded_2 : decode cX11_bounded 2 = .ok (.getfield 383, 3) := by decide +kernel
theorem dX11_bounded_5 : decode cX11_bounded 5 = .ok (.ifCond .ne 19, 3) := by decide +kernel
theorem dX11_bounded_8 : decode cX11_bounded 8 = .ok (.lload_n 1, 1) := by decide +kernel
theorem dX11_bounded_9 : decode cX11_bounded 9 = .ok (.ldc2_w 386, 3) := by decide +kernel
theorem dX11_bounded_12 : decode cX11_bounded 12 = .ok (.lcmp, 1) := by decide +kernel
theorem dX11_bounded_13 : decode cX11_bounded 13 = .ok (.ifCond .gt 11, 3) := by decide +kernel
theorem dX11_bounded_16 : decode cX11_bounded 16 = .ok (.lload_n 1, 1) := by decide +kernel
theorem dX11_bounded_17 : decode cX11_bounded 17 = .ok (.ldc2_w 388, 3) := by decide +kernel
theorem dX11_bounded_20 : decode cX11_bounded 20 = .ok (.lcmp, 1) := by decide +kernel
theorem dX11_bounded_21 : decode cX11_bounded 21 = .ok (.ifCond .ge 7, 3) := by decide +kernel
theorem dX11_bounded_24 : decode cX11_bounded 24 = .ok (.iconst 1, 1) := by decide +kernel
theorem dX11_bounded_25 : decode cX11_bounded 25 = .ok (.goto 4, 3) := by decide +kernel
theorem dX11_bounded_28 : decode cX11_bounded 28 = .ok (.iconst 0, 1) := by decide +kernel
theorem dX11_bounded_29 : decode cX11_bounded 29 = .ok (.putfield 383, 3) := by decide +kernel
theorem dX11_bounded_32 : decode cX11_bounded 32 = .ok (.aload_n 0, 1) := by decide +kernel
theorem dX11_bounded_33 : decode cX11_bounded 33 = .ok (.getfield 383, 3) := by decide +kernel
theorem dX11_bounded_36 : decode cX11_bounded 36 = .ok (.ifCond .eq 7, 3) := by decide +kernel
theorem dX11_bounded_39 : decode cX11_bounded 39 = .ok (.lconst 0, 1) := by decide +kernel
theorem dX11_bounded_40 : decode cX11_bounded 40 = .ok (.goto 4, 3) := by decide +kernel
theorem dX11_bounded_43 : decode cX11_bounded 43 = .ok (.lload_n 1, 1) := by decide +kernel
theorem dX11_bounded_44 : decode cX11_bounded 44 = .ok (.lreturn, 1) := by decide +kernel
set_option maxRecDepth 10000 in
theorem vX11_bounded_0 {κ : eg_K} {d : Nat} {post : Int64 → eg_H → Prop} (M : eg_H) (l1 : Int64) (h : (∀ x1 : Int32, x1 = ((if (¬ (M.1 (60, 0) 68) = 0) then (1 : Int32) else (if 0 < (lg_cmp l1 (1000000000000 : Int64)) then (1 : Int32) else (if 0 ≤ (lg_cmp l1 (-1000000000000 : Int64)) then (0 : Int32) else (1 : Int32))))) → (∀ M2 : eg_H, M2 = (sI M (60, 0) 68 x1) → (∀ x3 : Int64, x3 = ((if (M2.1 (60, 0) 68) = 0 then l1 else (0 : Int64))) → post x3 M2)))) : eg_W κ gM mtX11_bounded d (eQL κ gM post) 0 [(0, vR (60, 0)), (1, vL l1)] [] M := by
  refine eg_aload_n 0 dX11_bounded_0 rfl rfl ?_
  refine eg_aload_n 0 dX11_bounded_1 rfl rfl ?_
  refine eg_getI dX11_bounded_2 fl_11_383 rfl trivial (obM_60 z1) ?_
  have J : ∀ x1 : Int32, x1 = (if (¬ (M.1 (60, 0) 68) = 0) then (1 : Int32) else (if 0 < (lg_cmp l1 (1000000000000 : Int64)) then (1 : Int32) else (if 0 ≤ (lg_cmp l1 (-1000000000000 : Int64)) then (0 : Int32) else (1 : Int32)))) → eg_W κ gM mtX11_bounded d (eQL κ gM post) 29 [(0, vR (60, 0)), (1, vL l1)] [vI x1, vR (60, 0)] M := by
    intro x1 ex1
    have h := h x1 ex1
    refine en_putZ dX11_bounded_29 fl_11_383 rfl rfl (show x1 = 0 ∨ x1 = 1 from by rw [ex1]; exact (eg_zi (Or.inr rfl) (eg_zi (Or.inr rfl) (eg_zi (Or.inl rfl) (Or.inr rfl))))) (obM_60 z1) (fun M2 eM2 => ?_)
    have h := h M2 eM2
    refine eg_aload_n 0 dX11_bounded_32 rfl rfl ?_
    refine eg_getI dX11_bounded_33 fl_11_383 rfl trivial (obM_60 z1) ?_
    have J : ∀ x3 : Int64, x3 = (if (M2.1 (60, 0) 68) = 0 then l1 else (0 : Int64)) → eg_W κ gM mtX11_bounded d (eQL κ gM post) 44 [(0, vR (60, 0)), (1, vL l1)] [vL x3] M2 := by
      intro x3 ex3
      have h := h x3 ex3
      exact eg_lreturn dX11_bounded_44 rfl h
    clear h
    refine eg_if_eq (tgt := 43) dX11_bounded_36 rfl (fun c4 => ?_) (fun c4 => ?_)
    · refine eg_lload_n 1 dX11_bounded_43 rfl rfl ?_
      exact J _ (by rw [if_pos c4])
    · refine eg_lconst dX11_bounded_39 lc_0 ?_
      refine eg_goto (tgt := 44) dX11_bounded_40 rfl ?_
      exact J _ (by rw [if_neg c4])
  clear h
  refine eg_if_ne (tgt := 24) dX11_bounded_5 rfl (fun c5 => ?_) (fun c5 => ?_)
  · refine eg_iconst dX11_bounded_24 ic_1 ?_
    refine eg_goto (tgt := 29) dX11_bounded_25 rfl ?_
    exact J _ (by rw [if_pos c5])
  · have c6 : ¬ (¬ (M.1 (60, 0) 68) = 0) := fun z => z c5
    refine eg_lload_n 1 dX11_bounded_8 rfl rfl ?_
    refine eg_ldc2 dX11_bounded_9 kc_11_386 ?_
    refine eg_lcmp dX11_bounded_12 ?_
    refine eg_if_gt (tgt := 24) dX11_bounded_13 rfl (fun c7 => ?_) (fun c7 => ?_)
    · refine eg_iconst dX11_bounded_24 ic_1 ?_
      refine eg_goto (tgt := 29) dX11_bounded_25 rfl ?_
      exact J _ (by rw [if_neg c6, if_pos c7])
    · refine eg_lload_n 1 dX11_bounded_16 rfl rfl ?_
      refine eg_ldc2 dX11_bounded_17 kc_11_388 ?_
      refine eg_lcmp dX11_bounded_20 ?_
      refine eg_if_ge (tgt := 28) dX11_bounded_21 rfl (fun c8 => ?_) (fun c8 => ?_)
      · refine eg_iconst dX11_bounded_28 ic_0 ?_
        exact J _ (by rw [if_neg c6, if_neg c7, if_pos c8])
      · refine eg_iconst dX11_bounded_24 ic_1 ?_
        refine eg_goto (tgt := 29) dX11_bounded_25 rfl ?_
        exact J _ (by rw [if_neg c6, if_neg c7, if_neg c8])
theorem dX11_compares_0 : decode cX11_compares 0 = .ok (.iload_n 0, 1) := by decide +kernel
theorem dX11_compares_1 : decode cX11_compares 1 = .ok (.tableswitch 95 5 9 #[35, 47, 59, 71, 83], 35) := by decide +kernel
theorem dX11_compares_36 : decode cX11_compares 36 = .ok (.lload_n 1, 1) := by decide +kernel
theorem dX11_compares_37 : decode cX11_compares 37 = .ok (.lload_n 3, 1) := by decide +kernel
theorem dX11_compares_38 : decode cX11_compares 38 = .ok (.lcmp, 1) := by decide +kernel
theorem dX11_compares_39 : decode cX11_compares 39 = .ok (.ifCond .ge 7, 3) := by decide +kernel
theorem dX11_compares_42 : decode cX11_compares 42 = .ok (.iconst 1, 1) := by decide +kernel
theorem dX11_compares_43 : decode cX11_compares 43 = .ok (.goto 4, 3) := by decide +kernel
theorem dX11_compares_46 : decode cX11_compares 46 = .ok (.iconst 0, 1) := by decide +kernel
theorem dX11_compares_47 : decode cX11_compares 47 = .ok (.ireturn, 1) := by decide +kernel
theorem dX11_compares_48 : decode cX11_compares 48 = .ok (.lload_n 1, 1) := by decide +kernel
theorem dX11_compares_49 : decode cX11_compares 49 = .ok (.lload_n 3, 1) := by decide +kernel
theorem dX11_compares_50 : decode cX11_compares 50 = .ok (.lcmp, 1) := by decide +kernel
theorem dX11_compares_51 : decode cX11_compares 51 = .ok (.ifCond .gt 7, 3) := by decide +kernel
theorem dX11_compares_54 : decode cX11_compares 54 = .ok (.iconst 1, 1) := by decide +kernel
theorem dX11_compares_55 : decode cX11_compares 55 = .ok (.goto 4, 3) := by decide +kernel
theorem dX11_compares_58 : decode cX11_compares 58 = .ok (.iconst 0, 1) := by decide +kernel
theorem dX11_compares_59 : decode cX11_compares 59 = .ok (.ireturn, 1) := by decide +kernel
theorem dX11_compares_60 : decode cX11_compares 60 = .ok (.lload_n 1, 1) := by decide +kernel
theorem dX11_compares_61 : decode cX11_compares 61 = .ok (.lload_n 3, 1) := by decide +kernel
theorem dX11_compares_62 : decode cX11_compares 62 = .ok (.lcmp, 1) := by decide +kernel
theorem dX11_compares_63 : decode cX11_compares 63 = .ok (.ifCond .ne 7, 3) := by decide +kernel
theorem dX11_compares_66 : decode cX11_compares 66 = .ok (.iconst 1, 1) := by decide +kernel
theorem dX11_compares_67 : decode cX11_compares 67 = .ok (.goto 4, 3) := by decide +kernel
theorem dX11_compares_70 : decode cX11_compares 70 = .ok (.iconst 0, 1) := by decide +kernel
theorem dX11_compares_71 : decode cX11_compares 71 = .ok (.ireturn, 1) := by decide +kernel
theorem dX11_compares_72 : decode cX11_compares 72 = .ok (.lload_n 1, 1) := by decide +kernel
theorem dX11_compares_73 : decode cX11_compares 73 = .ok (.lload_n 3, 1) := by decide +kernel
theorem dX11_compares_74 : decode cX11_compares 74 = .ok (.lcmp, 1) := by decide +kernel
theorem dX11_compares_75 : decode cX11_compares 75 = .ok (.ifCond .eq 7, 3) := by decide +kernel
theorem dX11_compares_78 : decode cX11_compares 78 = .ok (.iconst 1, 1) := by decide +kernel
theorem dX11_compares_79 : decode cX11_compares 79 = .ok (.goto 4, 3) := by decide +kernel
theorem dX11_compares_82 : decode cX11_compares 82 = .ok (.iconst 0, 1) := by decide +kernel
theorem dX11_compares_83 : decode cX11_compares 83 = .ok (.ireturn, 1) := by decide +kernel
theorem dX11_compares_84 : decode cX11_compares 84 = .ok (.lload_n 1, 1) := by decide +kernel
theorem dX11_compares_85 : decode cX11_compares 85 = .ok (.lload_n 3, 1) := by decide +kernel
theorem dX11_compares_86 : decode cX11_compares 86 = .ok (.lcmp, 1) := by decide +kernel
theorem dX11_compares_87 : decode cX11_compares 87 = .ok (.ifCond .lt 7, 3) := by decide +kernel
theorem dX11_compares_90 : decode cX11_compares 90 = .ok (.iconst 1, 1) := by decide +kernel
theorem dX11_compares_91 : decode cX11_compares 91 = .ok (.goto 4, 3) := by decide +kernel
theorem dX11_compares_94 : decode cX11_compares 94 = .ok (.iconst 0, 1) := by decide +kernel
theorem dX11_compares_95 : decode cX11_compares 95 = .ok (.ireturn, 1) := by decide +kernel
theorem dX11_compares_96 : decode cX11_compares 96 = .ok (.lload_n 1, 1) := by decide +kernel
theorem dX11_compares_97 : decode cX11_compares 97 = .ok (.lload_n 3, 1) := by decide +kernel
theorem dX11_compares_98 : decode cX11_compares 98 = .ok (.lcmp, 1) := by decide +kernel
theorem dX11_compares_99 : decode cX11_compares 99 = .ok (.ifCond .le 7, 3) := by decide +kernel
theorem dX11_compares_102 : decode cX11_compares 102 = .ok (.iconst 1, 1) := by decide +kernel
theorem dX11_compares_103 : decode cX11_compares 103 = .ok (.goto 4, 3) := by decide +kernel
theorem dX11_compares_106 : decode cX11_compares 106 = .ok (.iconst 0, 1) := by decide +kernel
theorem dX11_compares_107 : decode cX11_compares 107 = .ok (.ireturn, 1) := by decide +kernel
set_option maxRecDepth 10000 in
theorem vX11_compares_0 {κ : eg_K} {d : Nat} {post : Int32 → eg_H → Prop} (M : eg_H) (l0 : Int32) (l1 : Int64) (l3 : Int64) (h : ((¬ l0 = (5 : Int32)) → (¬ l0 = (6 : Int32)) → (¬ l0 = (7 : Int32)) → (¬ l0 = (8 : Int32)) → (¬ l0 = (9 : Int32)) → (∀ x1 : Int32, x1 = ((if (lg_cmp l1 l3) ≤ 0 then (0 : Int32) else (1 : Int32))) → post x1 M)) ∧ (l0 = (5 : Int32) → (∀ x3 : Int32, x3 = ((if 0 ≤ (lg_cmp l1 l3) then (0 : Int32) else (1 : Int32))) → post x3 M)) ∧ (l0 = (6 : Int32) → (∀ x5 : Int32, x5 = ((if 0 < (lg_cmp l1 l3) then (0 : Int32) else (1 : Int32))) → post x5 M)) ∧ (l0 = (7 : Int32) → (∀ x7 : Int32, x7 = ((if (¬ (lg_cmp l1 l3) = 0) then (0 : Int32) else (1 : Int32))) → post x7 M)) ∧ (l0 = (8 : Int32) → (∀ x10 : Int32, x10 = ((if (lg_cmp l1 l3) = 0 then (0 : Int32) else (1 : Int32))) → post x10 M)) ∧ (l0 = (9 : Int32) → (∀ x12 : Int32, x12 = ((if (lg_cmp l1 l3) < 0 then (0 : Int32) else (1 : Int32))) → post x12 M))) : eg_W κ gM mtX11_compares d (eQI κ gM post) 0 [(0, vI l0), (1, vL l1), (3, vL l3)] [] M := by
  refine eg_iload_n 0 dX11_compares_0 rfl rfl ?_
  have J : (¬ l0 = (5 : Int32)) → (¬ l0 = (6 : Int32)) → (¬ l0 = (7 : Int32)) → (¬ l0 = (8 : Int32)) → (¬ l0 = (9 : Int32)) → eg_W κ gM mtX11_compares d (eQI κ gM post) 96 [(0, vI l0), (1, vL l1), (3, vL l3)] [] M := by
    intro c0_ c1_ c2_ c3_ c4_
    have h := h.1 c0_ c1_ c2_ c3_ c4_
    refine eg_lload_n 1 dX11_compares_96 rfl rfl ?_
    refine eg_lload_n 2 dX11_compares_97 rfl rfl ?_
    refine eg_lcmp dX11_compares_98 ?_
    have J : ∀ x1 : Int32, x1 = (if (lg_cmp l1 l3) ≤ 0 then (0 : Int32) else (1 : Int32)) → eg_W κ gM mtX11_compares d (eQI κ gM post) 107 [(0, vI l0), (1, vL l1), (3, vL l3)] [vI x1] M := by
      intro x1 ex1
      have h := h x1 ex1
      exact eg_zreturn dX11_compares_107 rfl (show x1 = 0 ∨ x1 = 1 from by rw [ex1]; exact (eg_zi (Or.inl rfl) (Or.inr rfl))) h
    clear h
    refine eg_if_le (tgt := 106) dX11_compares_99 rfl (fun c2 => ?_) (fun c2 => ?_)
    · refine eg_iconst dX11_compares_106 ic_0 ?_
      exact J _ (by rw [if_pos c2])
    · refine eg_iconst dX11_compares_102 ic_1 ?_
      refine eg_goto (tgt := 107) dX11_compares_103 rfl ?_
      exact J _ (by rw [if_neg c2])
  by_cases c0_ : l0 = (5 : Int32)
  · refine eg_tabI (tgt := 36) dX11_compares_1 (by rw [c0_]; decide) (by rw [c0_]; decide) (off := 35) (by rw [c0_]; rfl) rfl ?_
    have h := h.2.1 c0_
    refine eg_lload_n 1 dX11_compares_36 rfl rfl ?_
    refine eg_lload_n 2 dX11_compares_37 rfl rfl ?_
    refine eg_lcmp dX11_compares_38 ?_
    have J : ∀ x3 : Int32, x3 = (if 0 ≤ (lg_cmp l1 l3) then (0 : Int32) else (1 : Int32)) → eg_W κ gM mtX11_compares d (eQI κ gM post) 47 [(0, vI l0), (1, vL l1), (3, vL l3)] [vI x3] M := by
      intro x3 ex3
      have h := h x3 ex3
      exact eg_zreturn dX11_compares_47 rfl (show x3 = 0 ∨ x3 = 1 from by rw [ex3]; exact (eg_zi (Or.inl rfl) (Or.inr rfl))) h
    clear h
    refine eg_if_ge (tgt := 46) dX11_compares_39 rfl (fun c4 => ?_) (fun c4 => ?_)
    · refine eg_iconst dX11_compares_46 ic_0 ?_
      exact J _ (by rw [if_pos c4])
    · refine eg_iconst dX11_compares_42 ic_1 ?_
      refine eg_goto (tgt := 47) dX11_compares_43 rfl ?_
      exact J _ (by rw [if_neg c4])
  by_cases c1_ : l0 = (6 : Int32)
  · refine eg_tabI (tgt := 48) dX11_compares_1 (by rw [c1_]; decide) (by rw [c1_]; decide) (off := 47) (by rw [c1_]; rfl) rfl ?_
    have h := h.2.2.1 c1_
    refine eg_lload_n 1 dX11_compares_48 rfl rfl ?_
    refine eg_lload_n 2 dX11_compares_49 rfl rfl ?_
    refine eg_lcmp dX11_compares_50 ?_
    have J : ∀ x5 : Int32, x5 = (if 0 < (lg_cmp l1 l3) then (0 : Int32) else (1 : Int32)) → eg_W κ gM mtX11_compares d (eQI κ gM post) 59 [(0, vI l0), (1, vL l1), (3, vL l3)] [vI x5] M := by
      intro x5 ex5
      have h := h x5 ex5
      exact eg_zreturn dX11_compares_59 rfl (show x5 = 0 ∨ x5 = 1 from by rw [ex5]; exact (eg_zi (Or.inl rfl) (Or.inr rfl))) h
    clear h
    refine eg_if_gt (tgt := 58) dX11_compares_51 rfl (fun c6 => ?_) (fun c6 => ?_)
    · refine eg_iconst dX11_compares_58 ic_0 ?_
      exact J _ (by rw [if_pos c6])
    · refine eg_iconst dX11_compares_54 ic_1 ?_
      refine eg_goto (tgt := 59) dX11_compares_55 rfl ?_
      exact J _ (by rw [if_neg c6])
  by_cases c2_ : l0 = (7 : Int32)
  · refine eg_tabI (tgt := 60) dX11_compares_1 (by rw [c2_]; decide) (by rw [c2_]; decide) (off := 59) (by rw [c2_]; rfl) rfl ?_
    have h := h.2.2.2.1 c2_
    refine eg_lload_n 1 dX11_compares_60 rfl rfl ?_
    refine eg_lload_n 2 dX11_compares_61 rfl rfl ?_
    refine eg_lcmp dX11_compares_62 ?_
    have J : ∀ x7 : Int32, x7 = (if (¬ (lg_cmp l1 l3) = 0) then (0 : Int32) else (1 : Int32)) → eg_W κ gM mtX11_compares d (eQI κ gM post) 71 [(0, vI l0), (1, vL l1), (3, vL l3)] [vI x7] M := by
      intro x7 ex7
      have h := h x7 ex7
      exact eg_zreturn dX11_compares_71 rfl (show x7 = 0 ∨ x7 = 1 from by rw [ex7]; exact (eg_zi (Or.inl rfl) (Or.inr rfl))) h
    clear h
    refine eg_if_ne (tgt := 70) dX11_compares_63 rfl (fun c8 => ?_) (fun c8 => ?_)
    · refine eg_iconst dX11_compares_70 ic_0 ?_
      exact J _ (by rw [if_pos c8])
    · have c9 : ¬ (¬ (lg_cmp l1 l3) = 0) := fun z => z c8
      refine eg_iconst dX11_compares_66 ic_1 ?_
      refine eg_goto (tgt := 71) dX11_compares_67 rfl ?_
      exact J _ (by rw [if_neg c9])
  by_cases c3_ : l0 = (8 : Int32)
  · refine eg_tabI (tgt := 72) dX11_compares_1 (by rw [c3_]; decide) (by rw [c3_]; decide) (off := 71) (by rw [c3_]; rfl) rfl ?_
    have h := h.2.2.2.2.1 c3_
    refine eg_lload_n 1 dX11_compares_72 rfl rfl ?_
    refine eg_lload_n 2 dX11_compares_73 rfl rfl ?_
    refine eg_lcmp dX11_compares_74 ?_
    have J : ∀ x10 : Int32, x10 = (if (lg_cmp l1 l3) = 0 then (0 : Int32) else (1 : Int32)) → eg_W κ gM mtX11_compares d (eQI κ gM post) 83 [(0, vI l0), (1, vL l1), (3, vL l3)] [vI x10] M := by
      intro x10 ex10
      have h := h x10 ex10
      exact eg_zreturn dX11_compares_83 rfl (show x10 = 0 ∨ x10 = 1 from by rw [ex10]; exact (eg_zi (Or.inl rfl) (Or.inr rfl))) h
    clear h
    refine eg_if_eq (tgt := 82) dX11_compares_75 rfl (fun c11 => ?_) (fun c11 => ?_)
    · refine eg_iconst dX11_compares_82 ic_0 ?_
      exact J _ (by rw [if_pos c11])
    · refine eg_iconst dX11_compares_78 ic_1 ?_
      refine eg_goto (tgt := 83) dX11_compares_79 rfl ?_
      exact J _ (by rw [if_neg c11])
  by_cases c4_ : l0 = (9 : Int32)
  · refine eg_tabI (tgt := 84) dX11_compares_1 (by rw [c4_]; decide) (by rw [c4_]; decide) (off := 83) (by rw [c4_]; rfl) rfl ?_
    have h := h.2.2.2.2.2 c4_
    refine eg_lload_n 1 dX11_compares_84 rfl rfl ?_
    refine eg_lload_n 2 dX11_compares_85 rfl rfl ?_
    refine eg_lcmp dX11_compares_86 ?_
    have J : ∀ x12 : Int32, x12 = (if (lg_cmp l1 l3) < 0 then (0 : Int32) else (1 : Int32)) → eg_W κ gM mtX11_compares d (eQI κ gM post) 95 [(0, vI l0), (1, vL l1), (3, vL l3)] [vI x12] M := by
      intro x12 ex12
      have h := h x12 ex12
      exact eg_zreturn dX11_compares_95 rfl (show x12 = 0 ∨ x12 = 1 from by rw [ex12]; exact (eg_zi (Or.inl rfl) (Or.inr rfl))) h
    clear h
    refine eg_if_lt (tgt := 94) dX11_compares_87 rfl (fun c13 => ?_) (fun c13 => ?_)
    · refine eg_iconst dX11_compares_94 ic_0 ?_
      exact J _ (by rw [if_pos c13])
    · refine eg_iconst dX11_compares_90 ic_1 ?_
      refine eg_goto (tgt := 95) dX11_compares_91 rfl ?_
      exact J _ (by rw [if_neg c13])
  refine eg_tabO (tgt := 96) dX11_compares_1 ?_ rfl (J c0_ c1_ c2_ c3_ c4_)
  have t0_ := eg_ti 5 (by decide) c0_
  have t1_ := eg_ti 6 (by decide) c1_
  have t2_ := eg_ti 7 (by decide) c2_
  have t3_ := eg_ti 8 (by decide) c3_
  have t4_ := eg_ti 9 (by decide) c4_
  omega
theorem dX11_times_0 : decode cX11_times 0 = .ok (.lload_n 1, 1) := by decide +kernel
theorem dX11_times_1 : decode cX11_times 1 = .ok (.lconst 0, 1) := by decide +kernel
theorem dX11_times_2 : decode cX11_times 2 = .ok (.lcmp, 1) := by decide +kernel
theorem dX11_times_3 : decode cX11_times 3 = .ok (.ifCond .eq 45, 3) := by decide +kernel
theorem dX11_times_6 : decode cX11_times 6 = .ok (.lload_n 3, 1) := by decide +kernel
theorem dX11_times_7 : decode cX11_times 7 = .ok (.lconst 0, 1) := by decide +kernel
theorem dX11_times_8 : decode cX11_times 8 = .ok (.lcmp, 1) := by decide +kernel
theorem dX11_times_9 : decode cX11_times 9 = .ok (.ifCond .eq 39, 3) := by decide +kernel
theorem dX11_times_12 : decode cX11_times 12 = .ok (.lload_n 3, 1) := by decide +kernel
theorem dX11_times_13 : decode cX11_times 13 = .ok (.lconst 0, 1) := by decide +kernel
theorem dX11_times_14 : decode cX11_times 14 = .ok (.lcmp, 1) := by decide +kernel
theorem dX11_times_15 : decode cX11_times 15 = .ok (.ifCond .ge 8, 3) := by decide +kernel
theorem dX11_times_18 : decode cX11_times 18 = .ok (.lload_n 3, 1) := by decide +kernel
theorem dX11_times_19 : decode cX11_times 19 = .ok (.lneg, 1) := by decide +kernel
theorem dX11_times_20 : decode cX11_times 20 = .ok (.goto 4, 3) := by decide +kernel
theorem dX11_times_23 : decode cX11_times 23 = .ok (.lload_n 3, 1) := by decide +kernel
theorem dX11_times_24 : decode cX11_times 24 = .ok (.ldc2_w 386, 3) := by decide +kernel
theorem dX11_times_27 : decode cX11_times 27 = .ok (.lload_n 1, 1) := by decide +kernel
theorem dX11_times_28 : decode cX11_times 28 = .ok (.lconst 0, 1) := by decide +kernel
theorem dX11_times_29 : decode cX11_times 29 = .ok (.lcmp, 1) := by decide +kernel
theorem dX11_times_30 : decode cX11_times 30 = .ok (.ifCond .ge 8, 3) := by decide +kernel
theorem dX11_times_33 : decode cX11_times 33 = .ok (.lload_n 1, 1) := by decide +kernel
theorem dX11_times_34 : decode cX11_times 34 = .ok (.lneg, 1) := by decide +kernel
theorem dX11_times_35 : decode cX11_times 35 = .ok (.goto 4, 3) := by decide +kernel
theorem dX11_times_38 : decode cX11_times 38 = .ok (.lload_n 1, 1) := by decide +kernel
theorem dX11_times_39 : decode cX11_times 39 = .ok (.ldiv, 1) := by decide +kernel
theorem dX11_times_40 : decode cX11_times 40 = .ok (.lcmp, 1) := by decide +kernel
theorem dX11_times_41 : decode cX11_times 41 = .ok (.ifCond .le 7, 3) := by decide +kernel
theorem dX11_times_44 : decode cX11_times 44 = .ok (.iconst 1, 1) := by decide +kernel
theorem dX11_times_45 : decode cX11_times 45 = .ok (.goto 4, 3) := by decide +kernel
theorem dX11_times_48 : decode cX11_times 48 = .ok (.iconst 0, 1) := by decide +kernel
theorem dX11_times_49 : decode cX11_times 49 = .ok (.istore 5, 2) := by decide +kernel
theorem dX11_times_51 : decode cX11_times 51 = .ok (.aload_n 0, 1) := by decide +kernel
theorem dX11_times_52 : decode cX11_times 52 = .ok (.aload_n 0, 1) := by decide +kernel
theorem dX11_times_53 : decode cX11_times 53 = .ok (.getfield 383, 3) := by decide +kernel
theorem dX11_times_56 : decode cX11_times 56 = .ok (.ifCond .ne 8, 3) := by decide +kernel
theorem dX11_times_59 : decode cX11_times 59 = .ok (.iload 5, 2) := by decide +kernel
theorem dX11_times_61 : decode cX11_times 61 = .ok (.ifCond .eq 7, 3) := by decide +kernel
theorem dX11_times_64 : decode cX11_times 64 = .ok (.iconst 1, 1) := by decide +kernel
theorem dX11_times_65 : decode cX11_times 65 = .ok (.goto 4, 3) := by decide +kernel
theorem dX11_times_68 : decode cX11_times 68 = .ok (.iconst 0, 1) := by decide +kernel
theorem dX11_times_69 : decode cX11_times 69 = .ok (.putfield 383, 3) := by decide +kernel
theorem dX11_times_72 : decode cX11_times 72 = .ok (.aload_n 0, 1) := by decide +kernel
theorem dX11_times_73 : decode cX11_times 73 = .ok (.getfield 383, 3) := by decide +kernel
theorem dX11_times_76 : decode cX11_times 76 = .ok (.ifCond .eq 7, 3) := by decide +kernel
theorem dX11_times_79 : decode cX11_times 79 = .ok (.lconst 0, 1) := by decide +kernel
theorem dX11_times_80 : decode cX11_times 80 = .ok (.goto 6, 3) := by decide +kernel
theorem dX11_times_83 : decode cX11_times 83 = .ok (.lload_n 1, 1) := by decide +kernel
theorem dX11_times_84 : decode cX11_times 84 = .ok (.lload_n 3, 1) := by decide +kernel
theorem dX11_times_85 : decode cX11_times 85 = .ok (.lmul, 1) := by decide +kernel
theorem dX11_times_86 : decode cX11_times 86 = .ok (.lreturn, 1) := by decide +kernel
set_option maxRecDepth 10000 in
theorem vX11_times_0 {κ : eg_K} {d : Nat} {post : Int64 → eg_H → Prop} (M : eg_H) (l1 : Int64) (l3 : Int64) (h : ((lg_cmp l1 (0 : Int64)) = 0 → eg_W κ gM mtX11_times d (eQL κ gM post) 48 [(0, vR (60, 0)), (1, vL l1), (3, vL l3)] [] M) ∧ ((¬ (lg_cmp l1 (0 : Int64)) = 0) → ((lg_cmp l3 (0 : Int64)) = 0 → eg_W κ gM mtX11_times d (eQL κ gM post) 48 [(0, vR (60, 0)), (1, vL l1), (3, vL l3)] [] M) ∧ ((¬ (lg_cmp l3 (0 : Int64)) = 0) → (∀ x3 : Int64, x3 = ((if 0 ≤ (lg_cmp l3 (0 : Int64)) then l3 else (-l3))) → (∀ x4 : Int64, x4 = ((if 0 ≤ (lg_cmp l1 (0 : Int64)) then l1 else (-l1))) → ((¬ x4 = 0) ∧ (∀ x6 : Int32, x6 = ((if (lg_cmp x3 ((1000000000000 : Int64) / x4)) ≤ 0 then (0 : Int32) else (1 : Int32))) → (∀ x7 : Int32, x7 = ((if (¬ (M.1 (60, 0) 68) = 0) then (1 : Int32) else (if x6 = 0 then (0 : Int32) else (1 : Int32)))) → (∀ M8 : eg_H, M8 = (sI M (60, 0) 68 x7) → (∀ x9 : Int64, x9 = ((if (M8.1 (60, 0) 68) = 0 then (l1 * l3) else (0 : Int64))) → post x9 M8)))))))))) : eg_W κ gM mtX11_times d (eQL κ gM post) 0 [(0, vR (60, 0)), (1, vL l1), (3, vL l3)] [] M := by
  refine eg_lload_n 1 dX11_times_0 rfl rfl ?_
  refine eg_lconst dX11_times_1 lc_0 ?_
  refine eg_lcmp dX11_times_2 ?_
  refine eg_if_eq (tgt := 48) dX11_times_3 rfl (fun c1 => ?_) (fun c1 => ?_)
  · have h := h.1 c1
    exact h
  · have h := h.2 c1
    refine eg_lload_n 2 dX11_times_6 rfl rfl ?_
    refine eg_lconst dX11_times_7 lc_0 ?_
    refine eg_lcmp dX11_times_8 ?_
    refine eg_if_eq (tgt := 48) dX11_times_9 rfl (fun c2 => ?_) (fun c2 => ?_)
    · have h := h.1 c2
      exact h
    · have h := h.2 c2
      refine eg_lload_n 2 dX11_times_12 rfl rfl ?_
      refine eg_lconst dX11_times_13 lc_0 ?_
      refine eg_lcmp dX11_times_14 ?_
      have J : ∀ x3 : Int64, x3 = (if 0 ≤ (lg_cmp l3 (0 : Int64)) then l3 else (-l3)) → eg_W κ gM mtX11_times d (eQL κ gM post) 24 [(0, vR (60, 0)), (1, vL l1), (3, vL l3)] [vL x3] M := by
        intro x3 ex3
        have h := h x3 ex3
        refine eg_ldc2 dX11_times_24 kc_11_386 ?_
        refine eg_lload_n 1 dX11_times_27 rfl rfl ?_
        refine eg_lconst dX11_times_28 lc_0 ?_
        refine eg_lcmp dX11_times_29 ?_
        have J : ∀ x4 : Int64, x4 = (if 0 ≤ (lg_cmp l1 (0 : Int64)) then l1 else (-l1)) → eg_W κ gM mtX11_times d (eQL κ gM post) 39 [(0, vR (60, 0)), (1, vL l1), (3, vL l3)] [vL x4, vL (1000000000000 : Int64), vL x3] M := by
          intro x4 ex4
          have h := h x4 ex4
          obtain ⟨g5, h⟩ := h
          refine eg_ldiv dX11_times_39 g5 ?_
          refine eg_lcmp dX11_times_40 ?_
          have J : ∀ x6 : Int32, x6 = (if (lg_cmp x3 ((1000000000000 : Int64) / x4)) ≤ 0 then (0 : Int32) else (1 : Int32)) → eg_W κ gM mtX11_times d (eQL κ gM post) 49 [(0, vR (60, 0)), (1, vL l1), (3, vL l3)] [vI x6] M := by
            intro x6 ex6
            have h := h x6 ex6
            refine eg_istore dX11_times_49 (by decide) (ls1 := [(5, vI x6), (0, vR (60, 0)), (1, vL l1), (3, vL l3)]) rfl ?_
            refine eg_aload_n 1 dX11_times_51 rfl rfl ?_
            refine eg_aload_n 1 dX11_times_52 rfl rfl ?_
            refine eg_getI dX11_times_53 fl_11_383 rfl trivial (obM_60 z1) ?_
            have J : ∀ x7 : Int32, x7 = (if (¬ (M.1 (60, 0) 68) = 0) then (1 : Int32) else (if x6 = 0 then (0 : Int32) else (1 : Int32))) → eg_W κ gM mtX11_times d (eQL κ gM post) 69 [(5, vI x6), (0, vR (60, 0)), (1, vL l1), (3, vL l3)] [vI x7, vR (60, 0)] M := by
              intro x7 ex7
              have h := h x7 ex7
              refine en_putZ dX11_times_69 fl_11_383 rfl rfl (show x7 = 0 ∨ x7 = 1 from by rw [ex7]; exact (eg_zi (Or.inr rfl) (eg_zi (Or.inl rfl) (Or.inr rfl)))) (obM_60 z1) (fun M8 eM8 => ?_)
              have h := h M8 eM8
              refine eg_aload_n 1 dX11_times_72 rfl rfl ?_
              refine eg_getI dX11_times_73 fl_11_383 rfl trivial (obM_60 z1) ?_
              have J : ∀ x9 : Int64, x9 = (if (M8.1 (60, 0) 68) = 0 then (l1 * l3) else (0 : Int64)) → eg_W κ gM mtX11_times d (eQL κ gM post) 86 [(5, vI x6), (0, vR (60, 0)), (1, vL l1), (3, vL l3)] [vL x9] M8 := by
                intro x9 ex9
                have h := h x9 ex9
                exact eg_lreturn dX11_times_86 rfl h
              clear h
              refine eg_if_eq (tgt := 83) dX11_times_76 rfl (fun c10 => ?_) (fun c10 => ?_)
              · refine eg_lload_n 2 dX11_times_83 rfl rfl ?_
                refine eg_lload_n 3 dX11_times_84 rfl rfl ?_
                refine eg_lmul dX11_times_85 ?_
                exact J _ (by rw [if_pos c10])
              · refine eg_lconst dX11_times_79 lc_0 ?_
                refine eg_goto (tgt := 86) dX11_times_80 rfl ?_
                exact J _ (by rw [if_neg c10])
            clear h
            refine eg_if_ne (tgt := 64) dX11_times_56 rfl (fun c11 => ?_) (fun c11 => ?_)
            · refine eg_iconst dX11_times_64 ic_1 ?_
              refine eg_goto (tgt := 69) dX11_times_65 rfl ?_
              exact J _ (by rw [if_pos c11])
            · have c12 : ¬ (¬ (M.1 (60, 0) 68) = 0) := fun z => z c11
              refine eg_iload 0 dX11_times_59 rfl ?_
              refine eg_if_eq (tgt := 68) dX11_times_61 rfl (fun c13 => ?_) (fun c13 => ?_)
              · refine eg_iconst dX11_times_68 ic_0 ?_
                exact J _ (by rw [if_neg c12, if_pos c13])
              · refine eg_iconst dX11_times_64 ic_1 ?_
                refine eg_goto (tgt := 69) dX11_times_65 rfl ?_
                exact J _ (by rw [if_neg c12, if_neg c13])
          clear h
          refine eg_if_le (tgt := 48) dX11_times_41 rfl (fun c14 => ?_) (fun c14 => ?_)
          · refine eg_iconst dX11_times_48 ic_0 ?_
            exact J _ (by rw [if_pos c14])
          · refine eg_iconst dX11_times_44 ic_1 ?_
            refine eg_goto (tgt := 49) dX11_times_45 rfl ?_
            exact J _ (by rw [if_neg c14])
        clear h
        refine eg_if_ge (tgt := 38) dX11_times_30 rfl (fun c15 => ?_) (fun c15 => ?_)
        · refine eg_lload_n 1 dX11_times_38 rfl rfl ?_
          exact J _ (by rw [if_pos c15])
        · refine eg_lload_n 1 dX11_times_33 rfl rfl ?_
          refine eg_lneg dX11_times_34 ?_
          refine eg_goto (tgt := 39) dX11_times_35 rfl ?_
          exact J _ (by rw [if_neg c15])
      clear h
      refine eg_if_ge (tgt := 23) dX11_times_15 rfl (fun c16 => ?_) (fun c16 => ?_)
      · refine eg_lload_n 2 dX11_times_23 rfl rfl ?_
        exact J _ (by rw [if_pos c16])
      · refine eg_lload_n 2 dX11_times_18 rfl rfl ?_
        refine eg_lneg dX11_times_19 ?_
        refine eg_goto (tgt := 24) dX11_times_20 rfl ?_
        exact J _ (by rw [if_neg c16])
set_option maxRecDepth 10000 in
theorem vX11_times_48 {κ : eg_K} {d : Nat} {post : Int64 → eg_H → Prop} (M : eg_H) (l1 : Int64) (l3 : Int64) (h : (∀ x1 : Int32, x1 = ((if (¬ (M.1 (60, 0) 68) = 0) then (1 : Int32) else (if (0 : Int32) = 0 then (0 : Int32) else (1 : Int32)))) → (∀ M2 : eg_H, M2 = (sI M (60, 0) 68 x1) → (∀ x3 : Int64, x3 = ((if (M2.1 (60, 0) 68) = 0 then (l1 * l3) else (0 : Int64))) → post x3 M2)))) : eg_W κ gM mtX11_times d (eQL κ gM post) 48 [(0, vR (60, 0)), (1, vL l1), (3, vL l3)] [] M := by
  refine eg_iconst dX11_times_48 ic_0 ?_
  refine eg_istore dX11_times_49 (by decide) (ls1 := [(5, vI (0 : Int32)), (0, vR (60, 0)), (1, vL l1), (3, vL l3)]) rfl ?_
  refine eg_aload_n 1 dX11_times_51 rfl rfl ?_
  refine eg_aload_n 1 dX11_times_52 rfl rfl ?_
  refine eg_getI dX11_times_53 fl_11_383 rfl trivial (obM_60 z1) ?_
  have J : ∀ x1 : Int32, x1 = (if (¬ (M.1 (60, 0) 68) = 0) then (1 : Int32) else (if (0 : Int32) = 0 then (0 : Int32) else (1 : Int32))) → eg_W κ gM mtX11_times d (eQL κ gM post) 69 [(5, vI (0 : Int32)), (0, vR (60, 0)), (1, vL l1), (3, vL l3)] [vI x1, vR (60, 0)] M := by
    intro x1 ex1
    have h := h x1 ex1
    refine en_putZ dX11_times_69 fl_11_383 rfl rfl (show x1 = 0 ∨ x1 = 1 from by rw [ex1]; exact (eg_zi (Or.inr rfl) (eg_zi (Or.inl rfl) (Or.inr rfl)))) (obM_60 z1) (fun M2 eM2 => ?_)
    have h := h M2 eM2
    refine eg_aload_n 1 dX11_times_72 rfl rfl ?_
    refine eg_getI dX11_times_73 fl_11_383 rfl trivial (obM_60 z1) ?_
    have J : ∀ x3 : Int64, x3 = (if (M2.1 (60, 0) 68) = 0 then (l1 * l3) else (0 : Int64)) → eg_W κ gM mtX11_times d (eQL κ gM post) 86 [(5, vI (0 : Int32)), (0, vR (60, 0)), (1, vL l1), (3, vL l3)] [vL x3] M2 := by
      intro x3 ex3
      have h := h x3 ex3
      exact eg_lreturn dX11_times_86 rfl h
    clear h
    refine eg_if_eq (tgt := 83) dX11_times_76 rfl (fun c4 => ?_) (fun c4 => ?_)
    · refine eg_lload_n 2 dX11_times_83 rfl rfl ?_
      refine eg_lload_n 3 dX11_times_84 rfl rfl ?_
      refine eg_lmul dX11_times_85 ?_
      exact J _ (by rw [if_pos c4])
    · refine eg_lconst dX11_times_79 lc_0 ?_
      refine eg_goto (tgt := 86) dX11_times_80 rfl ?_
      exact J _ (by rw [if_neg c4])
  clear h
  refine eg_if_ne (tgt := 64) dX11_times_56 rfl (fun c5 => ?_) (fun c5 => ?_)
  · refine eg_iconst dX11_times_64 ic_1 ?_
    refine eg_goto (tgt := 69) dX11_times_65 rfl ?_
    exact J _ (by rw [if_pos c5])
  · have c6 : ¬ (¬ (M.1 (60, 0) 68) = 0) := fun z => z c5
    refine eg_iload 0 dX11_times_59 rfl ?_
    refine eg_if_eq (tgt := 68) dX11_times_61 rfl (fun c7 => ?_) (fun c7 => ?_)
    · refine eg_iconst dX11_times_68 ic_0 ?_
      exact J _ (by rw [if_neg c6, if_pos c7])
    · refine eg_iconst dX11_times_64 ic_1 ?_
      refine eg_goto (tgt := 69) dX11_times_65 rfl ?_
      exact J _ (by rw [if_neg c6, if_neg c7])
theorem dX11_layNames_0 : decode cX11_layNames 0 = .ok (.aload_n 0, 1) := by decide +kernel
theorem dX11_layNames_1 : decode cX11_layNames 1 = .ok (.getfield 84, 3) := by decide +kernel
theorem dX11_layNames_4 : decode cX11_layNames 4 = .ok (.iconst 0, 1) := by decide +kernel
theorem dX11_layNames_5 : decode cX11_layNames 5 = .ok (.lload_n 2, 1) := by decide +kernel
theorem dX11_layNames_6 : decode cX11_layNames 6 = .ok (.lastore, 1) := by decide +kernel
theorem dX11_layNames_7 : decode cX11_layNames 7 = .ok (.aload_n 0, 1) := by decide +kernel
theorem dX11_layNames_8 : decode cX11_layNames 8 = .ok (.getfield 84, 3) := by decide +kernel
theorem dX11_layNames_11 : decode cX11_layNames 11 = .ok (.iconst 1, 1) := by decide +kernel
theorem dX11_layNames_12 : decode cX11_layNames 12 = .ok (.aload_n 0, 1) := by decide +kernel
theorem dX11_layNames_13 : decode cX11_layNames 13 = .ok (.getfield 69, 3) := by decide +kernel
theorem dX11_layNames_16 : decode cX11_layNames 16 = .ok (.iload_n 1, 1) := by decide +kernel
theorem dX11_layNames_17 : decode cX11_layNames 17 = .ok (.invokestatic 372, 3) := by decide +kernel
theorem dX11_layNames_20 : decode cX11_layNames 20 = .ok (.iconst 2, 1) := by decide +kernel
theorem dX11_layNames_21 : decode cX11_layNames 21 = .ok (.iadd, 1) := by decide +kernel
theorem dX11_layNames_22 : decode cX11_layNames 22 = .ok (.iaload, 1) := by decide +kernel
theorem dX11_layNames_23 : decode cX11_layNames 23 = .ok (.i2l, 1) := by decide +kernel
theorem dX11_layNames_24 : decode cX11_layNames 24 = .ok (.lastore, 1) := by decide +kernel
theorem dX11_layNames_25 : decode cX11_layNames 25 = .ok (.aload_n 0, 1) := by decide +kernel
theorem dX11_layNames_26 : decode cX11_layNames 26 = .ok (.getfield 84, 3) := by decide +kernel
theorem dX11_layNames_29 : decode cX11_layNames 29 = .ok (.iconst 2, 1) := by decide +kernel
theorem dX11_layNames_30 : decode cX11_layNames 30 = .ok (.lload 4, 2) := by decide +kernel
theorem dX11_layNames_32 : decode cX11_layNames 32 = .ok (.lastore, 1) := by decide +kernel
theorem dX11_layNames_33 : decode cX11_layNames 33 = .ok (.aload_n 0, 1) := by decide +kernel
theorem dX11_layNames_34 : decode cX11_layNames 34 = .ok (.getfield 84, 3) := by decide +kernel
theorem dX11_layNames_37 : decode cX11_layNames 37 = .ok (.iconst 3, 1) := by decide +kernel
theorem dX11_layNames_38 : decode cX11_layNames 38 = .ok (.lload 6, 2) := by decide +kernel
theorem dX11_layNames_40 : decode cX11_layNames 40 = .ok (.lastore, 1) := by decide +kernel
theorem dX11_layNames_41 : decode cX11_layNames 41 = .ok (.aload_n 0, 1) := by decide +kernel
theorem dX11_layNames_42 : decode cX11_layNames 42 = .ok (.getfield 84, 3) := by decide +kernel
theorem dX11_layNames_45 : decode cX11_layNames 45 = .ok (.iconst 4, 1) := by decide +kernel
theorem dX11_layNames_46 : decode cX11_layNames 46 = .ok (.aload_n 0, 1) := by decide +kernel
theorem dX11_layNames_47 : decode cX11_layNames 47 = .ok (.getfield 69, 3) := by decide +kernel
theorem dX11_layNames_50 : decode cX11_layNames 50 = .ok (.iconst 1, 1) := by decide +kernel
theorem dX11_layNames_51 : decode cX11_layNames 51 = .ok (.iaload, 1) := by decide +kernel
theorem dX11_layNames_52 : decode cX11_layNames 52 = .ok (.i2l, 1) := by decide +kernel
theorem dX11_layNames_53 : decode cX11_layNames 53 = .ok (.lastore, 1) := by decide +kernel
theorem dX11_layNames_54 : decode cX11_layNames 54 = .ok (.aload_n 0, 1) := by decide +kernel
theorem dX11_layNames_55 : decode cX11_layNames 55 = .ok (.getfield 84, 3) := by decide +kernel
theorem dX11_layNames_58 : decode cX11_layNames 58 = .ok (.iconst 5, 1) := by decide +kernel
theorem dX11_layNames_59 : decode cX11_layNames 59 = .ok (.aload_n 0, 1) := by decide +kernel
theorem dX11_layNames_60 : decode cX11_layNames 60 = .ok (.getfield 69, 3) := by decide +kernel
theorem dX11_layNames_63 : decode cX11_layNames 63 = .ok (.iconst 0, 1) := by decide +kernel
theorem dX11_layNames_64 : decode cX11_layNames 64 = .ok (.iaload, 1) := by decide +kernel
theorem dX11_layNames_65 : decode cX11_layNames 65 = .ok (.aload_n 0, 1) := by decide +kernel
theorem dX11_layNames_66 : decode cX11_layNames 66 = .ok (.getfield 69, 3) := by decide +kernel
theorem dX11_layNames_69 : decode cX11_layNames 69 = .ok (.iload_n 1, 1) := by decide +kernel
theorem dX11_layNames_70 : decode cX11_layNames 70 = .ok (.invokestatic 372, 3) := by decide +kernel
theorem dX11_layNames_73 : decode cX11_layNames 73 = .ok (.bipush 12, 2) := by decide +kernel
theorem dX11_layNames_75 : decode cX11_layNames 75 = .ok (.iadd, 1) := by decide +kernel
theorem dX11_layNames_76 : decode cX11_layNames 76 = .ok (.iaload, 1) := by decide +kernel
theorem dX11_layNames_77 : decode cX11_layNames 77 = .ok (.isub, 1) := by decide +kernel
theorem dX11_layNames_78 : decode cX11_layNames 78 = .ok (.i2l, 1) := by decide +kernel
theorem dX11_layNames_79 : decode cX11_layNames 79 = .ok (.lastore, 1) := by decide +kernel
theorem dX11_layNames_80 : decode cX11_layNames 80 = .ok (.aload_n 0, 1) := by decide +kernel
theorem dX11_layNames_81 : decode cX11_layNames 81 = .ok (.getfield 84, 3) := by decide +kernel
theorem dX11_layNames_84 : decode cX11_layNames 84 = .ok (.bipush 6, 2) := by decide +kernel
theorem dX11_layNames_86 : decode cX11_layNames 86 = .ok (.aload_n 0, 1) := by decide +kernel
theorem dX11_layNames_87 : decode cX11_layNames 87 = .ok (.iload_n 1, 1) := by decide +kernel
theorem dX11_layNames_88 : decode cX11_layNames 88 = .ok (.invokevirtual 374, 3) := by decide +kernel
theorem dX11_layNames_91 : decode cX11_layNames 91 = .ok (.i2l, 1) := by decide +kernel
theorem dX11_layNames_92 : decode cX11_layNames 92 = .ok (.lastore, 1) := by decide +kernel
theorem dX11_layNames_93 : decode cX11_layNames 93 = .ok (.aload_n 0, 1) := by decide +kernel
theorem dX11_layNames_94 : decode cX11_layNames 94 = .ok (.getfield 84, 3) := by decide +kernel
theorem dX11_layNames_97 : decode cX11_layNames 97 = .ok (.bipush 7, 2) := by decide +kernel
theorem dX11_layNames_99 : decode cX11_layNames 99 = .ok (.aload_n 0, 1) := by decide +kernel
theorem dX11_layNames_100 : decode cX11_layNames 100 = .ok (.iload_n 1, 1) := by decide +kernel
theorem dX11_layNames_101 : decode cX11_layNames 101 = .ok (.invokevirtual 412, 3) := by decide +kernel
theorem dX11_layNames_104 : decode cX11_layNames 104 = .ok (.i2l, 1) := by decide +kernel
theorem dX11_layNames_105 : decode cX11_layNames 105 = .ok (.lastore, 1) := by decide +kernel
theorem dX11_layNames_106 : decode cX11_layNames 106 = .ok (.return_, 1) := by decide +kernel
set_option maxRecDepth 10000 in
theorem vX11_layNames_0 {κ : eg_K} {d : Nat} (hd : 2 ≤ d) {post : eg_H → Prop} (M : eg_H) (l1 : Int32) (l2 : Int64) (l4 : Int64) (l6 : Int64) (h : (vp_in (0 : Int32) 8 ∧ (∀ M2 : eg_H, M2 = (sL M (127, 0) (0 : Int32).toNatClampNeg l2) → (∀ x4 : Int32, x4 = (fX11_at M2 l1) → (vp_in (x4 + (2 : Int32)) 366 ∧ (vp_in (1 : Int32) 8 ∧ (∀ M7 : eg_H, M7 = (sL M2 (127, 0) (1 : Int32).toNatClampNeg ((M2.1 (110, 0) (x4 + (2 : Int32)).toNatClampNeg).toInt64)) → (vp_in (2 : Int32) 8 ∧ (∀ M9 : eg_H, M9 = (sL M7 (127, 0) (2 : Int32).toNatClampNeg l4) → (vp_in (3 : Int32) 8 ∧ (∀ M11 : eg_H, M11 = (sL M9 (127, 0) (3 : Int32).toNatClampNeg l6) → (vp_in (1 : Int32) 366 ∧ (vp_in (4 : Int32) 8 ∧ (∀ M14 : eg_H, M14 = (sL M11 (127, 0) (4 : Int32).toNatClampNeg ((M11.1 (110, 0) (1 : Int32).toNatClampNeg).toInt64)) → (vp_in (0 : Int32) 366 ∧ (∀ x17 : Int32, x17 = (fX11_at M14 l1) → (vp_in (x17 + (12 : Int32)) 366 ∧ (vp_in (5 : Int32) 8 ∧ (∀ M20 : eg_H, M20 = (sL M14 (127, 0) (5 : Int32).toNatClampNeg (((M14.1 (110, 0) (0 : Int32).toNatClampNeg) - (M14.1 (110, 0) (x17 + (12 : Int32)).toNatClampNeg)).toInt64)) → (gX11_sizeOf M20 l1 ∧ (∀ x23 : Int32, x23 = (fX11_sizeOf M20 l1) → (vp_in (6 : Int32) 8 ∧ (∀ M25 : eg_H, M25 = (sL M20 (127, 0) (6 : Int32).toNatClampNeg (x23.toInt64)) → (gX11_plateOf M25 l1 ∧ (∀ x28 : Int32, x28 = (fX11_plateOf M25 l1) → (vp_in (7 : Int32) 8 ∧ (∀ M30 : eg_H, M30 = (sL M25 (127, 0) (7 : Int32).toNatClampNeg (x28.toInt64)) → post M30))))))))))))))))))))))))))) : eg_W κ gM mtX11_layNames d (eQV κ gM post) 0 [(0, vR (60, 0)), (1, vI l1), (2, vL l2), (4, vL l4), (6, vL l6)] [] M := by
  refine eg_aload_n 0 dX11_layNames_0 rfl rfl ?_
  refine eg_getR dX11_layNames_1 fl_11_84 rfl rfl (obM_60 z1) ?_
  show eg_W κ gM mtX11_layNames d (eQV κ gM post) 4 [(0, vR (60, 0)), (1, vI l1), (2, vL l2), (4, vL l4), (6, vL l6)] [vR (127, 0)] M
  refine eg_iconst dX11_layNames_4 ic_0 ?_
  refine eg_lload_n 2 dX11_layNames_5 rfl rfl ?_
  obtain ⟨g1, h⟩ := h
  refine en_lastore dX11_layNames_6 (arM_127 z1 g1) (fun M2 eM2 => ?_)
  have h := h M2 eM2
  refine eg_aload_n 0 dX11_layNames_7 rfl rfl ?_
  refine eg_getR dX11_layNames_8 fl_11_84 rfl rfl (obM_60 z1) ?_
  show eg_W κ gM mtX11_layNames d (eQV κ gM post) 11 [(0, vR (60, 0)), (1, vI l1), (2, vL l2), (4, vL l4), (6, vL l6)] [vR (127, 0)] M2
  refine eg_iconst dX11_layNames_11 ic_1 ?_
  refine eg_aload_n 0 dX11_layNames_12 rfl rfl ?_
  refine eg_getR dX11_layNames_13 fl_11_69 rfl rfl (obM_60 z1) ?_
  show eg_W κ gM mtX11_layNames d (eQV κ gM post) 16 [(0, vR (60, 0)), (1, vI l1), (2, vL l2), (4, vL l4), (6, vL l6)] [vR (110, 0), vI (1 : Int32), vR (127, 0)] M2
  refine eg_iload_n 1 dX11_layNames_16 rfl rfl ?_
  refine eg_callSI (av := [vI l1]) (st := [vR (110, 0), vI (1 : Int32), vR (127, 0)]) dX11_layNames_17 ml_11_372 rfl rfl (Nat.le_of_ble_eq_true rfl) (eg_dd (by omega)) (sX11_at (by omega) M2 l1  ) (fun x4 M3 hp => ?_)
  obtain ⟨ex4, eM3⟩ := hp
  rw [eM3]
  have h := h x4 ex4
  refine eg_iconst dX11_layNames_20 ic_2 ?_
  refine eg_iadd dX11_layNames_21 ?_
  obtain ⟨g5, h⟩ := h
  refine eg_iaload dX11_layNames_22 (arM_110 z1 g5) ?_
  refine eg_i2l dX11_layNames_23 ?_
  obtain ⟨g6, h⟩ := h
  refine en_lastore dX11_layNames_24 (arM_127 z1 g6) (fun M7 eM7 => ?_)
  have h := h M7 eM7
  refine eg_aload_n 0 dX11_layNames_25 rfl rfl ?_
  refine eg_getR dX11_layNames_26 fl_11_84 rfl rfl (obM_60 z1) ?_
  show eg_W κ gM mtX11_layNames d (eQV κ gM post) 29 [(0, vR (60, 0)), (1, vI l1), (2, vL l2), (4, vL l4), (6, vL l6)] [vR (127, 0)] M7
  refine eg_iconst dX11_layNames_29 ic_2 ?_
  refine eg_lload 3 dX11_layNames_30 rfl ?_
  obtain ⟨g8, h⟩ := h
  refine en_lastore dX11_layNames_32 (arM_127 z1 g8) (fun M9 eM9 => ?_)
  have h := h M9 eM9
  refine eg_aload_n 0 dX11_layNames_33 rfl rfl ?_
  refine eg_getR dX11_layNames_34 fl_11_84 rfl rfl (obM_60 z1) ?_
  show eg_W κ gM mtX11_layNames d (eQV κ gM post) 37 [(0, vR (60, 0)), (1, vI l1), (2, vL l2), (4, vL l4), (6, vL l6)] [vR (127, 0)] M9
  refine eg_iconst dX11_layNames_37 ic_3 ?_
  refine eg_lload 4 dX11_layNames_38 rfl ?_
  obtain ⟨g10, h⟩ := h
  refine en_lastore dX11_layNames_40 (arM_127 z1 g10) (fun M11 eM11 => ?_)
  have h := h M11 eM11
  refine eg_aload_n 0 dX11_layNames_41 rfl rfl ?_
  refine eg_getR dX11_layNames_42 fl_11_84 rfl rfl (obM_60 z1) ?_
  show eg_W κ gM mtX11_layNames d (eQV κ gM post) 45 [(0, vR (60, 0)), (1, vI l1), (2, vL l2), (4, vL l4), (6, vL l6)] [vR (127, 0)] M11
  refine eg_iconst dX11_layNames_45 ic_4 ?_
  refine eg_aload_n 0 dX11_layNames_46 rfl rfl ?_
  refine eg_getR dX11_layNames_47 fl_11_69 rfl rfl (obM_60 z1) ?_
  show eg_W κ gM mtX11_layNames d (eQV κ gM post) 50 [(0, vR (60, 0)), (1, vI l1), (2, vL l2), (4, vL l4), (6, vL l6)] [vR (110, 0), vI (4 : Int32), vR (127, 0)] M11
  refine eg_iconst dX11_layNames_50 ic_1 ?_
  obtain ⟨g12, h⟩ := h
  refine eg_iaload dX11_layNames_51 (arM_110 z1 g12) ?_
  refine eg_i2l dX11_layNames_52 ?_
  obtain ⟨g13, h⟩ := h
  refine en_lastore dX11_layNames_53 (arM_127 z1 g13) (fun M14 eM14 => ?_)
  have h := h M14 eM14
  refine eg_aload_n 0 dX11_layNames_54 rfl rfl ?_
  refine eg_getR dX11_layNames_55 fl_11_84 rfl rfl (obM_60 z1) ?_
  show eg_W κ gM mtX11_layNames d (eQV κ gM post) 58 [(0, vR (60, 0)), (1, vI l1), (2, vL l2), (4, vL l4), (6, vL l6)] [vR (127, 0)] M14
  refine eg_iconst dX11_layNames_58 ic_5 ?_
  refine eg_aload_n 0 dX11_layNames_59 rfl rfl ?_
  refine eg_getR dX11_layNames_60 fl_11_69 rfl rfl (obM_60 z1) ?_
  show eg_W κ gM mtX11_layNames d (eQV κ gM post) 63 [(0, vR (60, 0)), (1, vI l1), (2, vL l2), (4, vL l4), (6, vL l6)] [vR (110, 0), vI (5 : Int32), vR (127, 0)] M14
  refine eg_iconst dX11_layNames_63 ic_0 ?_
  obtain ⟨g15, h⟩ := h
  refine eg_iaload dX11_layNames_64 (arM_110 z1 g15) ?_
  refine eg_aload_n 0 dX11_layNames_65 rfl rfl ?_
  refine eg_getR dX11_layNames_66 fl_11_69 rfl rfl (obM_60 z1) ?_
  show eg_W κ gM mtX11_layNames d (eQV κ gM post) 69 [(0, vR (60, 0)), (1, vI l1), (2, vL l2), (4, vL l4), (6, vL l6)] [vR (110, 0), vI (M14.1 (110, 0) (0 : Int32).toNatClampNeg), vI (5 : Int32), vR (127, 0)] M14
  refine eg_iload_n 1 dX11_layNames_69 rfl rfl ?_
  refine eg_callSI (av := [vI l1]) (st := [vR (110, 0), vI (M14.1 (110, 0) (0 : Int32).toNatClampNeg), vI (5 : Int32), vR (127, 0)]) dX11_layNames_70 ml_11_372 rfl rfl (Nat.le_of_ble_eq_true rfl) (eg_dd (by omega)) (sX11_at (by omega) M14 l1  ) (fun x17 M16 hp => ?_)
  obtain ⟨ex17, eM16⟩ := hp
  rw [eM16]
  have h := h x17 ex17
  refine eg_bipush dX11_layNames_73 bp_12 ?_
  refine eg_iadd dX11_layNames_75 ?_
  obtain ⟨g18, h⟩ := h
  refine eg_iaload dX11_layNames_76 (arM_110 z1 g18) ?_
  refine eg_isub dX11_layNames_77 ?_
  refine eg_i2l dX11_layNames_78 ?_
  obtain ⟨g19, h⟩ := h
  refine en_lastore dX11_layNames_79 (arM_127 z1 g19) (fun M20 eM20 => ?_)
  have h := h M20 eM20
  refine eg_aload_n 0 dX11_layNames_80 rfl rfl ?_
  refine eg_getR dX11_layNames_81 fl_11_84 rfl rfl (obM_60 z1) ?_
  show eg_W κ gM mtX11_layNames d (eQV κ gM post) 84 [(0, vR (60, 0)), (1, vI l1), (2, vL l2), (4, vL l4), (6, vL l6)] [vR (127, 0)] M20
  refine eg_bipush dX11_layNames_84 bp_6 ?_
  refine eg_aload_n 0 dX11_layNames_86 rfl rfl ?_
  refine eg_iload_n 1 dX11_layNames_87 rfl rfl ?_
  obtain ⟨g21, h⟩ := h
  refine eg_callVI (av := [vI l1]) (st := [vI (6 : Int32), vR (127, 0)]) dX11_layNames_88 ml_11_374 rfl rfl (obM_60 z1) (by decide) rfl (Nat.le_of_ble_eq_true rfl) (eg_dd (by omega)) (sX11_sizeOf (by omega) M20 l1  g21) (fun x23 M22 hp => ?_)
  obtain ⟨ex23, eM22⟩ := hp
  rw [eM22]
  have h := h x23 ex23
  refine eg_i2l dX11_layNames_91 ?_
  obtain ⟨g24, h⟩ := h
  refine en_lastore dX11_layNames_92 (arM_127 z1 g24) (fun M25 eM25 => ?_)
  have h := h M25 eM25
  refine eg_aload_n 0 dX11_layNames_93 rfl rfl ?_
  refine eg_getR dX11_layNames_94 fl_11_84 rfl rfl (obM_60 z1) ?_
  show eg_W κ gM mtX11_layNames d (eQV κ gM post) 97 [(0, vR (60, 0)), (1, vI l1), (2, vL l2), (4, vL l4), (6, vL l6)] [vR (127, 0)] M25
  refine eg_bipush dX11_layNames_97 bp_7 ?_
  refine eg_aload_n 0 dX11_layNames_99 rfl rfl ?_
  refine eg_iload_n 1 dX11_layNames_100 rfl rfl ?_
  obtain ⟨g26, h⟩ := h
  refine eg_callVI (av := [vI l1]) (st := [vI (7 : Int32), vR (127, 0)]) dX11_layNames_101 ml_11_412 rfl rfl (obM_60 z1) (by decide) rfl (Nat.le_of_ble_eq_true rfl) (eg_dd (by omega)) (sX11_plateOf (by omega) M25 l1  g26) (fun x28 M27 hp => ?_)
  obtain ⟨ex28, eM27⟩ := hp
  rw [eM27]
  have h := h x28 ex28
  refine eg_i2l dX11_layNames_104 ?_
  obtain ⟨g29, h⟩ := h
  refine en_lastore dX11_layNames_105 (arM_127 z1 g29) (fun M30 eM30 => ?_)
  have h := h M30 eM30
  exact eg_vreturn dX11_layNames_106 rfl h
theorem dX11_layNamesAt_0 : decode cX11_layNamesAt 0 = .ok (.aload_n 0, 1) := by decide +kernel
theorem dX11_layNamesAt_1 : decode cX11_layNamesAt 1 = .ok (.iload_n 1, 1) := by decide +kernel
theorem dX11_layNamesAt_2 : decode cX11_layNamesAt 2 = .ok (.aload_n 0, 1) := by decide +kernel
theorem dX11_layNamesAt_3 : decode cX11_layNamesAt 3 = .ok (.getfield 69, 3) := by decide +kernel
theorem dX11_layNamesAt_6 : decode cX11_layNamesAt 6 = .ok (.iload_n 1, 1) := by decide +kernel
theorem dX11_layNamesAt_7 : decode cX11_layNamesAt 7 = .ok (.invokestatic 372, 3) := by decide +kernel
theorem dX11_layNamesAt_10 : decode cX11_layNamesAt 10 = .ok (.bipush 14, 2) := by decide +kernel
theorem dX11_layNamesAt_12 : decode cX11_layNamesAt 12 = .ok (.iadd, 1) := by decide +kernel
theorem dX11_layNamesAt_13 : decode cX11_layNamesAt 13 = .ok (.iload_n 2, 1) := by decide +kernel
theorem dX11_layNamesAt_14 : decode cX11_layNamesAt 14 = .ok (.iadd, 1) := by decide +kernel
theorem dX11_layNamesAt_15 : decode cX11_layNamesAt 15 = .ok (.iaload, 1) := by decide +kernel
theorem dX11_layNamesAt_16 : decode cX11_layNamesAt 16 = .ok (.i2l, 1) := by decide +kernel
theorem dX11_layNamesAt_17 : decode cX11_layNamesAt 17 = .ok (.aload_n 0, 1) := by decide +kernel
theorem dX11_layNamesAt_18 : decode cX11_layNamesAt 18 = .ok (.iload_n 2, 1) := by decide +kernel
theorem dX11_layNamesAt_19 : decode cX11_layNamesAt 19 = .ok (.invokevirtual 415, 3) := by decide +kernel
theorem dX11_layNamesAt_22 : decode cX11_layNamesAt 22 = .ok (.ifCond .eq 16, 3) := by decide +kernel
theorem dX11_layNamesAt_25 : decode cX11_layNamesAt 25 = .ok (.aload_n 0, 1) := by decide +kernel
theorem dX11_layNamesAt_26 : decode cX11_layNamesAt 26 = .ok (.getfield 69, 3) := by decide +kernel
theorem dX11_layNamesAt_29 : decode cX11_layNamesAt 29 = .ok (.iload_n 2, 1) := by decide +kernel
theorem dX11_layNamesAt_30 : decode cX11_layNamesAt 30 = .ok (.invokestatic 377, 3) := by decide +kernel
theorem dX11_layNamesAt_33 : decode cX11_layNamesAt 33 = .ok (.iaload, 1) := by decide +kernel
theorem dX11_layNamesAt_34 : decode cX11_layNamesAt 34 = .ok (.i2l, 1) := by decide +kernel
theorem dX11_layNamesAt_35 : decode cX11_layNamesAt 35 = .ok (.goto 6, 3) := by decide +kernel
theorem dX11_layNamesAt_38 : decode cX11_layNamesAt 38 = .ok (.ldc2_w 418, 3) := by decide +kernel
theorem dX11_layNamesAt_41 : decode cX11_layNamesAt 41 = .ok (.aload_n 0, 1) := by decide +kernel
theorem dX11_layNamesAt_42 : decode cX11_layNamesAt 42 = .ok (.iload_n 2, 1) := by decide +kernel
theorem dX11_layNamesAt_43 : decode cX11_layNamesAt 43 = .ok (.invokevirtual 415, 3) := by decide +kernel
theorem dX11_layNamesAt_46 : decode cX11_layNamesAt 46 = .ok (.ifCond .eq 18, 3) := by decide +kernel
theorem dX11_layNamesAt_49 : decode cX11_layNamesAt 49 = .ok (.aload_n 0, 1) := by decide +kernel
theorem dX11_layNamesAt_50 : decode cX11_layNamesAt 50 = .ok (.getfield 69, 3) := by decide +kernel
theorem dX11_layNamesAt_53 : decode cX11_layNamesAt 53 = .ok (.iload_n 2, 1) := by decide +kernel
theorem dX11_layNamesAt_54 : decode cX11_layNamesAt 54 = .ok (.invokestatic 377, 3) := by decide +kernel
theorem dX11_layNamesAt_57 : decode cX11_layNamesAt 57 = .ok (.iconst 1, 1) := by decide +kernel
theorem dX11_layNamesAt_58 : decode cX11_layNamesAt 58 = .ok (.iadd, 1) := by decide +kernel
theorem dX11_layNamesAt_59 : decode cX11_layNamesAt 59 = .ok (.iaload, 1) := by decide +kernel
theorem dX11_layNamesAt_60 : decode cX11_layNamesAt 60 = .ok (.i2l, 1) := by decide +kernel
theorem dX11_layNamesAt_61 : decode cX11_layNamesAt 61 = .ok (.goto 4, 3) := by decide +kernel
theorem dX11_layNamesAt_64 : decode cX11_layNamesAt 64 = .ok (.lconst 0, 1) := by decide +kernel
theorem dX11_layNamesAt_65 : decode cX11_layNamesAt 65 = .ok (.invokevirtual 420, 3) := by decide +kernel
theorem dX11_layNamesAt_68 : decode cX11_layNamesAt 68 = .ok (.return_, 1) := by decide +kernel
set_option maxRecDepth 10000 in
theorem vX11_layNamesAt_0 {κ : eg_K} {d : Nat} (hd : 2 ≤ d) {post : eg_H → Prop} (M : eg_H) (l1 : Int32) (l2 : Int32) (h : (∀ x2 : Int32, x2 = (fX11_at M l1) → (vp_in ((x2 + (14 : Int32)) + l2) 366 ∧ (gX11_hasPan M l2 ∧ (∀ x6 : Int32, x6 = (fX11_hasPan M l2) → (x6 = 0 → eg_W κ gM mtX11_layNamesAt d (eQV κ gM post) 41 [(0, vR (60, 0)), (2, vI l2)] [vL (999 : Int64), vL ((M.1 (110, 0) ((x2 + (14 : Int32)) + l2).toNatClampNeg).toInt64), vI l1, vR (60, 0)] M) ∧ ((¬ x6 = 0) → (∀ x9 : Int32, x9 = (fX11_pan M l2) → (vp_in x9 366 ∧ eg_W κ gM mtX11_layNamesAt d (eQV κ gM post) 41 [(0, vR (60, 0)), (2, vI l2)] [vL ((M.1 (110, 0) x9.toNatClampNeg).toInt64), vL ((M.1 (110, 0) ((x2 + (14 : Int32)) + l2).toNatClampNeg).toInt64), vI l1, vR (60, 0)] M)))))))) : eg_W κ gM mtX11_layNamesAt d (eQV κ gM post) 0 [(0, vR (60, 0)), (1, vI l1), (2, vI l2)] [] M := by
  refine eg_aload_n 0 dX11_layNamesAt_0 rfl rfl ?_
  refine eg_iload_n 1 dX11_layNamesAt_1 rfl rfl ?_
  refine eg_aload_n 0 dX11_layNamesAt_2 rfl rfl ?_
  refine eg_getR dX11_layNamesAt_3 fl_11_69 rfl rfl (obM_60 z1) ?_
  show eg_W κ gM mtX11_layNamesAt d (eQV κ gM post) 6 [(0, vR (60, 0)), (1, vI l1), (2, vI l2)] [vR (110, 0), vI l1, vR (60, 0)] M
  refine eg_iload_n 1 dX11_layNamesAt_6 rfl rfl ?_
  refine eg_callSI (av := [vI l1]) (st := [vR (110, 0), vI l1, vR (60, 0)]) dX11_layNamesAt_7 ml_11_372 rfl rfl (Nat.le_of_ble_eq_true rfl) (eg_dd (by omega)) (sX11_at (by omega) M l1  ) (fun x2 M1 hp => ?_)
  obtain ⟨ex2, eM1⟩ := hp
  rw [eM1]
  have h := h x2 ex2
  refine eg_bipush dX11_layNamesAt_10 bp_14 ?_
  refine eg_iadd dX11_layNamesAt_12 ?_
  refine eg_iload_n 2 dX11_layNamesAt_13 rfl rfl ?_
  refine eg_iadd dX11_layNamesAt_14 ?_
  obtain ⟨g3, h⟩ := h
  refine eg_iaload dX11_layNamesAt_15 (arM_110 z1 g3) ?_
  refine eg_i2l dX11_layNamesAt_16 ?_
  refine eg_aload_n 0 dX11_layNamesAt_17 rfl rfl ?_
  refine eg_iload_n 2 dX11_layNamesAt_18 rfl rfl ?_
  obtain ⟨g4, h⟩ := h
  refine eg_callVI (av := [vI l2]) (st := [vL ((M.1 (110, 0) ((x2 + (14 : Int32)) + l2).toNatClampNeg).toInt64), vI l1, vR (60, 0)]) dX11_layNamesAt_19 ml_11_415 rfl rfl (obM_60 z1) (by decide) rfl (Nat.le_of_ble_eq_true rfl) (eg_dd (by omega)) (sX11_hasPan (by omega) M l2  g4) (fun x6 M5 hp => ?_)
  obtain ⟨ex6, eM5⟩ := hp
  rw [eM5]
  have h := h x6 ex6
  refine eg_if_eq (tgt := 38) dX11_layNamesAt_22 rfl (fun c7 => ?_) (fun c7 => ?_)
  · have h := h.1 c7
    refine eg_ldc2 dX11_layNamesAt_38 kc_11_418 ?_
    refine eg_sub [0, 2] rfl ?_
    exact h
  · have h := h.2 c7
    refine eg_aload_n 0 dX11_layNamesAt_25 rfl rfl ?_
    refine eg_getR dX11_layNamesAt_26 fl_11_69 rfl rfl (obM_60 z1) ?_
    show eg_W κ gM mtX11_layNamesAt d (eQV κ gM post) 29 [(0, vR (60, 0)), (1, vI l1), (2, vI l2)] [vR (110, 0), vL ((M.1 (110, 0) ((x2 + (14 : Int32)) + l2).toNatClampNeg).toInt64), vI l1, vR (60, 0)] M
    refine eg_iload_n 2 dX11_layNamesAt_29 rfl rfl ?_
    refine eg_callSI (av := [vI l2]) (st := [vR (110, 0), vL ((M.1 (110, 0) ((x2 + (14 : Int32)) + l2).toNatClampNeg).toInt64), vI l1, vR (60, 0)]) dX11_layNamesAt_30 ml_11_377 rfl rfl (Nat.le_of_ble_eq_true rfl) (eg_dd (by omega)) (sX11_pan (by omega) M l2  ) (fun x9 M8 hp => ?_)
    obtain ⟨ex9, eM8⟩ := hp
    rw [eM8]
    have h := h x9 ex9
    obtain ⟨g10, h⟩ := h
    refine eg_iaload dX11_layNamesAt_33 (arM_110 z1 g10) ?_
    refine eg_i2l dX11_layNamesAt_34 ?_
    refine eg_goto (tgt := 41) dX11_layNamesAt_35 rfl ?_
    refine eg_sub [0, 2] rfl ?_
    exact h
set_option maxRecDepth 10000 in
theorem vX11_layNamesAt_41 {κ : eg_K} {d : Nat} (hd : 2 ≤ d) {post : eg_H → Prop} (M : eg_H) (l2 : Int32) (s0 : Int64) (s1 : Int64) (s2 : Int32) (h : (gX11_hasPan M l2 ∧ (∀ x3 : Int32, x3 = (fX11_hasPan M l2) → (x3 = 0 → eCV κ gM mtX11_layNames d [vR (60, 0), vI s2, vL s1, vL s0, vL (0 : Int64)] M (fun M5 => post M5)) ∧ ((¬ x3 = 0) → (∀ x8 : Int32, x8 = (fX11_pan M l2) → (vp_in (x8 + (1 : Int32)) 366 ∧ eCV κ gM mtX11_layNames d [vR (60, 0), vI s2, vL s1, vL s0, vL ((M.1 (110, 0) (x8 + (1 : Int32)).toNatClampNeg).toInt64)] M (fun M10 => post M10))))))) : eg_W κ gM mtX11_layNamesAt d (eQV κ gM post) 41 [(0, vR (60, 0)), (2, vI l2)] [vL s0, vL s1, vI s2, vR (60, 0)] M := by
  refine eg_aload_n 0 dX11_layNamesAt_41 rfl rfl ?_
  refine eg_iload_n 1 dX11_layNamesAt_42 rfl rfl ?_
  obtain ⟨g1, h⟩ := h
  refine eg_callVI (av := [vI l2]) (st := [vL s0, vL s1, vI s2, vR (60, 0)]) dX11_layNamesAt_43 ml_11_415 rfl rfl (obM_60 z1) (by decide) rfl (Nat.le_of_ble_eq_true rfl) (eg_dd (by omega)) (sX11_hasPan (by omega) M l2  g1) (fun x3 M2 hp => ?_)
  obtain ⟨ex3, eM2⟩ := hp
  rw [eM2]
  have h := h x3 ex3
  refine eg_if_eq (tgt := 64) dX11_layNamesAt_46 rfl (fun c4 => ?_) (fun c4 => ?_)
  · have h := h.1 c4
    refine eg_lconst dX11_layNamesAt_64 lc_0 ?_
    obtain ⟨q6, hq6, h⟩ := h
    refine eg_callVV (av := [vI s2, vL s1, vL s0, vL (0 : Int64)]) (st := []) dX11_layNamesAt_65 ml_11_420 rfl rfl (obM_60 z1) (by decide) rfl (Nat.le_of_ble_eq_true rfl) (eg_dd (by omega)) hq6 (fun M5 hp => ?_)
    have h := h M5 hp
    exact eg_vreturn dX11_layNamesAt_68 rfl h
  · have h := h.2 c4
    refine eg_aload_n 0 dX11_layNamesAt_49 rfl rfl ?_
    refine eg_getR dX11_layNamesAt_50 fl_11_69 rfl rfl (obM_60 z1) ?_
    show eg_W κ gM mtX11_layNamesAt d (eQV κ gM post) 53 [(0, vR (60, 0)), (2, vI l2)] [vR (110, 0), vL s0, vL s1, vI s2, vR (60, 0)] M
    refine eg_iload_n 1 dX11_layNamesAt_53 rfl rfl ?_
    refine eg_callSI (av := [vI l2]) (st := [vR (110, 0), vL s0, vL s1, vI s2, vR (60, 0)]) dX11_layNamesAt_54 ml_11_377 rfl rfl (Nat.le_of_ble_eq_true rfl) (eg_dd (by omega)) (sX11_pan (by omega) M l2  ) (fun x8 M7 hp => ?_)
    obtain ⟨ex8, eM7⟩ := hp
    rw [eM7]
    have h := h x8 ex8
    refine eg_iconst dX11_layNamesAt_57 ic_1 ?_
    refine eg_iadd dX11_layNamesAt_58 ?_
    obtain ⟨g9, h⟩ := h
    refine eg_iaload dX11_layNamesAt_59 (arM_110 z1 g9) ?_
    refine eg_i2l dX11_layNamesAt_60 ?_
    refine eg_goto (tgt := 65) dX11_layNamesAt_61 rfl ?_
    obtain ⟨q11, hq11, h⟩ := h
    refine eg_callVV (av := [vI s2, vL s1, vL s0, vL ((M.1 (110, 0) (x8 + (1 : Int32)).toNatClampNeg).toInt64)]) (st := []) dX11_layNamesAt_65 ml_11_420 rfl rfl (obM_60 z1) (by decide) rfl (Nat.le_of_ble_eq_true rfl) (eg_dd (by omega)) hq11 (fun M10 hp => ?_)
    have h := h M10 hp
    exact eg_vreturn dX11_layNamesAt_68 rfl h
theorem dX11_comesNow_0 : decode cX11_comesNow 0 = .ok (.iload_n 1, 1) := by decide +kernel
theorem dX11_comesNow_1 : decode cX11_comesNow 1 = .ok (.invokestatic 372, 3) := by decide +kernel
theorem dX11_comesNow_4 : decode cX11_comesNow 4 = .ok (.istore_n 2, 1) := by decide +kernel
theorem dX11_comesNow_5 : decode cX11_comesNow 5 = .ok (.aload_n 0, 1) := by decide +kernel
theorem dX11_comesNow_6 : decode cX11_comesNow 6 = .ok (.getfield 69, 3) := by decide +kernel
theorem dX11_comesNow_9 : decode cX11_comesNow 9 = .ok (.iload_n 2, 1) := by decide +kernel
theorem dX11_comesNow_10 : decode cX11_comesNow 10 = .ok (.iconst 1, 1) := by decide +kernel
theorem dX11_comesNow_11 : decode cX11_comesNow 11 = .ok (.iastore, 1) := by decide +kernel
theorem dX11_comesNow_12 : decode cX11_comesNow 12 = .ok (.aload_n 0, 1) := by decide +kernel
theorem dX11_comesNow_13 : decode cX11_comesNow 13 = .ok (.getfield 69, 3) := by decide +kernel
theorem dX11_comesNow_16 : decode cX11_comesNow 16 = .ok (.iload_n 2, 1) := by decide +kernel
theorem dX11_comesNow_17 : decode cX11_comesNow 17 = .ok (.iconst 1, 1) := by decide +kernel
theorem dX11_comesNow_18 : decode cX11_comesNow 18 = .ok (.iadd, 1) := by decide +kernel
theorem dX11_comesNow_19 : decode cX11_comesNow 19 = .ok (.iconst (-1), 1) := by decide +kernel
theorem dX11_comesNow_20 : decode cX11_comesNow 20 = .ok (.iastore, 1) := by decide +kernel
theorem dX11_comesNow_21 : decode cX11_comesNow 21 = .ok (.aload_n 0, 1) := by decide +kernel
theorem dX11_comesNow_22 : decode cX11_comesNow 22 = .ok (.getfield 69, 3) := by decide +kernel
theorem dX11_comesNow_25 : decode cX11_comesNow 25 = .ok (.iload_n 2, 1) := by decide +kernel
theorem dX11_comesNow_26 : decode cX11_comesNow 26 = .ok (.iconst 2, 1) := by decide +kernel
theorem dX11_comesNow_27 : decode cX11_comesNow 27 = .ok (.iadd, 1) := by decide +kernel
theorem dX11_comesNow_28 : decode cX11_comesNow 28 = .ok (.aload_n 0, 1) := by decide +kernel
theorem dX11_comesNow_29 : decode cX11_comesNow 29 = .ok (.iload_n 1, 1) := by decide +kernel
theorem dX11_comesNow_30 : decode cX11_comesNow 30 = .ok (.invokevirtual 374, 3) := by decide +kernel
theorem dX11_comesNow_33 : decode cX11_comesNow 33 = .ok (.iastore, 1) := by decide +kernel
theorem dX11_comesNow_34 : decode cX11_comesNow 34 = .ok (.aload_n 0, 1) := by decide +kernel
theorem dX11_comesNow_35 : decode cX11_comesNow 35 = .ok (.getfield 69, 3) := by decide +kernel
theorem dX11_comesNow_38 : decode cX11_comesNow 38 = .ok (.iload_n 2, 1) := by decide +kernel
theorem dX11_comesNow_39 : decode cX11_comesNow 39 = .ok (.iconst 3, 1) := by decide +kernel
theorem dX11_comesNow_40 : decode cX11_comesNow 40 = .ok (.iadd, 1) := by decide +kernel
theorem dX11_comesNow_41 : decode cX11_comesNow 41 = .ok (.iconst 0, 1) := by decide +kernel
theorem dX11_comesNow_42 : decode cX11_comesNow 42 = .ok (.iastore, 1) := by decide +kernel
theorem dX11_comesNow_43 : decode cX11_comesNow 43 = .ok (.aload_n 0, 1) := by decide +kernel
theorem dX11_comesNow_44 : decode cX11_comesNow 44 = .ok (.getfield 69, 3) := by decide +kernel
theorem dX11_comesNow_47 : decode cX11_comesNow 47 = .ok (.iload_n 2, 1) := by decide +kernel
theorem dX11_comesNow_48 : decode cX11_comesNow 48 = .ok (.bipush 9, 2) := by decide +kernel
theorem dX11_comesNow_50 : decode cX11_comesNow 50 = .ok (.iadd, 1) := by decide +kernel
theorem dX11_comesNow_51 : decode cX11_comesNow 51 = .ok (.dup2, 1) := by decide +kernel
theorem dX11_comesNow_52 : decode cX11_comesNow 52 = .ok (.iaload, 1) := by decide +kernel
theorem dX11_comesNow_53 : decode cX11_comesNow 53 = .ok (.iconst 1, 1) := by decide +kernel
theorem dX11_comesNow_54 : decode cX11_comesNow 54 = .ok (.iadd, 1) := by decide +kernel
theorem dX11_comesNow_55 : decode cX11_comesNow 55 = .ok (.iastore, 1) := by decide +kernel
theorem dX11_comesNow_56 : decode cX11_comesNow 56 = .ok (.aload_n 0, 1) := by decide +kernel
theorem dX11_comesNow_57 : decode cX11_comesNow 57 = .ok (.getfield 69, 3) := by decide +kernel
theorem dX11_comesNow_60 : decode cX11_comesNow 60 = .ok (.iload_n 2, 1) := by decide +kernel
theorem dX11_comesNow_61 : decode cX11_comesNow 61 = .ok (.bipush 10, 2) := by decide +kernel
theorem dX11_comesNow_63 : decode cX11_comesNow 63 = .ok (.iadd, 1) := by decide +kernel
theorem dX11_comesNow_64 : decode cX11_comesNow 64 = .ok (.iconst 0, 1) := by decide +kernel
theorem dX11_comesNow_65 : decode cX11_comesNow 65 = .ok (.iastore, 1) := by decide +kernel
theorem dX11_comesNow_66 : decode cX11_comesNow 66 = .ok (.aload_n 0, 1) := by decide +kernel
theorem dX11_comesNow_67 : decode cX11_comesNow 67 = .ok (.getfield 69, 3) := by decide +kernel
theorem dX11_comesNow_70 : decode cX11_comesNow 70 = .ok (.iconst 2, 1) := by decide +kernel
theorem dX11_comesNow_71 : decode cX11_comesNow 71 = .ok (.aload_n 0, 1) := by decide +kernel
theorem dX11_comesNow_72 : decode cX11_comesNow 72 = .ok (.getfield 69, 3) := by decide +kernel
theorem dX11_comesNow_75 : decode cX11_comesNow 75 = .ok (.iconst 1, 1) := by decide +kernel
theorem dX11_comesNow_76 : decode cX11_comesNow 76 = .ok (.iaload, 1) := by decide +kernel
theorem dX11_comesNow_77 : decode cX11_comesNow 77 = .ok (.iadd, 1) := by decide +kernel
theorem dX11_comesNow_78 : decode cX11_comesNow 78 = .ok (.iload_n 1, 1) := by decide +kernel
theorem dX11_comesNow_79 : decode cX11_comesNow 79 = .ok (.iastore, 1) := by decide +kernel
theorem dX11_comesNow_80 : decode cX11_comesNow 80 = .ok (.aload_n 0, 1) := by decide +kernel
theorem dX11_comesNow_81 : decode cX11_comesNow 81 = .ok (.getfield 69, 3) := by decide +kernel
theorem dX11_comesNow_84 : decode cX11_comesNow 84 = .ok (.iconst 1, 1) := by decide +kernel
theorem dX11_comesNow_85 : decode cX11_comesNow 85 = .ok (.dup2, 1) := by decide +kernel
theorem dX11_comesNow_86 : decode cX11_comesNow 86 = .ok (.iaload, 1) := by decide +kernel
theorem dX11_comesNow_87 : decode cX11_comesNow 87 = .ok (.iconst 1, 1) := by decide +kernel
theorem dX11_comesNow_88 : decode cX11_comesNow 88 = .ok (.iadd, 1) := by decide +kernel
theorem dX11_comesNow_89 : decode cX11_comesNow 89 = .ok (.iastore, 1) := by decide +kernel
theorem dX11_comesNow_90 : decode cX11_comesNow 90 = .ok (.return_, 1) := by decide +kernel
set_option maxRecDepth 10000 in
theorem vX11_comesNow_0 {κ : eg_K} {d : Nat} (hd : 1 ≤ d) {post : eg_H → Prop} (M : eg_H) (l1 : Int32) (h : (∀ x2 : Int32, x2 = (fX11_at M l1) → (vp_in x2 366 ∧ (∀ M4 : eg_H, M4 = (sI M (110, 0) x2.toNatClampNeg (1 : Int32)) → (vp_in (x2 + (1 : Int32)) 366 ∧ (∀ M6 : eg_H, M6 = (sI M4 (110, 0) (x2 + (1 : Int32)).toNatClampNeg (-1 : Int32)) → (gX11_sizeOf M6 l1 ∧ (∀ x9 : Int32, x9 = (fX11_sizeOf M6 l1) → (vp_in (x2 + (2 : Int32)) 366 ∧ (∀ M11 : eg_H, M11 = (sI M6 (110, 0) (x2 + (2 : Int32)).toNatClampNeg x9) → (vp_in (x2 + (3 : Int32)) 366 ∧ (∀ M13 : eg_H, M13 = (sI M11 (110, 0) (x2 + (3 : Int32)).toNatClampNeg (0 : Int32)) → (vp_in (x2 + (9 : Int32)) 366 ∧ (∀ M15 : eg_H, M15 = (sI M13 (110, 0) (x2 + (9 : Int32)).toNatClampNeg ((M13.1 (110, 0) (x2 + (9 : Int32)).toNatClampNeg) + (1 : Int32))) → (vp_in (x2 + (10 : Int32)) 366 ∧ (∀ M17 : eg_H, M17 = (sI M15 (110, 0) (x2 + (10 : Int32)).toNatClampNeg (0 : Int32)) → (vp_in (1 : Int32) 366 ∧ (vp_in ((2 : Int32) + (M17.1 (110, 0) (1 : Int32).toNatClampNeg)) 366 ∧ (∀ M20 : eg_H, M20 = (sI M17 (110, 0) ((2 : Int32) + (M17.1 (110, 0) (1 : Int32).toNatClampNeg)).toNatClampNeg l1) → (∀ M21 : eg_H, M21 = (sI M20 (110, 0) (1 : Int32).toNatClampNeg ((M20.1 (110, 0) (1 : Int32).toNatClampNeg) + (1 : Int32))) → post M21)))))))))))))))))))) : eg_W κ gM mtX11_comesNow d (eQV κ gM post) 0 [(0, vR (60, 0)), (1, vI l1)] [] M := by
  refine eg_iload_n 1 dX11_comesNow_0 rfl rfl ?_
  refine eg_callSI (av := [vI l1]) (st := []) dX11_comesNow_1 ml_11_372 rfl rfl (Nat.le_of_ble_eq_true rfl) (eg_dd (by omega)) (sX11_at (by omega) M l1  ) (fun x2 M1 hp => ?_)
  obtain ⟨ex2, eM1⟩ := hp
  rw [eM1]
  have h := h x2 ex2
  refine eg_istore_n dX11_comesNow_4 rfl (by decide) (ls1 := [(2, vI x2), (0, vR (60, 0)), (1, vI l1)]) rfl ?_
  refine eg_aload_n 1 dX11_comesNow_5 rfl rfl ?_
  refine eg_getR dX11_comesNow_6 fl_11_69 rfl rfl (obM_60 z1) ?_
  show eg_W κ gM mtX11_comesNow d (eQV κ gM post) 9 [(2, vI x2), (0, vR (60, 0)), (1, vI l1)] [vR (110, 0)] M
  refine eg_iload_n 0 dX11_comesNow_9 rfl rfl ?_
  refine eg_iconst dX11_comesNow_10 ic_1 ?_
  obtain ⟨g3, h⟩ := h
  refine en_iastore dX11_comesNow_11 (arM_110 z1 g3) (fun M4 eM4 => ?_)
  have h := h M4 eM4
  refine eg_aload_n 1 dX11_comesNow_12 rfl rfl ?_
  refine eg_getR dX11_comesNow_13 fl_11_69 rfl rfl (obM_60 z1) ?_
  show eg_W κ gM mtX11_comesNow d (eQV κ gM post) 16 [(2, vI x2), (0, vR (60, 0)), (1, vI l1)] [vR (110, 0)] M4
  refine eg_iload_n 0 dX11_comesNow_16 rfl rfl ?_
  refine eg_iconst dX11_comesNow_17 ic_1 ?_
  refine eg_iadd dX11_comesNow_18 ?_
  refine eg_iconst dX11_comesNow_19 ic_m1 ?_
  obtain ⟨g5, h⟩ := h
  refine en_iastore dX11_comesNow_20 (arM_110 z1 g5) (fun M6 eM6 => ?_)
  have h := h M6 eM6
  refine eg_aload_n 1 dX11_comesNow_21 rfl rfl ?_
  refine eg_getR dX11_comesNow_22 fl_11_69 rfl rfl (obM_60 z1) ?_
  show eg_W κ gM mtX11_comesNow d (eQV κ gM post) 25 [(2, vI x2), (0, vR (60, 0)), (1, vI l1)] [vR (110, 0)] M6
  refine eg_iload_n 0 dX11_comesNow_25 rfl rfl ?_
  refine eg_iconst dX11_comesNow_26 ic_2 ?_
  refine eg_iadd dX11_comesNow_27 ?_
  refine eg_aload_n 1 dX11_comesNow_28 rfl rfl ?_
  refine eg_iload_n 2 dX11_comesNow_29 rfl rfl ?_
  obtain ⟨g7, h⟩ := h
  refine eg_callVI (av := [vI l1]) (st := [vI (x2 + (2 : Int32)), vR (110, 0)]) dX11_comesNow_30 ml_11_374 rfl rfl (obM_60 z1) (by decide) rfl (Nat.le_of_ble_eq_true rfl) (eg_dd (by omega)) (sX11_sizeOf (by omega) M6 l1  g7) (fun x9 M8 hp => ?_)
  obtain ⟨ex9, eM8⟩ := hp
  rw [eM8]
  have h := h x9 ex9
  obtain ⟨g10, h⟩ := h
  refine en_iastore dX11_comesNow_33 (arM_110 z1 g10) (fun M11 eM11 => ?_)
  have h := h M11 eM11
  refine eg_aload_n 1 dX11_comesNow_34 rfl rfl ?_
  refine eg_getR dX11_comesNow_35 fl_11_69 rfl rfl (obM_60 z1) ?_
  show eg_W κ gM mtX11_comesNow d (eQV κ gM post) 38 [(2, vI x2), (0, vR (60, 0)), (1, vI l1)] [vR (110, 0)] M11
  refine eg_iload_n 0 dX11_comesNow_38 rfl rfl ?_
  refine eg_iconst dX11_comesNow_39 ic_3 ?_
  refine eg_iadd dX11_comesNow_40 ?_
  refine eg_iconst dX11_comesNow_41 ic_0 ?_
  obtain ⟨g12, h⟩ := h
  refine en_iastore dX11_comesNow_42 (arM_110 z1 g12) (fun M13 eM13 => ?_)
  have h := h M13 eM13
  refine eg_aload_n 1 dX11_comesNow_43 rfl rfl ?_
  refine eg_getR dX11_comesNow_44 fl_11_69 rfl rfl (obM_60 z1) ?_
  show eg_W κ gM mtX11_comesNow d (eQV κ gM post) 47 [(2, vI x2), (0, vR (60, 0)), (1, vI l1)] [vR (110, 0)] M13
  refine eg_iload_n 0 dX11_comesNow_47 rfl rfl ?_
  refine eg_bipush dX11_comesNow_48 bp_9 ?_
  refine eg_iadd dX11_comesNow_50 ?_
  refine eg_dup2 dX11_comesNow_51 rfl rfl ?_
  obtain ⟨g14, h⟩ := h
  refine eg_iaload dX11_comesNow_52 (arM_110 z1 g14) ?_
  refine eg_iconst dX11_comesNow_53 ic_1 ?_
  refine eg_iadd dX11_comesNow_54 ?_
  refine en_iastore dX11_comesNow_55 (arM_110 z1 g14) (fun M15 eM15 => ?_)
  have h := h M15 eM15
  refine eg_aload_n 1 dX11_comesNow_56 rfl rfl ?_
  refine eg_getR dX11_comesNow_57 fl_11_69 rfl rfl (obM_60 z1) ?_
  show eg_W κ gM mtX11_comesNow d (eQV κ gM post) 60 [(2, vI x2), (0, vR (60, 0)), (1, vI l1)] [vR (110, 0)] M15
  refine eg_iload_n 0 dX11_comesNow_60 rfl rfl ?_
  refine eg_bipush dX11_comesNow_61 bp_10 ?_
  refine eg_iadd dX11_comesNow_63 ?_
  refine eg_iconst dX11_comesNow_64 ic_0 ?_
  obtain ⟨g16, h⟩ := h
  refine en_iastore dX11_comesNow_65 (arM_110 z1 g16) (fun M17 eM17 => ?_)
  have h := h M17 eM17
  refine eg_aload_n 1 dX11_comesNow_66 rfl rfl ?_
  refine eg_getR dX11_comesNow_67 fl_11_69 rfl rfl (obM_60 z1) ?_
  show eg_W κ gM mtX11_comesNow d (eQV κ gM post) 70 [(2, vI x2), (0, vR (60, 0)), (1, vI l1)] [vR (110, 0)] M17
  refine eg_iconst dX11_comesNow_70 ic_2 ?_
  refine eg_aload_n 1 dX11_comesNow_71 rfl rfl ?_
  refine eg_getR dX11_comesNow_72 fl_11_69 rfl rfl (obM_60 z1) ?_
  show eg_W κ gM mtX11_comesNow d (eQV κ gM post) 75 [(2, vI x2), (0, vR (60, 0)), (1, vI l1)] [vR (110, 0), vI (2 : Int32), vR (110, 0)] M17
  refine eg_iconst dX11_comesNow_75 ic_1 ?_
  obtain ⟨g18, h⟩ := h
  refine eg_iaload dX11_comesNow_76 (arM_110 z1 g18) ?_
  refine eg_iadd dX11_comesNow_77 ?_
  refine eg_iload_n 2 dX11_comesNow_78 rfl rfl ?_
  obtain ⟨g19, h⟩ := h
  refine en_iastore dX11_comesNow_79 (arM_110 z1 g19) (fun M20 eM20 => ?_)
  have h := h M20 eM20
  refine eg_aload_n 1 dX11_comesNow_80 rfl rfl ?_
  refine eg_getR dX11_comesNow_81 fl_11_69 rfl rfl (obM_60 z1) ?_
  show eg_W κ gM mtX11_comesNow d (eQV κ gM post) 84 [(2, vI x2), (0, vR (60, 0)), (1, vI l1)] [vR (110, 0)] M20
  refine eg_iconst dX11_comesNow_84 ic_1 ?_
  refine eg_dup2 dX11_comesNow_85 rfl rfl ?_
  refine eg_iaload dX11_comesNow_86 (arM_110 z1 g18) ?_
  refine eg_iconst dX11_comesNow_87 ic_1 ?_
  refine eg_iadd dX11_comesNow_88 ?_
  refine en_iastore dX11_comesNow_89 (arM_110 z1 g18) (fun M21 eM21 => ?_)
  have h := h M21 eM21
  exact eg_vreturn dX11_comesNow_90 rfl h
theorem dX11_pansGo_0 : decode cX11_pansGo 0 = .ok (.iconst 0, 1) := by decide +kernel
theorem dX11_pansGo_1 : decode cX11_pansGo 1 = .ok (.istore_n 1, 1) := by decide +kernel
theorem dX11_pansGo_2 : decode cX11_pansGo 2 = .ok (.iload_n 1, 1) := by decide +kernel
theorem dX11_pansGo_3 : decode cX11_pansGo 3 = .ok (.aload_n 0, 1) := by decide +kernel
theorem dX11_pansGo_4 : decode cX11_pansGo 4 = .ok (.getfield 209, 3) := by decide +kernel
theorem dX11_pansGo_7 : decode cX11_pansGo 7 = .ok (.if_icmp .ge 136, 3) := by decide +kernel
theorem dX11_pansGo_10 : decode cX11_pansGo 10 = .ok (.iload_n 1, 1) := by decide +kernel
theorem dX11_pansGo_11 : decode cX11_pansGo 11 = .ok (.invokestatic 377, 3) := by decide +kernel
theorem dX11_pansGo_14 : decode cX11_pansGo 14 = .ok (.istore_n 2, 1) := by decide +kernel
theorem dX11_pansGo_15 : decode cX11_pansGo 15 = .ok (.aload_n 0, 1) := by decide +kernel
theorem dX11_pansGo_16 : decode cX11_pansGo 16 = .ok (.iload_n 1, 1) := by decide +kernel
theorem dX11_pansGo_17 : decode cX11_pansGo 17 = .ok (.invokevirtual 415, 3) := by decide +kernel
theorem dX11_pansGo_20 : decode cX11_pansGo 20 = .ok (.ifCond .eq 117, 3) := by decide +kernel
theorem dX11_pansGo_23 : decode cX11_pansGo 23 = .ok (.iload_n 1, 1) := by decide +kernel
theorem dX11_pansGo_24 : decode cX11_pansGo 24 = .ok (.aload_n 0, 1) := by decide +kernel
theorem dX11_pansGo_25 : decode cX11_pansGo 25 = .ok (.getfield 345, 3) := by decide +kernel
theorem dX11_pansGo_28 : decode cX11_pansGo 28 = .ok (.if_icmp .ne 10, 3) := by decide +kernel
theorem dX11_pansGo_31 : decode cX11_pansGo 31 = .ok (.aload_n 0, 1) := by decide +kernel
theorem dX11_pansGo_32 : decode cX11_pansGo 32 = .ok (.getfield 456, 3) := by decide +kernel
theorem dX11_pansGo_35 : decode cX11_pansGo 35 = .ok (.goto 9, 3) := by decide +kernel
theorem dX11_pansGo_38 : decode cX11_pansGo 38 = .ok (.aload_n 0, 1) := by decide +kernel
theorem dX11_pansGo_39 : decode cX11_pansGo 39 = .ok (.iload_n 1, 1) := by decide +kernel
theorem dX11_pansGo_40 : decode cX11_pansGo 40 = .ok (.iconst 4, 1) := by decide +kernel
theorem dX11_pansGo_41 : decode cX11_pansGo 41 = .ok (.invokevirtual 366, 3) := by decide +kernel
theorem dX11_pansGo_44 : decode cX11_pansGo 44 = .ok (.istore_n 3, 1) := by decide +kernel
theorem dX11_pansGo_45 : decode cX11_pansGo 45 = .ok (.aload_n 0, 1) := by decide +kernel
theorem dX11_pansGo_46 : decode cX11_pansGo 46 = .ok (.getfield 69, 3) := by decide +kernel
theorem dX11_pansGo_49 : decode cX11_pansGo 49 = .ok (.iload_n 2, 1) := by decide +kernel
theorem dX11_pansGo_50 : decode cX11_pansGo 50 = .ok (.iaload, 1) := by decide +kernel
theorem dX11_pansGo_51 : decode cX11_pansGo 51 = .ok (.iload_n 3, 1) := by decide +kernel
theorem dX11_pansGo_52 : decode cX11_pansGo 52 = .ok (.if_icmp .gt 48, 3) := by decide +kernel
theorem dX11_pansGo_55 : decode cX11_pansGo 55 = .ok (.aload_n 0, 1) := by decide +kernel
theorem dX11_pansGo_56 : decode cX11_pansGo 56 = .ok (.getfield 69, 3) := by decide +kernel
theorem dX11_pansGo_59 : decode cX11_pansGo 59 = .ok (.iload_n 2, 1) := by decide +kernel
theorem dX11_pansGo_60 : decode cX11_pansGo 60 = .ok (.iconst 2, 1) := by decide +kernel
theorem dX11_pansGo_61 : decode cX11_pansGo 61 = .ok (.iadd, 1) := by decide +kernel
theorem dX11_pansGo_62 : decode cX11_pansGo 62 = .ok (.iaload, 1) := by decide +kernel
theorem dX11_pansGo_63 : decode cX11_pansGo 63 = .ok (.ifCond .ge 37, 3) := by decide +kernel
theorem dX11_pansGo_66 : decode cX11_pansGo 66 = .ok (.aload_n 0, 1) := by decide +kernel
theorem dX11_pansGo_67 : decode cX11_pansGo 67 = .ok (.getfield 69, 3) := by decide +kernel
theorem dX11_pansGo_70 : decode cX11_pansGo 70 = .ok (.iconst 0, 1) := by decide +kernel
theorem dX11_pansGo_71 : decode cX11_pansGo 71 = .ok (.iaload, 1) := by decide +kernel
theorem dX11_pansGo_72 : decode cX11_pansGo 72 = .ok (.aload_n 0, 1) := by decide +kernel
theorem dX11_pansGo_73 : decode cX11_pansGo 73 = .ok (.getfield 227, 3) := by decide +kernel
theorem dX11_pansGo_76 : decode cX11_pansGo 76 = .ok (.if_icmp .ge 24, 3) := by decide +kernel
theorem dX11_pansGo_79 : decode cX11_pansGo 79 = .ok (.aload_n 0, 1) := by decide +kernel
theorem dX11_pansGo_80 : decode cX11_pansGo 80 = .ok (.getfield 69, 3) := by decide +kernel
theorem dX11_pansGo_83 : decode cX11_pansGo 83 = .ok (.iload_n 2, 1) := by decide +kernel
theorem dX11_pansGo_84 : decode cX11_pansGo 84 = .ok (.iconst 2, 1) := by decide +kernel
theorem dX11_pansGo_85 : decode cX11_pansGo 85 = .ok (.iadd, 1) := by decide +kernel
theorem dX11_pansGo_86 : decode cX11_pansGo 86 = .ok (.aload_n 0, 1) := by decide +kernel
theorem dX11_pansGo_87 : decode cX11_pansGo 87 = .ok (.getfield 69, 3) := by decide +kernel
theorem dX11_pansGo_90 : decode cX11_pansGo 90 = .ok (.iconst 0, 1) := by decide +kernel
theorem dX11_pansGo_91 : decode cX11_pansGo 91 = .ok (.iaload, 1) := by decide +kernel
theorem dX11_pansGo_92 : decode cX11_pansGo 92 = .ok (.aload_n 0, 1) := by decide +kernel
theorem dX11_pansGo_93 : decode cX11_pansGo 93 = .ok (.iload_n 1, 1) := by decide +kernel
theorem dX11_pansGo_94 : decode cX11_pansGo 94 = .ok (.iconst 3, 1) := by decide +kernel
theorem dX11_pansGo_95 : decode cX11_pansGo 95 = .ok (.invokevirtual 366, 3) := by decide +kernel
theorem dX11_pansGo_98 : decode cX11_pansGo 98 = .ok (.iadd, 1) := by decide +kernel
theorem dX11_pansGo_99 : decode cX11_pansGo 99 = .ok (.iastore, 1) := by decide +kernel
theorem dX11_pansGo_100 : decode cX11_pansGo 100 = .ok (.aload_n 0, 1) := by decide +kernel
theorem dX11_pansGo_101 : decode cX11_pansGo 101 = .ok (.getfield 69, 3) := by decide +kernel
theorem dX11_pansGo_104 : decode cX11_pansGo 104 = .ok (.iload_n 2, 1) := by decide +kernel
theorem dX11_pansGo_105 : decode cX11_pansGo 105 = .ok (.iconst 1, 1) := by decide +kernel
theorem dX11_pansGo_106 : decode cX11_pansGo 106 = .ok (.iadd, 1) := by decide +kernel
theorem dX11_pansGo_107 : decode cX11_pansGo 107 = .ok (.dup2, 1) := by decide +kernel
theorem dX11_pansGo_108 : decode cX11_pansGo 108 = .ok (.iaload, 1) := by decide +kernel
theorem dX11_pansGo_109 : decode cX11_pansGo 109 = .ok (.iconst 1, 1) := by decide +kernel
theorem dX11_pansGo_110 : decode cX11_pansGo 110 = .ok (.iadd, 1) := by decide +kernel
theorem dX11_pansGo_111 : decode cX11_pansGo 111 = .ok (.iastore, 1) := by decide +kernel
theorem dX11_pansGo_112 : decode cX11_pansGo 112 = .ok (.aload_n 0, 1) := by decide +kernel
theorem dX11_pansGo_113 : decode cX11_pansGo 113 = .ok (.getfield 69, 3) := by decide +kernel
theorem dX11_pansGo_116 : decode cX11_pansGo 116 = .ok (.iload_n 2, 1) := by decide +kernel
theorem dX11_pansGo_117 : decode cX11_pansGo 117 = .ok (.iconst 5, 1) := by decide +kernel
theorem dX11_pansGo_118 : decode cX11_pansGo 118 = .ok (.iadd, 1) := by decide +kernel
theorem dX11_pansGo_119 : decode cX11_pansGo 119 = .ok (.dup2, 1) := by decide +kernel
theorem dX11_pansGo_120 : decode cX11_pansGo 120 = .ok (.iaload, 1) := by decide +kernel
theorem dX11_pansGo_121 : decode cX11_pansGo 121 = .ok (.aload_n 0, 1) := by decide +kernel
theorem dX11_pansGo_122 : decode cX11_pansGo 122 = .ok (.getfield 69, 3) := by decide +kernel
theorem dX11_pansGo_125 : decode cX11_pansGo 125 = .ok (.iload_n 2, 1) := by decide +kernel
theorem dX11_pansGo_126 : decode cX11_pansGo 126 = .ok (.iaload, 1) := by decide +kernel
theorem dX11_pansGo_127 : decode cX11_pansGo 127 = .ok (.ifCond .ne 7, 3) := by decide +kernel
theorem dX11_pansGo_130 : decode cX11_pansGo 130 = .ok (.iconst 1, 1) := by decide +kernel
theorem dX11_pansGo_131 : decode cX11_pansGo 131 = .ok (.goto 4, 3) := by decide +kernel
theorem dX11_pansGo_134 : decode cX11_pansGo 134 = .ok (.iconst 0, 1) := by decide +kernel
theorem dX11_pansGo_135 : decode cX11_pansGo 135 = .ok (.iadd, 1) := by decide +kernel
theorem dX11_pansGo_136 : decode cX11_pansGo 136 = .ok (.iastore, 1) := by decide +kernel
theorem dX11_pansGo_137 : decode cX11_pansGo 137 = .ok (.iinc 1 1, 3) := by decide +kernel
theorem dX11_pansGo_140 : decode cX11_pansGo 140 = .ok (.goto (-138), 3) := by decide +kernel
theorem dX11_pansGo_143 : decode cX11_pansGo 143 = .ok (.return_, 1) := by decide +kernel
set_option maxRecDepth 10000 in
theorem vX11_pansGo_0 {κ : eg_K} {d : Nat} {post : eg_H → Prop} (M : eg_H)  (h : eg_W κ gM mtX11_pansGo d (eQV κ gM post) 2 [(0, vR (60, 0)), (1, vI (0 : Int32))] [] M) : eg_W κ gM mtX11_pansGo d (eQV κ gM post) 0 [(0, vR (60, 0))] [] M := by
  refine eg_iconst dX11_pansGo_0 ic_0 ?_
  refine eg_istore_n dX11_pansGo_1 rfl (by decide) (ls1 := [(1, vI (0 : Int32)), (0, vR (60, 0))]) rfl ?_
  refine eg_sub [1, 0] rfl ?_
  exact h
set_option maxRecDepth 10000 in
theorem vX11_pansGo_2 {κ : eg_K} {d : Nat} (hd : 2 ≤ d) {post : eg_H → Prop} (M : eg_H) (l1 : Int32) (h : ((M.1 (60, 0) 12) ≤ l1 → post M) ∧ ((¬ (M.1 (60, 0) 12) ≤ l1) → (∀ x3 : Int32, x3 = (fX11_pan M l1) → (gX11_hasPan M l1 ∧ (∀ x6 : Int32, x6 = (fX11_hasPan M l1) → (x6 = 0 → (∀ x8 : Int32, x8 = (l1 + (1 : Int32)) → eg_W κ gM mtX11_pansGo d (eQV κ gM post) 2 [(0, vR (60, 0)), (1, vI x8)] [] M)) ∧ ((¬ x6 = 0) → ((¬ l1 = (M.1 (60, 0) 55)) → (gX11_has M l1 (4 : Int32) ∧ (∀ x12 : Int32, x12 = (fX11_has M l1 (4 : Int32)) → eg_W κ gM mtX11_pansGo d (eQV κ gM post) 44 [(0, vR (60, 0)), (1, vI l1), (2, vI x3)] [vI x12] M))) ∧ (l1 = (M.1 (60, 0) 55) → eg_W κ gM mtX11_pansGo d (eQV κ gM post) 44 [(0, vR (60, 0)), (1, vI l1), (2, vI x3)] [vI (M.1 (60, 0) 56)] M))))))) : eg_W κ gM mtX11_pansGo d (eQV κ gM post) 2 [(0, vR (60, 0)), (1, vI l1)] [] M := by
  refine eg_iload_n 1 dX11_pansGo_2 rfl rfl ?_
  refine eg_aload_n 0 dX11_pansGo_3 rfl rfl ?_
  refine eg_getI dX11_pansGo_4 fl_11_209 rfl trivial (obM_60 z1) ?_
  refine eg_icmp_ge (tgt := 143) dX11_pansGo_7 rfl (fun c1 => ?_) (fun c1 => ?_)
  · have h := h.1 c1
    exact eg_vreturn dX11_pansGo_143 rfl h
  · have h := h.2 c1
    refine eg_iload_n 1 dX11_pansGo_10 rfl rfl ?_
    refine eg_callSI (av := [vI l1]) (st := []) dX11_pansGo_11 ml_11_377 rfl rfl (Nat.le_of_ble_eq_true rfl) (eg_dd (by omega)) (sX11_pan (by omega) M l1  ) (fun x3 M2 hp => ?_)
    obtain ⟨ex3, eM2⟩ := hp
    rw [eM2]
    have h := h x3 ex3
    refine eg_istore_n dX11_pansGo_14 rfl (by decide) (ls1 := [(2, vI x3), (0, vR (60, 0)), (1, vI l1)]) rfl ?_
    refine eg_aload_n 1 dX11_pansGo_15 rfl rfl ?_
    refine eg_iload_n 2 dX11_pansGo_16 rfl rfl ?_
    obtain ⟨g4, h⟩ := h
    refine eg_callVI (av := [vI l1]) (st := []) dX11_pansGo_17 ml_11_415 rfl rfl (obM_60 z1) (by decide) rfl (Nat.le_of_ble_eq_true rfl) (eg_dd (by omega)) (sX11_hasPan (by omega) M l1  g4) (fun x6 M5 hp => ?_)
    obtain ⟨ex6, eM5⟩ := hp
    rw [eM5]
    have h := h x6 ex6
    refine eg_if_eq (tgt := 137) dX11_pansGo_20 rfl (fun c7 => ?_) (fun c7 => ?_)
    · have h := h.1 c7
      refine en_iinc (f := fun x8 => [(1, vI x8), (2, vI x3), (0, vR (60, 0))]) 2 dX11_pansGo_137 rfl rfl (by decide) rfl (fun x8 ex8 => ?_)
      have h := h x8 ex8
      refine eg_goto (tgt := 2) dX11_pansGo_140 rfl ?_
      refine eg_sub [2, 0] rfl ?_
      exact h
    · have h := h.2 c7
      refine eg_iload_n 2 dX11_pansGo_23 rfl rfl ?_
      refine eg_aload_n 1 dX11_pansGo_24 rfl rfl ?_
      refine eg_getI dX11_pansGo_25 fl_11_345 rfl trivial (obM_60 z1) ?_
      refine eg_icmp_ne (tgt := 38) dX11_pansGo_28 rfl (fun c9 => ?_) (fun c9 => ?_)
      · have h := h.1 c9
        refine eg_aload_n 1 dX11_pansGo_38 rfl rfl ?_
        refine eg_iload_n 2 dX11_pansGo_39 rfl rfl ?_
        refine eg_iconst dX11_pansGo_40 ic_4 ?_
        obtain ⟨g10, h⟩ := h
        refine eg_callVI (av := [vI l1, vI (4 : Int32)]) (st := []) dX11_pansGo_41 ml_11_366 rfl rfl (obM_60 z1) (by decide) rfl (Nat.le_of_ble_eq_true rfl) (eg_dd (by omega)) (sX11_has (by omega) M l1 (4 : Int32)  g10) (fun x12 M11 hp => ?_)
        obtain ⟨ex12, eM11⟩ := hp
        rw [eM11]
        have h := h x12 ex12
        refine eg_sub [1, 2, 0] rfl ?_
        exact h
      · have h := h.2 c9
        refine eg_aload_n 1 dX11_pansGo_31 rfl rfl ?_
        refine eg_getI dX11_pansGo_32 fl_11_456 rfl trivial (obM_60 z1) ?_
        refine eg_goto (tgt := 44) dX11_pansGo_35 rfl ?_
        refine eg_sub [1, 2, 0] rfl ?_
        exact h
set_option maxRecDepth 10000 in
theorem vX11_pansGo_44 {κ : eg_K} {d : Nat} (hd : 1 ≤ d) {post : eg_H → Prop} (M : eg_H) (l1 : Int32) (l2 : Int32) (s0 : Int32) (h : (vp_in l2 366 ∧ (s0 < (M.1 (110, 0) l2.toNatClampNeg) → eg_W κ gM mtX11_pansGo d (eQV κ gM post) 100 [(0, vR (60, 0)), (1, vI l1), (2, vI l2)] [] M) ∧ ((¬ s0 < (M.1 (110, 0) l2.toNatClampNeg)) → (vp_in (l2 + (2 : Int32)) 366 ∧ (0 ≤ (M.1 (110, 0) (l2 + (2 : Int32)).toNatClampNeg) → eg_W κ gM mtX11_pansGo d (eQV κ gM post) 100 [(0, vR (60, 0)), (1, vI l1), (2, vI l2)] [] M) ∧ ((¬ 0 ≤ (M.1 (110, 0) (l2 + (2 : Int32)).toNatClampNeg)) → (vp_in (0 : Int32) 366 ∧ ((M.1 (60, 0) 18) ≤ (M.1 (110, 0) (0 : Int32).toNatClampNeg) → eg_W κ gM mtX11_pansGo d (eQV κ gM post) 100 [(0, vR (60, 0)), (1, vI l1), (2, vI l2)] [] M) ∧ ((¬ (M.1 (60, 0) 18) ≤ (M.1 (110, 0) (0 : Int32).toNatClampNeg)) → (gX11_has M l1 (3 : Int32) ∧ (∀ x9 : Int32, x9 = (fX11_has M l1 (3 : Int32)) → (∀ M10 : eg_H, M10 = (sI M (110, 0) (l2 + (2 : Int32)).toNatClampNeg ((M.1 (110, 0) (0 : Int32).toNatClampNeg) + x9)) → eg_W κ gM mtX11_pansGo d (eQV κ gM post) 100 [(0, vR (60, 0)), (1, vI l1), (2, vI l2)] [] M10)))))))))) : eg_W κ gM mtX11_pansGo d (eQV κ gM post) 44 [(0, vR (60, 0)), (1, vI l1), (2, vI l2)] [vI s0] M := by
  refine eg_istore_n dX11_pansGo_44 rfl (by decide) (ls1 := [(3, vI s0), (0, vR (60, 0)), (1, vI l1), (2, vI l2)]) rfl ?_
  refine eg_aload_n 1 dX11_pansGo_45 rfl rfl ?_
  refine eg_getR dX11_pansGo_46 fl_11_69 rfl rfl (obM_60 z1) ?_
  show eg_W κ gM mtX11_pansGo d (eQV κ gM post) 49 [(3, vI s0), (0, vR (60, 0)), (1, vI l1), (2, vI l2)] [vR (110, 0)] M
  refine eg_iload_n 3 dX11_pansGo_49 rfl rfl ?_
  obtain ⟨g1, h⟩ := h
  refine eg_iaload dX11_pansGo_50 (arM_110 z1 g1) ?_
  refine eg_iload_n 0 dX11_pansGo_51 rfl rfl ?_
  refine eg_icmp_gt (tgt := 100) dX11_pansGo_52 rfl (fun c2 => ?_) (fun c2 => ?_)
  · have h := h.1 c2
    refine eg_sub [1, 2, 3] rfl ?_
    exact h
  · have h := h.2 c2
    refine eg_aload_n 1 dX11_pansGo_55 rfl rfl ?_
    refine eg_getR dX11_pansGo_56 fl_11_69 rfl rfl (obM_60 z1) ?_
    show eg_W κ gM mtX11_pansGo d (eQV κ gM post) 59 [(3, vI s0), (0, vR (60, 0)), (1, vI l1), (2, vI l2)] [vR (110, 0)] M
    refine eg_iload_n 3 dX11_pansGo_59 rfl rfl ?_
    refine eg_iconst dX11_pansGo_60 ic_2 ?_
    refine eg_iadd dX11_pansGo_61 ?_
    obtain ⟨g3, h⟩ := h
    refine eg_iaload dX11_pansGo_62 (arM_110 z1 g3) ?_
    refine eg_if_ge (tgt := 100) dX11_pansGo_63 rfl (fun c4 => ?_) (fun c4 => ?_)
    · have h := h.1 c4
      refine eg_sub [1, 2, 3] rfl ?_
      exact h
    · have h := h.2 c4
      refine eg_aload_n 1 dX11_pansGo_66 rfl rfl ?_
      refine eg_getR dX11_pansGo_67 fl_11_69 rfl rfl (obM_60 z1) ?_
      show eg_W κ gM mtX11_pansGo d (eQV κ gM post) 70 [(3, vI s0), (0, vR (60, 0)), (1, vI l1), (2, vI l2)] [vR (110, 0)] M
      refine eg_iconst dX11_pansGo_70 ic_0 ?_
      obtain ⟨g5, h⟩ := h
      refine eg_iaload dX11_pansGo_71 (arM_110 z1 g5) ?_
      refine eg_aload_n 1 dX11_pansGo_72 rfl rfl ?_
      refine eg_getI dX11_pansGo_73 fl_11_227 rfl trivial (obM_60 z1) ?_
      refine eg_icmp_ge (tgt := 100) dX11_pansGo_76 rfl (fun c6 => ?_) (fun c6 => ?_)
      · have h := h.1 c6
        refine eg_sub [1, 2, 3] rfl ?_
        exact h
      · have h := h.2 c6
        refine eg_aload_n 1 dX11_pansGo_79 rfl rfl ?_
        refine eg_getR dX11_pansGo_80 fl_11_69 rfl rfl (obM_60 z1) ?_
        show eg_W κ gM mtX11_pansGo d (eQV κ gM post) 83 [(3, vI s0), (0, vR (60, 0)), (1, vI l1), (2, vI l2)] [vR (110, 0)] M
        refine eg_iload_n 3 dX11_pansGo_83 rfl rfl ?_
        refine eg_iconst dX11_pansGo_84 ic_2 ?_
        refine eg_iadd dX11_pansGo_85 ?_
        refine eg_aload_n 1 dX11_pansGo_86 rfl rfl ?_
        refine eg_getR dX11_pansGo_87 fl_11_69 rfl rfl (obM_60 z1) ?_
        show eg_W κ gM mtX11_pansGo d (eQV κ gM post) 90 [(3, vI s0), (0, vR (60, 0)), (1, vI l1), (2, vI l2)] [vR (110, 0), vI (l2 + (2 : Int32)), vR (110, 0)] M
        refine eg_iconst dX11_pansGo_90 ic_0 ?_
        refine eg_iaload dX11_pansGo_91 (arM_110 z1 g5) ?_
        refine eg_aload_n 1 dX11_pansGo_92 rfl rfl ?_
        refine eg_iload_n 2 dX11_pansGo_93 rfl rfl ?_
        refine eg_iconst dX11_pansGo_94 ic_3 ?_
        obtain ⟨g7, h⟩ := h
        refine eg_callVI (av := [vI l1, vI (3 : Int32)]) (st := [vI (M.1 (110, 0) (0 : Int32).toNatClampNeg), vI (l2 + (2 : Int32)), vR (110, 0)]) dX11_pansGo_95 ml_11_366 rfl rfl (obM_60 z1) (by decide) rfl (Nat.le_of_ble_eq_true rfl) (eg_dd (by omega)) (sX11_has (by omega) M l1 (3 : Int32)  g7) (fun x9 M8 hp => ?_)
        obtain ⟨ex9, eM8⟩ := hp
        rw [eM8]
        have h := h x9 ex9
        refine eg_iadd dX11_pansGo_98 ?_
        refine en_iastore dX11_pansGo_99 (arM_110 z1 g3) (fun M10 eM10 => ?_)
        have h := h M10 eM10
        refine eg_sub [1, 2, 3] rfl ?_
        exact h
set_option maxRecDepth 10000 in
theorem vX11_pansGo_100 {κ : eg_K} {d : Nat} {post : eg_H → Prop} (M : eg_H) (l1 : Int32) (l2 : Int32) (h : (vp_in (l2 + (1 : Int32)) 366 ∧ (∀ M2 : eg_H, M2 = (sI M (110, 0) (l2 + (1 : Int32)).toNatClampNeg ((M.1 (110, 0) (l2 + (1 : Int32)).toNatClampNeg) + (1 : Int32))) → (vp_in (l2 + (5 : Int32)) 366 ∧ (vp_in l2 366 ∧ (∀ x5 : Int32, x5 = ((if (¬ (M2.1 (110, 0) l2.toNatClampNeg) = 0) then (0 : Int32) else (1 : Int32))) → (∀ M6 : eg_H, M6 = (sI M2 (110, 0) (l2 + (5 : Int32)).toNatClampNeg ((M2.1 (110, 0) (l2 + (5 : Int32)).toNatClampNeg) + x5)) → (∀ x7 : Int32, x7 = (l1 + (1 : Int32)) → eg_W κ gM mtX11_pansGo d (eQV κ gM post) 2 [(0, vR (60, 0)), (1, vI x7)] [] M6)))))))) : eg_W κ gM mtX11_pansGo d (eQV κ gM post) 100 [(0, vR (60, 0)), (1, vI l1), (2, vI l2)] [] M := by
  refine eg_aload_n 0 dX11_pansGo_100 rfl rfl ?_
  refine eg_getR dX11_pansGo_101 fl_11_69 rfl rfl (obM_60 z1) ?_
  show eg_W κ gM mtX11_pansGo d (eQV κ gM post) 104 [(0, vR (60, 0)), (1, vI l1), (2, vI l2)] [vR (110, 0)] M
  refine eg_iload_n 2 dX11_pansGo_104 rfl rfl ?_
  refine eg_iconst dX11_pansGo_105 ic_1 ?_
  refine eg_iadd dX11_pansGo_106 ?_
  refine eg_dup2 dX11_pansGo_107 rfl rfl ?_
  obtain ⟨g1, h⟩ := h
  refine eg_iaload dX11_pansGo_108 (arM_110 z1 g1) ?_
  refine eg_iconst dX11_pansGo_109 ic_1 ?_
  refine eg_iadd dX11_pansGo_110 ?_
  refine en_iastore dX11_pansGo_111 (arM_110 z1 g1) (fun M2 eM2 => ?_)
  have h := h M2 eM2
  refine eg_aload_n 0 dX11_pansGo_112 rfl rfl ?_
  refine eg_getR dX11_pansGo_113 fl_11_69 rfl rfl (obM_60 z1) ?_
  show eg_W κ gM mtX11_pansGo d (eQV κ gM post) 116 [(0, vR (60, 0)), (1, vI l1), (2, vI l2)] [vR (110, 0)] M2
  refine eg_iload_n 2 dX11_pansGo_116 rfl rfl ?_
  refine eg_iconst dX11_pansGo_117 ic_5 ?_
  refine eg_iadd dX11_pansGo_118 ?_
  refine eg_dup2 dX11_pansGo_119 rfl rfl ?_
  obtain ⟨g3, h⟩ := h
  refine eg_iaload dX11_pansGo_120 (arM_110 z1 g3) ?_
  refine eg_aload_n 0 dX11_pansGo_121 rfl rfl ?_
  refine eg_getR dX11_pansGo_122 fl_11_69 rfl rfl (obM_60 z1) ?_
  show eg_W κ gM mtX11_pansGo d (eQV κ gM post) 125 [(0, vR (60, 0)), (1, vI l1), (2, vI l2)] [vR (110, 0), vI (M2.1 (110, 0) (l2 + (5 : Int32)).toNatClampNeg), vI (l2 + (5 : Int32)), vR (110, 0)] M2
  refine eg_iload_n 2 dX11_pansGo_125 rfl rfl ?_
  obtain ⟨g4, h⟩ := h
  refine eg_iaload dX11_pansGo_126 (arM_110 z1 g4) ?_
  have J : ∀ x5 : Int32, x5 = (if (¬ (M2.1 (110, 0) l2.toNatClampNeg) = 0) then (0 : Int32) else (1 : Int32)) → eg_W κ gM mtX11_pansGo d (eQV κ gM post) 135 [(0, vR (60, 0)), (1, vI l1), (2, vI l2)] [vI x5, vI (M2.1 (110, 0) (l2 + (5 : Int32)).toNatClampNeg), vI (l2 + (5 : Int32)), vR (110, 0)] M2 := by
    intro x5 ex5
    have h := h x5 ex5
    refine eg_iadd dX11_pansGo_135 ?_
    refine en_iastore dX11_pansGo_136 (arM_110 z1 g3) (fun M6 eM6 => ?_)
    have h := h M6 eM6
    refine en_iinc (f := fun x7 => [(1, vI x7), (0, vR (60, 0)), (2, vI l2)]) 1 dX11_pansGo_137 rfl rfl (by decide) rfl (fun x7 ex7 => ?_)
    have h := h x7 ex7
    refine eg_goto (tgt := 2) dX11_pansGo_140 rfl ?_
    refine eg_sub [1, 0] rfl ?_
    exact h
  clear h
  refine eg_if_ne (tgt := 134) dX11_pansGo_127 rfl (fun c8 => ?_) (fun c8 => ?_)
  · refine eg_iconst dX11_pansGo_134 ic_0 ?_
    exact J _ (by rw [if_pos c8])
  · have c9 : ¬ (¬ (M2.1 (110, 0) l2.toNatClampNeg) = 0) := fun z => z c8
    refine eg_iconst dX11_pansGo_130 ic_1 ?_
    refine eg_goto (tgt := 135) dX11_pansGo_131 rfl ?_
    exact J _ (by rw [if_neg c9])
theorem dX11_clears_0 : decode cX11_clears 0 = .ok (.aload_n 0, 1) := by decide +kernel
theorem dX11_clears_1 : decode cX11_clears 1 = .ok (.iconst (-1), 1) := by decide +kernel
theorem dX11_clears_2 : decode cX11_clears 2 = .ok (.putfield 339, 3) := by decide +kernel
theorem dX11_clears_5 : decode cX11_clears 5 = .ok (.aload_n 0, 1) := by decide +kernel
theorem dX11_clears_6 : decode cX11_clears 6 = .ok (.iconst (-1), 1) := by decide +kernel
theorem dX11_clears_7 : decode cX11_clears 7 = .ok (.putfield 342, 3) := by decide +kernel
theorem dX11_clears_10 : decode cX11_clears 10 = .ok (.aload_n 0, 1) := by decide +kernel
theorem dX11_clears_11 : decode cX11_clears 11 = .ok (.iconst (-1), 1) := by decide +kernel
theorem dX11_clears_12 : decode cX11_clears 12 = .ok (.putfield 345, 3) := by decide +kernel
theorem dX11_clears_15 : decode cX11_clears 15 = .ok (.aload_n 0, 1) := by decide +kernel
theorem dX11_clears_16 : decode cX11_clears 16 = .ok (.iconst (-1), 1) := by decide +kernel
theorem dX11_clears_17 : decode cX11_clears 17 = .ok (.putfield 348, 3) := by decide +kernel
theorem dX11_clears_20 : decode cX11_clears 20 = .ok (.aload_n 0, 1) := by decide +kernel
theorem dX11_clears_21 : decode cX11_clears 21 = .ok (.iconst 0, 1) := by decide +kernel
theorem dX11_clears_22 : decode cX11_clears 22 = .ok (.putfield 351, 3) := by decide +kernel
theorem dX11_clears_25 : decode cX11_clears 25 = .ok (.aload_n 0, 1) := by decide +kernel
theorem dX11_clears_26 : decode cX11_clears 26 = .ok (.aload_n 0, 1) := by decide +kernel
theorem dX11_clears_27 : decode cX11_clears 27 = .ok (.getfield 221, 3) := by decide +kernel
theorem dX11_clears_30 : decode cX11_clears 30 = .ok (.putfield 354, 3) := by decide +kernel
theorem dX11_clears_33 : decode cX11_clears 33 = .ok (.aload_n 0, 1) := by decide +kernel
theorem dX11_clears_34 : decode cX11_clears 34 = .ok (.iconst 0, 1) := by decide +kernel
theorem dX11_clears_35 : decode cX11_clears 35 = .ok (.putfield 357, 3) := by decide +kernel
theorem dX11_clears_38 : decode cX11_clears 38 = .ok (.aload_n 0, 1) := by decide +kernel
theorem dX11_clears_39 : decode cX11_clears 39 = .ok (.iconst (-1), 1) := by decide +kernel
theorem dX11_clears_40 : decode cX11_clears 40 = .ok (.putfield 360, 3) := by decide +kernel
theorem dX11_clears_43 : decode cX11_clears 43 = .ok (.iconst 0, 1) := by decide +kernel
theorem dX11_clears_44 : decode cX11_clears 44 = .ok (.istore_n 1, 1) := by decide +kernel
theorem dX11_clears_45 : decode cX11_clears 45 = .ok (.iload_n 1, 1) := by decide +kernel
theorem dX11_clears_46 : decode cX11_clears 46 = .ok (.bipush 15, 2) := by decide +kernel
theorem dX11_clears_48 : decode cX11_clears 48 = .ok (.if_icmp .ge 16, 3) := by decide +kernel
theorem dX11_clears_51 : decode cX11_clears 51 = .ok (.aload_n 0, 1) := by decide +kernel
theorem dX11_clears_52 : decode cX11_clears 52 = .ok (.getfield 78, 3) := by decide +kernel
theorem dX11_clears_55 : decode cX11_clears 55 = .ok (.iload_n 1, 1) := by decide +kernel
theorem dX11_clears_56 : decode cX11_clears 56 = .ok (.iconst 0, 1) := by decide +kernel
theorem dX11_clears_57 : decode cX11_clears 57 = .ok (.iastore, 1) := by decide +kernel
theorem dX11_clears_58 : decode cX11_clears 58 = .ok (.iinc 1 1, 3) := by decide +kernel
theorem dX11_clears_61 : decode cX11_clears 61 = .ok (.goto (-16), 3) := by decide +kernel
theorem dX11_clears_64 : decode cX11_clears 64 = .ok (.iconst 0, 1) := by decide +kernel
theorem dX11_clears_65 : decode cX11_clears 65 = .ok (.istore_n 1, 1) := by decide +kernel
theorem dX11_clears_66 : decode cX11_clears 66 = .ok (.iload_n 1, 1) := by decide +kernel
theorem dX11_clears_67 : decode cX11_clears 67 = .ok (.iconst 5, 1) := by decide +kernel
theorem dX11_clears_68 : decode cX11_clears 68 = .ok (.if_icmp .ge 21, 3) := by decide +kernel
theorem dX11_clears_71 : decode cX11_clears 71 = .ok (.aload_n 0, 1) := by decide +kernel
theorem dX11_clears_72 : decode cX11_clears 72 = .ok (.getfield 81, 3) := by decide +kernel
theorem dX11_clears_75 : decode cX11_clears 75 = .ok (.iload_n 1, 1) := by decide +kernel
theorem dX11_clears_76 : decode cX11_clears 76 = .ok (.aload_n 0, 1) := by decide +kernel
theorem dX11_clears_77 : decode cX11_clears 77 = .ok (.getfield 75, 3) := by decide +kernel
theorem dX11_clears_80 : decode cX11_clears 80 = .ok (.iload_n 1, 1) := by decide +kernel
theorem dX11_clears_81 : decode cX11_clears 81 = .ok (.iaload, 1) := by decide +kernel
theorem dX11_clears_82 : decode cX11_clears 82 = .ok (.iastore, 1) := by decide +kernel
theorem dX11_clears_83 : decode cX11_clears 83 = .ok (.iinc 1 1, 3) := by decide +kernel
theorem dX11_clears_86 : decode cX11_clears 86 = .ok (.goto (-20), 3) := by decide +kernel
theorem dX11_clears_89 : decode cX11_clears 89 = .ok (.return_, 1) := by decide +kernel
set_option maxRecDepth 10000 in
theorem vX11_clears_0 {κ : eg_K} {d : Nat} {post : eg_H → Prop} (M : eg_H)  (h : (∀ M1 : eg_H, M1 = (sI M (60, 0) 52 (-1 : Int32)) → (∀ M2 : eg_H, M2 = (sI M1 (60, 0) 53 (-1 : Int32)) → (∀ M3 : eg_H, M3 = (sI M2 (60, 0) 55 (-1 : Int32)) → (∀ M4 : eg_H, M4 = (sI M3 (60, 0) 57 (-1 : Int32)) → (∀ M5 : eg_H, M5 = (sI M4 (60, 0) 59 (0 : Int32)) → (((M5.1 (60, 0) 16) = 0 ∨ (M5.1 (60, 0) 16) = 1) ∧ (∀ M6 : eg_H, M6 = (sI M5 (60, 0) 60 (M5.1 (60, 0) 16)) → (∀ M8 : eg_H, M8 = (sI M6 (60, 0) 61 (0 : Int32)) → (∀ M9 : eg_H, M9 = (sI M8 (60, 0) 62 (-1 : Int32)) → eg_W κ gM mtX11_clears d (eQV κ gM post) 45 [(0, vR (60, 0)), (1, vI (0 : Int32))] [] M9)))))))))) : eg_W κ gM mtX11_clears d (eQV κ gM post) 0 [(0, vR (60, 0))] [] M := by
  refine eg_aload_n 0 dX11_clears_0 rfl rfl ?_
  refine eg_iconst dX11_clears_1 ic_m1 ?_
  refine en_putI dX11_clears_2 fl_11_339 rfl rfl (obM_60 z1) (fun M1 eM1 => ?_)
  have h := h M1 eM1
  refine eg_aload_n 0 dX11_clears_5 rfl rfl ?_
  refine eg_iconst dX11_clears_6 ic_m1 ?_
  refine en_putI dX11_clears_7 fl_11_342 rfl rfl (obM_60 z1) (fun M2 eM2 => ?_)
  have h := h M2 eM2
  refine eg_aload_n 0 dX11_clears_10 rfl rfl ?_
  refine eg_iconst dX11_clears_11 ic_m1 ?_
  refine en_putI dX11_clears_12 fl_11_345 rfl rfl (obM_60 z1) (fun M3 eM3 => ?_)
  have h := h M3 eM3
  refine eg_aload_n 0 dX11_clears_15 rfl rfl ?_
  refine eg_iconst dX11_clears_16 ic_m1 ?_
  refine en_putI dX11_clears_17 fl_11_348 rfl rfl (obM_60 z1) (fun M4 eM4 => ?_)
  have h := h M4 eM4
  refine eg_aload_n 0 dX11_clears_20 rfl rfl ?_
  refine eg_iconst dX11_clears_21 ic_0 ?_
  refine en_putI dX11_clears_22 fl_11_351 rfl rfl (obM_60 z1) (fun M5 eM5 => ?_)
  have h := h M5 eM5
  refine eg_aload_n 0 dX11_clears_25 rfl rfl ?_
  refine eg_aload_n 0 dX11_clears_26 rfl rfl ?_
  refine eg_getI dX11_clears_27 fl_11_221 rfl trivial (obM_60 z1) ?_
  obtain ⟨g7, h⟩ := h
  refine en_putZ dX11_clears_30 fl_11_354 rfl rfl g7 (obM_60 z1) (fun M6 eM6 => ?_)
  have h := h M6 eM6
  refine eg_aload_n 0 dX11_clears_33 rfl rfl ?_
  refine eg_iconst dX11_clears_34 ic_0 ?_
  refine en_putI dX11_clears_35 fl_11_357 rfl rfl (obM_60 z1) (fun M8 eM8 => ?_)
  have h := h M8 eM8
  refine eg_aload_n 0 dX11_clears_38 rfl rfl ?_
  refine eg_iconst dX11_clears_39 ic_m1 ?_
  refine en_putI dX11_clears_40 fl_11_360 rfl rfl (obM_60 z1) (fun M9 eM9 => ?_)
  have h := h M9 eM9
  refine eg_iconst dX11_clears_43 ic_0 ?_
  refine eg_istore_n dX11_clears_44 rfl (by decide) (ls1 := [(1, vI (0 : Int32)), (0, vR (60, 0))]) rfl ?_
  refine eg_sub [1, 0] rfl ?_
  exact h
set_option maxRecDepth 10000 in
theorem vX11_clears_45 {κ : eg_K} {d : Nat} {post : eg_H → Prop} (M : eg_H) (l1 : Int32) (h : ((15 : Int32) ≤ l1 → eg_W κ gM mtX11_clears d (eQV κ gM post) 66 [(0, vR (60, 0)), (1, vI (0 : Int32))] [] M) ∧ ((¬ (15 : Int32) ≤ l1) → (vp_in l1 15 ∧ (∀ M3 : eg_H, M3 = (sI M (125, 0) l1.toNatClampNeg (0 : Int32)) → (∀ x4 : Int32, x4 = (l1 + (1 : Int32)) → eg_W κ gM mtX11_clears d (eQV κ gM post) 45 [(0, vR (60, 0)), (1, vI x4)] [] M3))))) : eg_W κ gM mtX11_clears d (eQV κ gM post) 45 [(0, vR (60, 0)), (1, vI l1)] [] M := by
  refine eg_iload_n 1 dX11_clears_45 rfl rfl ?_
  refine eg_bipush dX11_clears_46 bp_15 ?_
  refine eg_icmp_ge (tgt := 64) dX11_clears_48 rfl (fun c1 => ?_) (fun c1 => ?_)
  · have h := h.1 c1
    refine eg_iconst dX11_clears_64 ic_0 ?_
    refine eg_istore_n dX11_clears_65 rfl (by decide) (ls1 := [(1, vI (0 : Int32)), (0, vR (60, 0))]) rfl ?_
    refine eg_sub [1, 0] rfl ?_
    exact h
  · have h := h.2 c1
    refine eg_aload_n 0 dX11_clears_51 rfl rfl ?_
    refine eg_getR dX11_clears_52 fl_11_78 rfl rfl (obM_60 z1) ?_
    show eg_W κ gM mtX11_clears d (eQV κ gM post) 55 [(0, vR (60, 0)), (1, vI l1)] [vR (125, 0)] M
    refine eg_iload_n 1 dX11_clears_55 rfl rfl ?_
    refine eg_iconst dX11_clears_56 ic_0 ?_
    obtain ⟨g2, h⟩ := h
    refine en_iastore dX11_clears_57 (arM_125 z1 g2) (fun M3 eM3 => ?_)
    have h := h M3 eM3
    refine en_iinc (f := fun x4 => [(1, vI x4), (0, vR (60, 0))]) 1 dX11_clears_58 rfl rfl (by decide) rfl (fun x4 ex4 => ?_)
    have h := h x4 ex4
    refine eg_goto (tgt := 45) dX11_clears_61 rfl ?_
    refine eg_sub [1, 0] rfl ?_
    exact h
set_option maxRecDepth 10000 in
theorem vX11_clears_66 {κ : eg_K} {d : Nat} {post : eg_H → Prop} (M : eg_H) (l1 : Int32) (h : ((5 : Int32) ≤ l1 → post M) ∧ ((¬ (5 : Int32) ≤ l1) → (vp_in l1 5 ∧ (∀ M3 : eg_H, M3 = (sI M (126, 0) l1.toNatClampNeg (M.1 (112, 0) l1.toNatClampNeg)) → (∀ x4 : Int32, x4 = (l1 + (1 : Int32)) → eg_W κ gM mtX11_clears d (eQV κ gM post) 66 [(0, vR (60, 0)), (1, vI x4)] [] M3))))) : eg_W κ gM mtX11_clears d (eQV κ gM post) 66 [(0, vR (60, 0)), (1, vI l1)] [] M := by
  refine eg_iload_n 1 dX11_clears_66 rfl rfl ?_
  refine eg_iconst dX11_clears_67 ic_5 ?_
  refine eg_icmp_ge (tgt := 89) dX11_clears_68 rfl (fun c1 => ?_) (fun c1 => ?_)
  · have h := h.1 c1
    exact eg_vreturn dX11_clears_89 rfl h
  · have h := h.2 c1
    refine eg_aload_n 0 dX11_clears_71 rfl rfl ?_
    refine eg_getR dX11_clears_72 fl_11_81 rfl rfl (obM_60 z1) ?_
    show eg_W κ gM mtX11_clears d (eQV κ gM post) 75 [(0, vR (60, 0)), (1, vI l1)] [vR (126, 0)] M
    refine eg_iload_n 1 dX11_clears_75 rfl rfl ?_
    refine eg_aload_n 0 dX11_clears_76 rfl rfl ?_
    refine eg_getR dX11_clears_77 fl_11_75 rfl rfl (obM_60 z1) ?_
    show eg_W κ gM mtX11_clears d (eQV κ gM post) 80 [(0, vR (60, 0)), (1, vI l1)] [vR (112, 0), vI l1, vR (126, 0)] M
    refine eg_iload_n 1 dX11_clears_80 rfl rfl ?_
    obtain ⟨g2, h⟩ := h
    refine eg_iaload dX11_clears_81 (arM_112 z1 g2) ?_
    refine en_iastore dX11_clears_82 (arM_126 z1 g2) (fun M3 eM3 => ?_)
    have h := h M3 eM3
    refine en_iinc (f := fun x4 => [(1, vI x4), (0, vR (60, 0))]) 1 dX11_clears_83 rfl rfl (by decide) rfl (fun x4 ex4 => ?_)
    have h := h x4 ex4
    refine eg_goto (tgt := 66) dX11_clears_86 rfl ?_
    refine eg_sub [1, 0] rfl ?_
    exact h
theorem dX11_begins_0 : decode cX11_begins 0 = .ok (.iconst 0, 1) := by decide +kernel
theorem dX11_begins_1 : decode cX11_begins 1 = .ok (.istore_n 1, 1) := by decide +kernel
theorem dX11_begins_2 : decode cX11_begins 2 = .ok (.iload_n 1, 1) := by decide +kernel
theorem dX11_begins_3 : decode cX11_begins 3 = .ok (.sipush 366, 3) := by decide +kernel
theorem dX11_begins_6 : decode cX11_begins 6 = .ok (.if_icmp .ge 16, 3) := by decide +kernel
theorem dX11_begins_9 : decode cX11_begins 9 = .ok (.aload_n 0, 1) := by decide +kernel
theorem dX11_begins_10 : decode cX11_begins 10 = .ok (.getfield 69, 3) := by decide +kernel
theorem dX11_begins_13 : decode cX11_begins 13 = .ok (.iload_n 1, 1) := by decide +kernel
theorem dX11_begins_14 : decode cX11_begins 14 = .ok (.iconst 0, 1) := by decide +kernel
theorem dX11_begins_15 : decode cX11_begins 15 = .ok (.iastore, 1) := by decide +kernel
theorem dX11_begins_16 : decode cX11_begins 16 = .ok (.iinc 1 1, 3) := by decide +kernel
theorem dX11_begins_19 : decode cX11_begins 19 = .ok (.goto (-17), 3) := by decide +kernel
theorem dX11_begins_22 : decode cX11_begins 22 = .ok (.iconst 0, 1) := by decide +kernel
theorem dX11_begins_23 : decode cX11_begins 23 = .ok (.istore_n 1, 1) := by decide +kernel
theorem dX11_begins_24 : decode cX11_begins 24 = .ok (.iload_n 1, 1) := by decide +kernel
theorem dX11_begins_25 : decode cX11_begins 25 = .ok (.aload_n 0, 1) := by decide +kernel
theorem dX11_begins_26 : decode cX11_begins 26 = .ok (.invokevirtual 369, 3) := by decide +kernel
theorem dX11_begins_29 : decode cX11_begins 29 = .ok (.if_icmp .ge 148, 3) := by decide +kernel
theorem dX11_begins_32 : decode cX11_begins 32 = .ok (.iload_n 1, 1) := by decide +kernel
theorem dX11_begins_33 : decode cX11_begins 33 = .ok (.invokestatic 372, 3) := by decide +kernel
theorem dX11_begins_36 : decode cX11_begins 36 = .ok (.istore_n 2, 1) := by decide +kernel
theorem dX11_begins_37 : decode cX11_begins 37 = .ok (.aload_n 0, 1) := by decide +kernel
theorem dX11_begins_38 : decode cX11_begins 38 = .ok (.getfield 29, 3) := by decide +kernel
theorem dX11_begins_41 : decode cX11_begins 41 = .ok (.iload_n 1, 1) := by decide +kernel
theorem dX11_begins_42 : decode cX11_begins 42 = .ok (.iaload, 1) := by decide +kernel
theorem dX11_begins_43 : decode cX11_begins 43 = .ok (.aload_n 0, 1) := by decide +kernel
theorem dX11_begins_44 : decode cX11_begins 44 = .ok (.getfield 78, 3) := by decide +kernel
theorem dX11_begins_47 : decode cX11_begins 47 = .ok (.iload_n 1, 1) := by decide +kernel
theorem dX11_begins_48 : decode cX11_begins 48 = .ok (.iaload, 1) := by decide +kernel
theorem dX11_begins_49 : decode cX11_begins 49 = .ok (.iadd, 1) := by decide +kernel
theorem dX11_begins_50 : decode cX11_begins 50 = .ok (.istore_n 3, 1) := by decide +kernel
theorem dX11_begins_51 : decode cX11_begins 51 = .ok (.aload_n 0, 1) := by decide +kernel
theorem dX11_begins_52 : decode cX11_begins 52 = .ok (.getfield 69, 3) := by decide +kernel
theorem dX11_begins_55 : decode cX11_begins 55 = .ok (.iload_n 2, 1) := by decide +kernel
theorem dX11_begins_56 : decode cX11_begins 56 = .ok (.iload_n 1, 1) := by decide +kernel
theorem dX11_begins_57 : decode cX11_begins 57 = .ok (.aload_n 0, 1) := by decide +kernel
theorem dX11_begins_58 : decode cX11_begins 58 = .ok (.getfield 339, 3) := by decide +kernel
theorem dX11_begins_61 : decode cX11_begins 61 = .ok (.if_icmp .ne 7, 3) := by decide +kernel
theorem dX11_begins_64 : decode cX11_begins 64 = .ok (.iconst 3, 1) := by decide +kernel
theorem dX11_begins_65 : decode cX11_begins 65 = .ok (.goto 4, 3) := by decide +kernel
theorem dX11_begins_68 : decode cX11_begins 68 = .ok (.iconst 0, 1) := by decide +kernel
theorem dX11_begins_69 : decode cX11_begins 69 = .ok (.iastore, 1) := by decide +kernel
theorem dX11_begins_70 : decode cX11_begins 70 = .ok (.aload_n 0, 1) := by decide +kernel
theorem dX11_begins_71 : decode cX11_begins 71 = .ok (.getfield 69, 3) := by decide +kernel
theorem dX11_begins_74 : decode cX11_begins 74 = .ok (.iload_n 2, 1) := by decide +kernel
theorem dX11_begins_75 : decode cX11_begins 75 = .ok (.iconst 1, 1) := by decide +kernel
theorem dX11_begins_76 : decode cX11_begins 76 = .ok (.iadd, 1) := by decide +kernel
theorem dX11_begins_77 : decode cX11_begins 77 = .ok (.iconst (-1), 1) := by decide +kernel
theorem dX11_begins_78 : decode cX11_begins 78 = .ok (.iastore, 1) := by decide +kernel
theorem dX11_begins_79 : decode cX11_begins 79 = .ok (.aload_n 0, 1) := by decide +kernel
theorem dX11_begins_80 : decode cX11_begins 80 = .ok (.getfield 69, 3) := by decide +kernel
theorem dX11_begins_83 : decode cX11_begins 83 = .ok (.iload_n 2, 1) := by decide +kernel
theorem dX11_begins_84 : decode cX11_begins 84 = .ok (.iconst 2, 1) := by decide +kernel
theorem dX11_begins_85 : decode cX11_begins 85 = .ok (.iadd, 1) := by decide +kernel
theorem dX11_begins_86 : decode cX11_begins 86 = .ok (.aload_n 0, 1) := by decide +kernel
theorem dX11_begins_87 : decode cX11_begins 87 = .ok (.iload_n 1, 1) := by decide +kernel
theorem dX11_begins_88 : decode cX11_begins 88 = .ok (.invokevirtual 374, 3) := by decide +kernel
theorem dX11_begins_91 : decode cX11_begins 91 = .ok (.iastore, 1) := by decide +kernel
theorem dX11_begins_92 : decode cX11_begins 92 = .ok (.aload_n 0, 1) := by decide +kernel
theorem dX11_begins_93 : decode cX11_begins 93 = .ok (.getfield 69, 3) := by decide +kernel
theorem dX11_begins_96 : decode cX11_begins 96 = .ok (.iload_n 2, 1) := by decide +kernel
theorem dX11_begins_97 : decode cX11_begins 97 = .ok (.bipush 11, 2) := by decide +kernel
theorem dX11_begins_99 : decode cX11_begins 99 = .ok (.iadd, 1) := by decide +kernel
theorem dX11_begins_100 : decode cX11_begins 100 = .ok (.iload_n 3, 1) := by decide +kernel
theorem dX11_begins_101 : decode cX11_begins 101 = .ok (.sipush 3599, 3) := by decide +kernel
theorem dX11_begins_104 : decode cX11_begins 104 = .ok (.if_icmp .le 9, 3) := by decide +kernel
theorem dX11_begins_107 : decode cX11_begins 107 = .ok (.sipush 3599, 3) := by decide +kernel
theorem dX11_begins_110 : decode cX11_begins 110 = .ok (.goto 4, 3) := by decide +kernel
theorem dX11_begins_113 : decode cX11_begins 113 = .ok (.iload_n 3, 1) := by decide +kernel
theorem dX11_begins_114 : decode cX11_begins 114 = .ok (.iastore, 1) := by decide +kernel
theorem dX11_begins_115 : decode cX11_begins 115 = .ok (.aload_n 0, 1) := by decide +kernel
theorem dX11_begins_116 : decode cX11_begins 116 = .ok (.getfield 69, 3) := by decide +kernel
theorem dX11_begins_119 : decode cX11_begins 119 = .ok (.iload_n 2, 1) := by decide +kernel
theorem dX11_begins_120 : decode cX11_begins 120 = .ok (.bipush 12, 2) := by decide +kernel
theorem dX11_begins_122 : decode cX11_begins 122 = .ok (.iadd, 1) := by decide +kernel
theorem dX11_begins_123 : decode cX11_begins 123 = .ok (.aload_n 0, 1) := by decide +kernel
theorem dX11_begins_124 : decode cX11_begins 124 = .ok (.getfield 69, 3) := by decide +kernel
theorem dX11_begins_127 : decode cX11_begins 127 = .ok (.iload_n 2, 1) := by decide +kernel
theorem dX11_begins_128 : decode cX11_begins 128 = .ok (.bipush 11, 2) := by decide +kernel
theorem dX11_begins_130 : decode cX11_begins 130 = .ok (.iadd, 1) := by decide +kernel
theorem dX11_begins_131 : decode cX11_begins 131 = .ok (.iaload, 1) := by decide +kernel
theorem dX11_begins_132 : decode cX11_begins 132 = .ok (.iastore, 1) := by decide +kernel
theorem dX11_begins_133 : decode cX11_begins 133 = .ok (.iconst 0, 1) := by decide +kernel
theorem dX11_begins_134 : decode cX11_begins 134 = .ok (.istore 4, 2) := by decide +kernel
theorem dX11_begins_136 : decode cX11_begins 136 = .ok (.iload 4, 2) := by decide +kernel
theorem dX11_begins_138 : decode cX11_begins 138 = .ok (.iconst 5, 1) := by decide +kernel
theorem dX11_begins_139 : decode cX11_begins 139 = .ok (.if_icmp .ge 32, 3) := by decide +kernel
theorem dX11_begins_142 : decode cX11_begins 142 = .ok (.aload_n 0, 1) := by decide +kernel
theorem dX11_begins_143 : decode cX11_begins 143 = .ok (.getfield 69, 3) := by decide +kernel
theorem dX11_begins_146 : decode cX11_begins 146 = .ok (.iload_n 2, 1) := by decide +kernel
theorem dX11_begins_147 : decode cX11_begins 147 = .ok (.bipush 14, 2) := by decide +kernel
theorem dX11_begins_149 : decode cX11_begins 149 = .ok (.iadd, 1) := by decide +kernel
theorem dX11_begins_150 : decode cX11_begins 150 = .ok (.iload 4, 2) := by decide +kernel
theorem dX11_begins_152 : decode cX11_begins 152 = .ok (.iadd, 1) := by decide +kernel
theorem dX11_begins_153 : decode cX11_begins 153 = .ok (.aload_n 0, 1) := by decide +kernel
theorem dX11_begins_154 : decode cX11_begins 154 = .ok (.getfield 35, 3) := by decide +kernel
theorem dX11_begins_157 : decode cX11_begins 157 = .ok (.iconst 5, 1) := by decide +kernel
theorem dX11_begins_158 : decode cX11_begins 158 = .ok (.iload_n 1, 1) := by decide +kernel
theorem dX11_begins_159 : decode cX11_begins 159 = .ok (.imul, 1) := by decide +kernel
theorem dX11_begins_160 : decode cX11_begins 160 = .ok (.iload 4, 2) := by decide +kernel
theorem dX11_begins_162 : decode cX11_begins 162 = .ok (.iadd, 1) := by decide +kernel
theorem dX11_begins_163 : decode cX11_begins 163 = .ok (.iaload, 1) := by decide +kernel
theorem dX11_begins_164 : decode cX11_begins 164 = .ok (.iastore, 1) := by decide +kernel
theorem dX11_begins_165 : decode cX11_begins 165 = .ok (.iinc 4 1, 3) := by decide +kernel
theorem dX11_begins_168 : decode cX11_begins 168 = .ok (.goto (-32), 3) := by decide +kernel
theorem dX11_begins_171 : decode cX11_begins 171 = .ok (.iinc 1 1, 3) := by decide +kernel
theorem dX11_begins_174 : decode cX11_begins 174 = .ok (.goto (-150), 3) := by decide +kernel
theorem dX11_begins_177 : decode cX11_begins 177 = .ok (.iconst 0, 1) := by decide +kernel
theorem dX11_begins_178 : decode cX11_begins 178 = .ok (.istore_n 1, 1) := by decide +kernel
theorem dX11_begins_179 : decode cX11_begins 179 = .ok (.iload_n 1, 1) := by decide +kernel
theorem dX11_begins_180 : decode cX11_begins 180 = .ok (.aload_n 0, 1) := by decide +kernel
theorem dX11_begins_181 : decode cX11_begins 181 = .ok (.getfield 209, 3) := by decide +kernel
theorem dX11_begins_184 : decode cX11_begins 184 = .ok (.if_icmp .ge 48, 3) := by decide +kernel
theorem dX11_begins_187 : decode cX11_begins 187 = .ok (.aload_n 0, 1) := by decide +kernel
theorem dX11_begins_188 : decode cX11_begins 188 = .ok (.getfield 69, 3) := by decide +kernel
theorem dX11_begins_191 : decode cX11_begins 191 = .ok (.iload_n 1, 1) := by decide +kernel
theorem dX11_begins_192 : decode cX11_begins 192 = .ok (.invokestatic 377, 3) := by decide +kernel
theorem dX11_begins_195 : decode cX11_begins 195 = .ok (.aload_n 0, 1) := by decide +kernel
theorem dX11_begins_196 : decode cX11_begins 196 = .ok (.iload_n 1, 1) := by decide +kernel
theorem dX11_begins_197 : decode cX11_begins 197 = .ok (.iconst 2, 1) := by decide +kernel
theorem dX11_begins_198 : decode cX11_begins 198 = .ok (.invokevirtual 366, 3) := by decide +kernel
theorem dX11_begins_201 : decode cX11_begins 201 = .ok (.ifCond .ge 7, 3) := by decide +kernel
theorem dX11_begins_204 : decode cX11_begins 204 = .ok (.iconst 0, 1) := by decide +kernel
theorem dX11_begins_205 : decode cX11_begins 205 = .ok (.goto 8, 3) := by decide +kernel
theorem dX11_begins_208 : decode cX11_begins 208 = .ok (.aload_n 0, 1) := by decide +kernel
theorem dX11_begins_209 : decode cX11_begins 209 = .ok (.iload_n 1, 1) := by decide +kernel
theorem dX11_begins_210 : decode cX11_begins 210 = .ok (.invokevirtual 380, 3) := by decide +kernel
theorem dX11_begins_213 : decode cX11_begins 213 = .ok (.iastore, 1) := by decide +kernel
theorem dX11_begins_214 : decode cX11_begins 214 = .ok (.aload_n 0, 1) := by decide +kernel
theorem dX11_begins_215 : decode cX11_begins 215 = .ok (.getfield 69, 3) := by decide +kernel
theorem dX11_begins_218 : decode cX11_begins 218 = .ok (.iload_n 1, 1) := by decide +kernel
theorem dX11_begins_219 : decode cX11_begins 219 = .ok (.invokestatic 377, 3) := by decide +kernel
theorem dX11_begins_222 : decode cX11_begins 222 = .ok (.iconst 2, 1) := by decide +kernel
theorem dX11_begins_223 : decode cX11_begins 223 = .ok (.iadd, 1) := by decide +kernel
theorem dX11_begins_224 : decode cX11_begins 224 = .ok (.iconst (-1), 1) := by decide +kernel
theorem dX11_begins_225 : decode cX11_begins 225 = .ok (.iastore, 1) := by decide +kernel
theorem dX11_begins_226 : decode cX11_begins 226 = .ok (.iinc 1 1, 3) := by decide +kernel
theorem dX11_begins_229 : decode cX11_begins 229 = .ok (.goto (-50), 3) := by decide +kernel
theorem dX11_begins_232 : decode cX11_begins 232 = .ok (.iconst 0, 1) := by decide +kernel
theorem dX11_begins_233 : decode cX11_begins 233 = .ok (.istore_n 1, 1) := by decide +kernel
theorem dX11_begins_234 : decode cX11_begins 234 = .ok (.iload_n 1, 1) := by decide +kernel
theorem dX11_begins_235 : decode cX11_begins 235 = .ok (.iconst 5, 1) := by decide +kernel
theorem dX11_begins_236 : decode cX11_begins 236 = .ok (.if_icmp .ge 25, 3) := by decide +kernel
theorem dX11_begins_239 : decode cX11_begins 239 = .ok (.aload_n 0, 1) := by decide +kernel
theorem dX11_begins_240 : decode cX11_begins 240 = .ok (.getfield 69, 3) := by decide +kernel
theorem dX11_begins_243 : decode cX11_begins 243 = .ok (.sipush 360, 3) := by decide +kernel
theorem dX11_begins_246 : decode cX11_begins 246 = .ok (.iload_n 1, 1) := by decide +kernel
theorem dX11_begins_247 : decode cX11_begins 247 = .ok (.iadd, 1) := by decide +kernel
theorem dX11_begins_248 : decode cX11_begins 248 = .ok (.aload_n 0, 1) := by decide +kernel
theorem dX11_begins_249 : decode cX11_begins 249 = .ok (.getfield 81, 3) := by decide +kernel
theorem dX11_begins_252 : decode cX11_begins 252 = .ok (.iload_n 1, 1) := by decide +kernel
theorem dX11_begins_253 : decode cX11_begins 253 = .ok (.iaload, 1) := by decide +kernel
theorem dX11_begins_254 : decode cX11_begins 254 = .ok (.iastore, 1) := by decide +kernel
theorem dX11_begins_255 : decode cX11_begins 255 = .ok (.iinc 1 1, 3) := by decide +kernel
theorem dX11_begins_258 : decode cX11_begins 258 = .ok (.goto (-24), 3) := by decide +kernel
theorem dX11_begins_261 : decode cX11_begins 261 = .ok (.return_, 1) := by decide +kernel
set_option maxRecDepth 10000 in
theorem vX11_begins_0 {κ : eg_K} {d : Nat} {post : eg_H → Prop} (M : eg_H)  (h : eg_W κ gM mtX11_begins d (eQV κ gM post) 2 [(0, vR (60, 0)), (1, vI (0 : Int32))] [] M) : eg_W κ gM mtX11_begins d (eQV κ gM post) 0 [(0, vR (60, 0))] [] M := by
  refine eg_iconst dX11_begins_0 ic_0 ?_
  refine eg_istore_n dX11_begins_1 rfl (by decide) (ls1 := [(1, vI (0 : Int32)), (0, vR (60, 0))]) rfl ?_
  refine eg_sub [1, 0] rfl ?_
  exact h
set_option maxRecDepth 10000 in
theorem vX11_begins_2 {κ : eg_K} {d : Nat} {post : eg_H → Prop} (M : eg_H) (l1 : Int32) (h : ((366 : Int32) ≤ l1 → eg_W κ gM mtX11_begins d (eQV κ gM post) 24 [(0, vR (60, 0)), (1, vI (0 : Int32))] [] M) ∧ ((¬ (366 : Int32) ≤ l1) → (vp_in l1 366 ∧ (∀ M3 : eg_H, M3 = (sI M (110, 0) l1.toNatClampNeg (0 : Int32)) → (∀ x4 : Int32, x4 = (l1 + (1 : Int32)) → eg_W κ gM mtX11_begins d (eQV κ gM post) 2 [(0, vR (60, 0)), (1, vI x4)] [] M3))))) : eg_W κ gM mtX11_begins d (eQV κ gM post) 2 [(0, vR (60, 0)), (1, vI l1)] [] M := by
  refine eg_iload_n 1 dX11_begins_2 rfl rfl ?_
  refine eg_sipush dX11_begins_3 sp_366 ?_
  refine eg_icmp_ge (tgt := 22) dX11_begins_6 rfl (fun c1 => ?_) (fun c1 => ?_)
  · have h := h.1 c1
    refine eg_iconst dX11_begins_22 ic_0 ?_
    refine eg_istore_n dX11_begins_23 rfl (by decide) (ls1 := [(1, vI (0 : Int32)), (0, vR (60, 0))]) rfl ?_
    refine eg_sub [1, 0] rfl ?_
    exact h
  · have h := h.2 c1
    refine eg_aload_n 0 dX11_begins_9 rfl rfl ?_
    refine eg_getR dX11_begins_10 fl_11_69 rfl rfl (obM_60 z1) ?_
    show eg_W κ gM mtX11_begins d (eQV κ gM post) 13 [(0, vR (60, 0)), (1, vI l1)] [vR (110, 0)] M
    refine eg_iload_n 1 dX11_begins_13 rfl rfl ?_
    refine eg_iconst dX11_begins_14 ic_0 ?_
    obtain ⟨g2, h⟩ := h
    refine en_iastore dX11_begins_15 (arM_110 z1 g2) (fun M3 eM3 => ?_)
    have h := h M3 eM3
    refine en_iinc (f := fun x4 => [(1, vI x4), (0, vR (60, 0))]) 1 dX11_begins_16 rfl rfl (by decide) rfl (fun x4 ex4 => ?_)
    have h := h x4 ex4
    refine eg_goto (tgt := 2) dX11_begins_19 rfl ?_
    refine eg_sub [1, 0] rfl ?_
    exact h
set_option maxRecDepth 10000 in
theorem vX11_begins_24 {κ : eg_K} {d : Nat} (hd : 1 ≤ d) {post : eg_H → Prop} (M : eg_H) (l1 : Int32) (h : (∀ x2 : Int32, x2 = (fX11_everybody M) → (x2 ≤ l1 → eg_W κ gM mtX11_begins d (eQV κ gM post) 179 [(0, vR (60, 0)), (1, vI (0 : Int32))] [] M) ∧ ((¬ x2 ≤ l1) → (∀ x5 : Int32, x5 = (fX11_at M l1) → (vp_in l1 24 ∧ (vp_in l1 15 ∧ (∀ x8 : Int32, x8 = ((M.1 (91, 0) l1.toNatClampNeg) + (M.1 (125, 0) l1.toNatClampNeg)) → (∀ x9 : Int32, x9 = ((if (¬ l1 = (M.1 (60, 0) 52)) then (0 : Int32) else (3 : Int32))) → (vp_in x5 366 ∧ (∀ M11 : eg_H, M11 = (sI M (110, 0) x5.toNatClampNeg x9) → (vp_in (x5 + (1 : Int32)) 366 ∧ (∀ M13 : eg_H, M13 = (sI M11 (110, 0) (x5 + (1 : Int32)).toNatClampNeg (-1 : Int32)) → (gX11_sizeOf M13 l1 ∧ (∀ x16 : Int32, x16 = (fX11_sizeOf M13 l1) → (vp_in (x5 + (2 : Int32)) 366 ∧ (∀ M18 : eg_H, M18 = (sI M13 (110, 0) (x5 + (2 : Int32)).toNatClampNeg x16) → (∀ x19 : Int32, x19 = ((if x8 ≤ (3599 : Int32) then x8 else (3599 : Int32))) → (vp_in (x5 + (11 : Int32)) 366 ∧ (∀ M21 : eg_H, M21 = (sI M18 (110, 0) (x5 + (11 : Int32)).toNatClampNeg x19) → (vp_in (x5 + (12 : Int32)) 366 ∧ (∀ M23 : eg_H, M23 = (sI M21 (110, 0) (x5 + (12 : Int32)).toNatClampNeg (M21.1 (110, 0) (x5 + (11 : Int32)).toNatClampNeg)) → eg_W κ gM mtX11_begins d (eQV κ gM post) 136 [(0, vR (60, 0)), (1, vI l1), (2, vI x5), (4, vI (0 : Int32))] [] M23))))))))))))))))))))) : eg_W κ gM mtX11_begins d (eQV κ gM post) 24 [(0, vR (60, 0)), (1, vI l1)] [] M := by
  refine eg_iload_n 1 dX11_begins_24 rfl rfl ?_
  refine eg_aload_n 0 dX11_begins_25 rfl rfl ?_
  refine eg_callVI (av := []) (st := [vI l1]) dX11_begins_26 ml_11_369 rfl rfl (obM_60 z1) (by decide) rfl (Nat.le_of_ble_eq_true rfl) (eg_dd (by omega)) (sX11_everybody (by omega) M   ) (fun x2 M1 hp => ?_)
  obtain ⟨ex2, eM1⟩ := hp
  rw [eM1]
  have h := h x2 ex2
  refine eg_icmp_ge (tgt := 177) dX11_begins_29 rfl (fun c3 => ?_) (fun c3 => ?_)
  · have h := h.1 c3
    refine eg_iconst dX11_begins_177 ic_0 ?_
    refine eg_istore_n dX11_begins_178 rfl (by decide) (ls1 := [(1, vI (0 : Int32)), (0, vR (60, 0))]) rfl ?_
    refine eg_sub [1, 0] rfl ?_
    exact h
  · have h := h.2 c3
    refine eg_iload_n 1 dX11_begins_32 rfl rfl ?_
    refine eg_callSI (av := [vI l1]) (st := []) dX11_begins_33 ml_11_372 rfl rfl (Nat.le_of_ble_eq_true rfl) (eg_dd (by omega)) (sX11_at (by omega) M l1  ) (fun x5 M4 hp => ?_)
    obtain ⟨ex5, eM4⟩ := hp
    rw [eM4]
    have h := h x5 ex5
    refine eg_istore_n dX11_begins_36 rfl (by decide) (ls1 := [(2, vI x5), (0, vR (60, 0)), (1, vI l1)]) rfl ?_
    refine eg_aload_n 1 dX11_begins_37 rfl rfl ?_
    refine eg_getR dX11_begins_38 fl_11_29 rfl rfl (obM_60 z1) ?_
    show eg_W κ gM mtX11_begins d (eQV κ gM post) 41 [(2, vI x5), (0, vR (60, 0)), (1, vI l1)] [vR (91, 0)] M
    refine eg_iload_n 2 dX11_begins_41 rfl rfl ?_
    obtain ⟨g6, h⟩ := h
    refine eg_iaload dX11_begins_42 (arM_91 z1 g6) ?_
    refine eg_aload_n 1 dX11_begins_43 rfl rfl ?_
    refine eg_getR dX11_begins_44 fl_11_78 rfl rfl (obM_60 z1) ?_
    show eg_W κ gM mtX11_begins d (eQV κ gM post) 47 [(2, vI x5), (0, vR (60, 0)), (1, vI l1)] [vR (125, 0), vI (M.1 (91, 0) l1.toNatClampNeg)] M
    refine eg_iload_n 2 dX11_begins_47 rfl rfl ?_
    obtain ⟨g7, h⟩ := h
    refine eg_iaload dX11_begins_48 (arM_125 z1 g7) ?_
    refine eg_iadd dX11_begins_49 ?_
    refine en_istore_n (f := fun x8 => [(3, vI x8), (2, vI x5), (0, vR (60, 0)), (1, vI l1)]) dX11_begins_50 rfl (by decide) rfl (fun x8 ex8 => ?_)
    have h := h x8 ex8
    refine eg_aload_n 2 dX11_begins_51 rfl rfl ?_
    refine eg_getR dX11_begins_52 fl_11_69 rfl rfl (obM_60 z1) ?_
    show eg_W κ gM mtX11_begins d (eQV κ gM post) 55 [(3, vI x8), (2, vI x5), (0, vR (60, 0)), (1, vI l1)] [vR (110, 0)] M
    refine eg_iload_n 1 dX11_begins_55 rfl rfl ?_
    refine eg_iload_n 3 dX11_begins_56 rfl rfl ?_
    refine eg_aload_n 2 dX11_begins_57 rfl rfl ?_
    refine eg_getI dX11_begins_58 fl_11_339 rfl trivial (obM_60 z1) ?_
    have J : ∀ x9 : Int32, x9 = (if (¬ l1 = (M.1 (60, 0) 52)) then (0 : Int32) else (3 : Int32)) → eg_W κ gM mtX11_begins d (eQV κ gM post) 69 [(3, vI x8), (2, vI x5), (0, vR (60, 0)), (1, vI l1)] [vI x9, vI x5, vR (110, 0)] M := by
      intro x9 ex9
      have h := h x9 ex9
      obtain ⟨g10, h⟩ := h
      refine en_iastore dX11_begins_69 (arM_110 z1 g10) (fun M11 eM11 => ?_)
      have h := h M11 eM11
      refine eg_aload_n 2 dX11_begins_70 rfl rfl ?_
      refine eg_getR dX11_begins_71 fl_11_69 rfl rfl (obM_60 z1) ?_
      show eg_W κ gM mtX11_begins d (eQV κ gM post) 74 [(3, vI x8), (2, vI x5), (0, vR (60, 0)), (1, vI l1)] [vR (110, 0)] M11
      refine eg_iload_n 1 dX11_begins_74 rfl rfl ?_
      refine eg_iconst dX11_begins_75 ic_1 ?_
      refine eg_iadd dX11_begins_76 ?_
      refine eg_iconst dX11_begins_77 ic_m1 ?_
      obtain ⟨g12, h⟩ := h
      refine en_iastore dX11_begins_78 (arM_110 z1 g12) (fun M13 eM13 => ?_)
      have h := h M13 eM13
      refine eg_aload_n 2 dX11_begins_79 rfl rfl ?_
      refine eg_getR dX11_begins_80 fl_11_69 rfl rfl (obM_60 z1) ?_
      show eg_W κ gM mtX11_begins d (eQV κ gM post) 83 [(3, vI x8), (2, vI x5), (0, vR (60, 0)), (1, vI l1)] [vR (110, 0)] M13
      refine eg_iload_n 1 dX11_begins_83 rfl rfl ?_
      refine eg_iconst dX11_begins_84 ic_2 ?_
      refine eg_iadd dX11_begins_85 ?_
      refine eg_aload_n 2 dX11_begins_86 rfl rfl ?_
      refine eg_iload_n 3 dX11_begins_87 rfl rfl ?_
      obtain ⟨g14, h⟩ := h
      refine eg_callVI (av := [vI l1]) (st := [vI (x5 + (2 : Int32)), vR (110, 0)]) dX11_begins_88 ml_11_374 rfl rfl (obM_60 z1) (by decide) rfl (Nat.le_of_ble_eq_true rfl) (eg_dd (by omega)) (sX11_sizeOf (by omega) M13 l1  g14) (fun x16 M15 hp => ?_)
      obtain ⟨ex16, eM15⟩ := hp
      rw [eM15]
      have h := h x16 ex16
      obtain ⟨g17, h⟩ := h
      refine en_iastore dX11_begins_91 (arM_110 z1 g17) (fun M18 eM18 => ?_)
      have h := h M18 eM18
      refine eg_aload_n 2 dX11_begins_92 rfl rfl ?_
      refine eg_getR dX11_begins_93 fl_11_69 rfl rfl (obM_60 z1) ?_
      show eg_W κ gM mtX11_begins d (eQV κ gM post) 96 [(3, vI x8), (2, vI x5), (0, vR (60, 0)), (1, vI l1)] [vR (110, 0)] M18
      refine eg_iload_n 1 dX11_begins_96 rfl rfl ?_
      refine eg_bipush dX11_begins_97 bp_11 ?_
      refine eg_iadd dX11_begins_99 ?_
      refine eg_iload_n 0 dX11_begins_100 rfl rfl ?_
      refine eg_sipush dX11_begins_101 sp_3599 ?_
      have J : ∀ x19 : Int32, x19 = (if x8 ≤ (3599 : Int32) then x8 else (3599 : Int32)) → eg_W κ gM mtX11_begins d (eQV κ gM post) 114 [(3, vI x8), (2, vI x5), (0, vR (60, 0)), (1, vI l1)] [vI x19, vI (x5 + (11 : Int32)), vR (110, 0)] M18 := by
        intro x19 ex19
        have h := h x19 ex19
        obtain ⟨g20, h⟩ := h
        refine en_iastore dX11_begins_114 (arM_110 z1 g20) (fun M21 eM21 => ?_)
        have h := h M21 eM21
        refine eg_aload_n 2 dX11_begins_115 rfl rfl ?_
        refine eg_getR dX11_begins_116 fl_11_69 rfl rfl (obM_60 z1) ?_
        show eg_W κ gM mtX11_begins d (eQV κ gM post) 119 [(3, vI x8), (2, vI x5), (0, vR (60, 0)), (1, vI l1)] [vR (110, 0)] M21
        refine eg_iload_n 1 dX11_begins_119 rfl rfl ?_
        refine eg_bipush dX11_begins_120 bp_12 ?_
        refine eg_iadd dX11_begins_122 ?_
        refine eg_aload_n 2 dX11_begins_123 rfl rfl ?_
        refine eg_getR dX11_begins_124 fl_11_69 rfl rfl (obM_60 z1) ?_
        show eg_W κ gM mtX11_begins d (eQV κ gM post) 127 [(3, vI x8), (2, vI x5), (0, vR (60, 0)), (1, vI l1)] [vR (110, 0), vI (x5 + (12 : Int32)), vR (110, 0)] M21
        refine eg_iload_n 1 dX11_begins_127 rfl rfl ?_
        refine eg_bipush dX11_begins_128 bp_11 ?_
        refine eg_iadd dX11_begins_130 ?_
        refine eg_iaload dX11_begins_131 (arM_110 z1 g20) ?_
        obtain ⟨g22, h⟩ := h
        refine en_iastore dX11_begins_132 (arM_110 z1 g22) (fun M23 eM23 => ?_)
        have h := h M23 eM23
        refine eg_iconst dX11_begins_133 ic_0 ?_
        refine eg_istore dX11_begins_134 (by decide) (ls1 := [(4, vI (0 : Int32)), (3, vI x8), (2, vI x5), (0, vR (60, 0)), (1, vI l1)]) rfl ?_
        refine eg_sub [3, 4, 2, 0] rfl ?_
        exact h
      clear h
      refine eg_icmp_le (tgt := 113) dX11_begins_104 rfl (fun c24 => ?_) (fun c24 => ?_)
      · refine eg_iload_n 0 dX11_begins_113 rfl rfl ?_
        exact J _ (by rw [if_pos c24])
      · refine eg_sipush dX11_begins_107 sp_3599 ?_
        refine eg_goto (tgt := 114) dX11_begins_110 rfl ?_
        exact J _ (by rw [if_neg c24])
    clear h
    refine eg_icmp_ne (tgt := 68) dX11_begins_61 rfl (fun c25 => ?_) (fun c25 => ?_)
    · refine eg_iconst dX11_begins_68 ic_0 ?_
      exact J _ (by rw [if_pos c25])
    · have c26 : ¬ (¬ l1 = (M.1 (60, 0) 52)) := fun z => z c25
      refine eg_iconst dX11_begins_64 ic_3 ?_
      refine eg_goto (tgt := 69) dX11_begins_65 rfl ?_
      exact J _ (by rw [if_neg c26])
set_option maxRecDepth 10000 in
theorem vX11_begins_136 {κ : eg_K} {d : Nat} {post : eg_H → Prop} (M : eg_H) (l1 : Int32) (l2 : Int32) (l4 : Int32) (h : ((5 : Int32) ≤ l4 → (∀ x2 : Int32, x2 = (l1 + (1 : Int32)) → eg_W κ gM mtX11_begins d (eQV κ gM post) 24 [(0, vR (60, 0)), (1, vI x2)] [] M)) ∧ ((¬ (5 : Int32) ≤ l4) → (vp_in (((5 : Int32) * l1) + l4) 120 ∧ (vp_in ((l2 + (14 : Int32)) + l4) 366 ∧ (∀ M5 : eg_H, M5 = (sI M (110, 0) ((l2 + (14 : Int32)) + l4).toNatClampNeg (M.1 (93, 0) (((5 : Int32) * l1) + l4).toNatClampNeg)) → (∀ x6 : Int32, x6 = (l4 + (1 : Int32)) → eg_W κ gM mtX11_begins d (eQV κ gM post) 136 [(0, vR (60, 0)), (1, vI l1), (2, vI l2), (4, vI x6)] [] M5)))))) : eg_W κ gM mtX11_begins d (eQV κ gM post) 136 [(0, vR (60, 0)), (1, vI l1), (2, vI l2), (4, vI l4)] [] M := by
  refine eg_iload 3 dX11_begins_136 rfl ?_
  refine eg_iconst dX11_begins_138 ic_5 ?_
  refine eg_icmp_ge (tgt := 171) dX11_begins_139 rfl (fun c1 => ?_) (fun c1 => ?_)
  · have h := h.1 c1
    refine en_iinc (f := fun x2 => [(1, vI x2), (0, vR (60, 0)), (2, vI l2), (4, vI l4)]) 1 dX11_begins_171 rfl rfl (by decide) rfl (fun x2 ex2 => ?_)
    have h := h x2 ex2
    refine eg_goto (tgt := 24) dX11_begins_174 rfl ?_
    refine eg_sub [1, 0] rfl ?_
    exact h
  · have h := h.2 c1
    refine eg_aload_n 0 dX11_begins_142 rfl rfl ?_
    refine eg_getR dX11_begins_143 fl_11_69 rfl rfl (obM_60 z1) ?_
    show eg_W κ gM mtX11_begins d (eQV κ gM post) 146 [(0, vR (60, 0)), (1, vI l1), (2, vI l2), (4, vI l4)] [vR (110, 0)] M
    refine eg_iload_n 2 dX11_begins_146 rfl rfl ?_
    refine eg_bipush dX11_begins_147 bp_14 ?_
    refine eg_iadd dX11_begins_149 ?_
    refine eg_iload 3 dX11_begins_150 rfl ?_
    refine eg_iadd dX11_begins_152 ?_
    refine eg_aload_n 0 dX11_begins_153 rfl rfl ?_
    refine eg_getR dX11_begins_154 fl_11_35 rfl rfl (obM_60 z1) ?_
    show eg_W κ gM mtX11_begins d (eQV κ gM post) 157 [(0, vR (60, 0)), (1, vI l1), (2, vI l2), (4, vI l4)] [vR (93, 0), vI ((l2 + (14 : Int32)) + l4), vR (110, 0)] M
    refine eg_iconst dX11_begins_157 ic_5 ?_
    refine eg_iload_n 1 dX11_begins_158 rfl rfl ?_
    refine eg_imul dX11_begins_159 ?_
    refine eg_iload 3 dX11_begins_160 rfl ?_
    refine eg_iadd dX11_begins_162 ?_
    obtain ⟨g3, h⟩ := h
    refine eg_iaload dX11_begins_163 (arM_93 z1 g3) ?_
    obtain ⟨g4, h⟩ := h
    refine en_iastore dX11_begins_164 (arM_110 z1 g4) (fun M5 eM5 => ?_)
    have h := h M5 eM5
    refine en_iinc (f := fun x6 => [(4, vI x6), (0, vR (60, 0)), (1, vI l1), (2, vI l2)]) 3 dX11_begins_165 rfl rfl (by decide) rfl (fun x6 ex6 => ?_)
    have h := h x6 ex6
    refine eg_goto (tgt := 136) dX11_begins_168 rfl ?_
    refine eg_sub [1, 2, 3, 0] rfl ?_
    exact h
set_option maxRecDepth 10000 in
theorem vX11_begins_179 {κ : eg_K} {d : Nat} (hd : 2 ≤ d) {post : eg_H → Prop} (M : eg_H) (l1 : Int32) (h : ((M.1 (60, 0) 12) ≤ l1 → eg_W κ gM mtX11_begins d (eQV κ gM post) 234 [(0, vR (60, 0)), (1, vI (0 : Int32))] [] M) ∧ ((¬ (M.1 (60, 0) 12) ≤ l1) → (∀ x3 : Int32, x3 = (fX11_pan M l1) → (gX11_has M l1 (2 : Int32) ∧ (∀ x6 : Int32, x6 = (fX11_has M l1 (2 : Int32)) → (0 ≤ x6 → (gX11_portionsOf M l1 ∧ (∀ x10 : Int32, x10 = (fX11_portionsOf M l1) → eg_W κ gM mtX11_begins d (eQV κ gM post) 213 [(0, vR (60, 0)), (1, vI l1)] [vI x10, vI x3, vR (110, 0)] M))) ∧ ((¬ 0 ≤ x6) → eg_W κ gM mtX11_begins d (eQV κ gM post) 213 [(0, vR (60, 0)), (1, vI l1)] [vI (0 : Int32), vI x3, vR (110, 0)] M)))))) : eg_W κ gM mtX11_begins d (eQV κ gM post) 179 [(0, vR (60, 0)), (1, vI l1)] [] M := by
  refine eg_iload_n 1 dX11_begins_179 rfl rfl ?_
  refine eg_aload_n 0 dX11_begins_180 rfl rfl ?_
  refine eg_getI dX11_begins_181 fl_11_209 rfl trivial (obM_60 z1) ?_
  refine eg_icmp_ge (tgt := 232) dX11_begins_184 rfl (fun c1 => ?_) (fun c1 => ?_)
  · have h := h.1 c1
    refine eg_iconst dX11_begins_232 ic_0 ?_
    refine eg_istore_n dX11_begins_233 rfl (by decide) (ls1 := [(1, vI (0 : Int32)), (0, vR (60, 0))]) rfl ?_
    refine eg_sub [1, 0] rfl ?_
    exact h
  · have h := h.2 c1
    refine eg_aload_n 0 dX11_begins_187 rfl rfl ?_
    refine eg_getR dX11_begins_188 fl_11_69 rfl rfl (obM_60 z1) ?_
    show eg_W κ gM mtX11_begins d (eQV κ gM post) 191 [(0, vR (60, 0)), (1, vI l1)] [vR (110, 0)] M
    refine eg_iload_n 1 dX11_begins_191 rfl rfl ?_
    refine eg_callSI (av := [vI l1]) (st := [vR (110, 0)]) dX11_begins_192 ml_11_377 rfl rfl (Nat.le_of_ble_eq_true rfl) (eg_dd (by omega)) (sX11_pan (by omega) M l1  ) (fun x3 M2 hp => ?_)
    obtain ⟨ex3, eM2⟩ := hp
    rw [eM2]
    have h := h x3 ex3
    refine eg_aload_n 0 dX11_begins_195 rfl rfl ?_
    refine eg_iload_n 1 dX11_begins_196 rfl rfl ?_
    refine eg_iconst dX11_begins_197 ic_2 ?_
    obtain ⟨g4, h⟩ := h
    refine eg_callVI (av := [vI l1, vI (2 : Int32)]) (st := [vI x3, vR (110, 0)]) dX11_begins_198 ml_11_366 rfl rfl (obM_60 z1) (by decide) rfl (Nat.le_of_ble_eq_true rfl) (eg_dd (by omega)) (sX11_has (by omega) M l1 (2 : Int32)  g4) (fun x6 M5 hp => ?_)
    obtain ⟨ex6, eM5⟩ := hp
    rw [eM5]
    have h := h x6 ex6
    refine eg_if_ge (tgt := 208) dX11_begins_201 rfl (fun c7 => ?_) (fun c7 => ?_)
    · have h := h.1 c7
      refine eg_aload_n 0 dX11_begins_208 rfl rfl ?_
      refine eg_iload_n 1 dX11_begins_209 rfl rfl ?_
      obtain ⟨g8, h⟩ := h
      refine eg_callVI (av := [vI l1]) (st := [vI x3, vR (110, 0)]) dX11_begins_210 ml_11_380 rfl rfl (obM_60 z1) (by decide) rfl (Nat.le_of_ble_eq_true rfl) (eg_dd (by omega)) (sX11_portionsOf (by omega) M l1  g8) (fun x10 M9 hp => ?_)
      obtain ⟨ex10, eM9⟩ := hp
      rw [eM9]
      have h := h x10 ex10
      exact h
    · have h := h.2 c7
      refine eg_iconst dX11_begins_204 ic_0 ?_
      refine eg_goto (tgt := 213) dX11_begins_205 rfl ?_
      exact h
set_option maxRecDepth 10000 in
theorem vX11_begins_213 {κ : eg_K} {d : Nat} (hd : 1 ≤ d) {post : eg_H → Prop} (M : eg_H) (l1 : Int32) (s0 : Int32) (s1 : Int32) (h : (vp_in s1 366 ∧ (∀ M2 : eg_H, M2 = (sI M (110, 0) s1.toNatClampNeg s0) → (∀ x4 : Int32, x4 = (fX11_pan M2 l1) → (vp_in (x4 + (2 : Int32)) 366 ∧ (∀ M6 : eg_H, M6 = (sI M2 (110, 0) (x4 + (2 : Int32)).toNatClampNeg (-1 : Int32)) → (∀ x7 : Int32, x7 = (l1 + (1 : Int32)) → eg_W κ gM mtX11_begins d (eQV κ gM post) 179 [(0, vR (60, 0)), (1, vI x7)] [] M6))))))) : eg_W κ gM mtX11_begins d (eQV κ gM post) 213 [(0, vR (60, 0)), (1, vI l1)] [vI s0, vI s1, vR (110, 0)] M := by
  obtain ⟨g1, h⟩ := h
  refine en_iastore dX11_begins_213 (arM_110 z1 g1) (fun M2 eM2 => ?_)
  have h := h M2 eM2
  refine eg_aload_n 0 dX11_begins_214 rfl rfl ?_
  refine eg_getR dX11_begins_215 fl_11_69 rfl rfl (obM_60 z1) ?_
  show eg_W κ gM mtX11_begins d (eQV κ gM post) 218 [(0, vR (60, 0)), (1, vI l1)] [vR (110, 0)] M2
  refine eg_iload_n 1 dX11_begins_218 rfl rfl ?_
  refine eg_callSI (av := [vI l1]) (st := [vR (110, 0)]) dX11_begins_219 ml_11_377 rfl rfl (Nat.le_of_ble_eq_true rfl) (eg_dd (by omega)) (sX11_pan (by omega) M2 l1  ) (fun x4 M3 hp => ?_)
  obtain ⟨ex4, eM3⟩ := hp
  rw [eM3]
  have h := h x4 ex4
  refine eg_iconst dX11_begins_222 ic_2 ?_
  refine eg_iadd dX11_begins_223 ?_
  refine eg_iconst dX11_begins_224 ic_m1 ?_
  obtain ⟨g5, h⟩ := h
  refine en_iastore dX11_begins_225 (arM_110 z1 g5) (fun M6 eM6 => ?_)
  have h := h M6 eM6
  refine en_iinc (f := fun x7 => [(1, vI x7), (0, vR (60, 0))]) 1 dX11_begins_226 rfl rfl (by decide) rfl (fun x7 ex7 => ?_)
  have h := h x7 ex7
  refine eg_goto (tgt := 179) dX11_begins_229 rfl ?_
  refine eg_sub [1, 0] rfl ?_
  exact h
set_option maxRecDepth 10000 in
theorem vX11_begins_234 {κ : eg_K} {d : Nat} {post : eg_H → Prop} (M : eg_H) (l1 : Int32) (h : ((5 : Int32) ≤ l1 → post M) ∧ ((¬ (5 : Int32) ≤ l1) → (vp_in l1 5 ∧ (vp_in ((360 : Int32) + l1) 366 ∧ (∀ M4 : eg_H, M4 = (sI M (110, 0) ((360 : Int32) + l1).toNatClampNeg (M.1 (126, 0) l1.toNatClampNeg)) → (∀ x5 : Int32, x5 = (l1 + (1 : Int32)) → eg_W κ gM mtX11_begins d (eQV κ gM post) 234 [(0, vR (60, 0)), (1, vI x5)] [] M4)))))) : eg_W κ gM mtX11_begins d (eQV κ gM post) 234 [(0, vR (60, 0)), (1, vI l1)] [] M := by
  refine eg_iload_n 1 dX11_begins_234 rfl rfl ?_
  refine eg_iconst dX11_begins_235 ic_5 ?_
  refine eg_icmp_ge (tgt := 261) dX11_begins_236 rfl (fun c1 => ?_) (fun c1 => ?_)
  · have h := h.1 c1
    exact eg_vreturn dX11_begins_261 rfl h
  · have h := h.2 c1
    refine eg_aload_n 0 dX11_begins_239 rfl rfl ?_
    refine eg_getR dX11_begins_240 fl_11_69 rfl rfl (obM_60 z1) ?_
    show eg_W κ gM mtX11_begins d (eQV κ gM post) 243 [(0, vR (60, 0)), (1, vI l1)] [vR (110, 0)] M
    refine eg_sipush dX11_begins_243 sp_360 ?_
    refine eg_iload_n 1 dX11_begins_246 rfl rfl ?_
    refine eg_iadd dX11_begins_247 ?_
    refine eg_aload_n 0 dX11_begins_248 rfl rfl ?_
    refine eg_getR dX11_begins_249 fl_11_81 rfl rfl (obM_60 z1) ?_
    show eg_W κ gM mtX11_begins d (eQV κ gM post) 252 [(0, vR (60, 0)), (1, vI l1)] [vR (126, 0), vI ((360 : Int32) + l1), vR (110, 0)] M
    refine eg_iload_n 1 dX11_begins_252 rfl rfl ?_
    obtain ⟨g2, h⟩ := h
    refine eg_iaload dX11_begins_253 (arM_126 z1 g2) ?_
    obtain ⟨g3, h⟩ := h
    refine en_iastore dX11_begins_254 (arM_110 z1 g3) (fun M4 eM4 => ?_)
    have h := h M4 eM4
    refine en_iinc (f := fun x5 => [(1, vI x5), (0, vR (60, 0))]) 1 dX11_begins_255 rfl rfl (by decide) rfl (fun x5 ex5 => ?_)
    have h := h x5 ex5
    refine eg_goto (tgt := 234) dX11_begins_258 rfl ?_
    refine eg_sub [1, 0] rfl ?_
    exact h
