theorem dX11_named_0 : decode cX11_named 0 = .ok (.aload_n 0, 1) := by decide +kernel
theorem dX11_named_1 : decode cX11_named 1 = .ok (.iconst 0, 1) := by decide +kernel
theorem dX11_named_2 : decode cX11_named 2 = .ok (.putfield 127, 3) := by decide +kernel
theorem dX11_named_5 : decode cX11_named 5 = .ok (.iload_n 1, 1) := by decide +kernel
theorem dX11_named_6 : decode cX11_named 6 = .ok (.ifCond .ne 19, 3) := by decide +kernel
theorem dX11_named_9 : decode cX11_named 9 = .ok (.aload_n 0, 1) := by decide +kernel
theorem dX11_named_10 : decode cX11_named 10 = .ok (.getfield 20, 3) := by decide +kernel
theorem dX11_named_13 : decode cX11_named 13 = .ok (.iconst 0, 1) := by decide +kernel
theorem dX11_named_14 : decode cX11_named 14 = .ok (.aload_n 0, 1) := by decide +kernel
theorem dX11_named_15 : decode cX11_named 15 = .ok (.getfield 209, 3) := by decide +kernel
theorem dX11_named_18 : decode cX11_named 18 = .ok (.iload_n 2, 1) := by decide +kernel
theorem dX11_named_19 : decode cX11_named 19 = .ok (.invokestatic 253, 3) := by decide +kernel
theorem dX11_named_22 : decode cX11_named 22 = .ok (.goto 46, 3) := by decide +kernel
theorem dX11_named_25 : decode cX11_named 25 = .ok (.iload_n 1, 1) := by decide +kernel
theorem dX11_named_26 : decode cX11_named 26 = .ok (.iconst 1, 1) := by decide +kernel
theorem dX11_named_27 : decode cX11_named 27 = .ok (.if_icmp .ne 19, 3) := by decide +kernel
theorem dX11_named_30 : decode cX11_named 30 = .ok (.aload_n 0, 1) := by decide +kernel
theorem dX11_named_31 : decode cX11_named 31 = .ok (.getfield 26, 3) := by decide +kernel
theorem dX11_named_34 : decode cX11_named 34 = .ok (.iconst 0, 1) := by decide +kernel
theorem dX11_named_35 : decode cX11_named 35 = .ok (.aload_n 0, 1) := by decide +kernel
theorem dX11_named_36 : decode cX11_named 36 = .ok (.getfield 212, 3) := by decide +kernel
theorem dX11_named_39 : decode cX11_named 39 = .ok (.iload_n 2, 1) := by decide +kernel
theorem dX11_named_40 : decode cX11_named 40 = .ok (.invokestatic 253, 3) := by decide +kernel
theorem dX11_named_43 : decode cX11_named 43 = .ok (.goto 25, 3) := by decide +kernel
theorem dX11_named_46 : decode cX11_named 46 = .ok (.iload_n 1, 1) := by decide +kernel
theorem dX11_named_47 : decode cX11_named 47 = .ok (.iconst 2, 1) := by decide +kernel
theorem dX11_named_48 : decode cX11_named 48 = .ok (.if_icmp .ne 19, 3) := by decide +kernel
theorem dX11_named_51 : decode cX11_named 51 = .ok (.aload_n 0, 1) := by decide +kernel
theorem dX11_named_52 : decode cX11_named 52 = .ok (.getfield 38, 3) := by decide +kernel
theorem dX11_named_55 : decode cX11_named 55 = .ok (.iconst 0, 1) := by decide +kernel
theorem dX11_named_56 : decode cX11_named 56 = .ok (.aload_n 0, 1) := by decide +kernel
theorem dX11_named_57 : decode cX11_named 57 = .ok (.getfield 215, 3) := by decide +kernel
theorem dX11_named_60 : decode cX11_named 60 = .ok (.iload_n 2, 1) := by decide +kernel
theorem dX11_named_61 : decode cX11_named 61 = .ok (.invokestatic 253, 3) := by decide +kernel
theorem dX11_named_64 : decode cX11_named 64 = .ok (.goto 4, 3) := by decide +kernel
theorem dX11_named_67 : decode cX11_named 67 = .ok (.iconst (-1), 1) := by decide +kernel
theorem dX11_named_68 : decode cX11_named 68 = .ok (.ireturn, 1) := by decide +kernel
set_option maxRecDepth 10000 in
theorem vX11_named_0 {κ : eg_K} {d : Nat} (hd : 1 ≤ d) {post : Int32 → eg_H → Prop} (M : eg_H) (l1 : Int32) (l2 : Int32) (h : (∀ M1 : eg_H, M1 = (sI M (60, 0) 2 (0 : Int32)) → ((¬ l1 = 0) → ((¬ l1 = (1 : Int32)) → ((¬ l1 = (2 : Int32)) → post (-1 : Int32) M1) ∧ (l1 = (2 : Int32) → eCI κ gM mtX11_find d [vR (94, 0), vI (0 : Int32), vI (M1.1 (60, 0) 14), vI l2] M1 (fun x5 M6 => post x5 M6))) ∧ (l1 = (1 : Int32) → eCI κ gM mtX11_find d [vR (90, 0), vI (0 : Int32), vI (M1.1 (60, 0) 13), vI l2] M1 (fun x8 M9 => post x8 M9))) ∧ (l1 = 0 → eCI κ gM mtX11_find d [vR (88, 0), vI (0 : Int32), vI (M1.1 (60, 0) 12), vI l2] M1 (fun x11 M12 => post x11 M12)))) : eg_W κ gM mtX11_named d (eQI κ gM post) 0 [(0, vR (60, 0)), (1, vI l1), (2, vI l2)] [] M := by
  refine eg_aload_n 0 dX11_named_0 rfl rfl ?_
  refine eg_iconst dX11_named_1 ic_0 ?_
  refine en_putI dX11_named_2 fl_11_127 rfl rfl (obM_60 z1) (fun M1 eM1 => ?_)
  have h := h M1 eM1
  refine eg_iload_n 1 dX11_named_5 rfl rfl ?_
  refine eg_if_ne (tgt := 25) dX11_named_6 rfl (fun c2 => ?_) (fun c2 => ?_)
  · have h := h.1 c2
    refine eg_iload_n 1 dX11_named_25 rfl rfl ?_
    refine eg_iconst dX11_named_26 ic_1 ?_
    refine eg_icmp_ne (tgt := 46) dX11_named_27 rfl (fun c3 => ?_) (fun c3 => ?_)
    · have h := h.1 c3
      refine eg_iload_n 1 dX11_named_46 rfl rfl ?_
      refine eg_iconst dX11_named_47 ic_2 ?_
      refine eg_icmp_ne (tgt := 67) dX11_named_48 rfl (fun c4 => ?_) (fun c4 => ?_)
      · have h := h.1 c4
        refine eg_iconst dX11_named_67 ic_m1 ?_
        exact eg_ireturn dX11_named_68 rfl h
      · have h := h.2 c4
        refine eg_aload_n 0 dX11_named_51 rfl rfl ?_
        refine eg_getR dX11_named_52 fl_11_38 rfl rfl (obM_60 z1) ?_
        show eg_W κ gM mtX11_named d (eQI κ gM post) 55 [(0, vR (60, 0)), (1, vI l1), (2, vI l2)] [vR (94, 0)] M1
        refine eg_iconst dX11_named_55 ic_0 ?_
        refine eg_aload_n 0 dX11_named_56 rfl rfl ?_
        refine eg_getI dX11_named_57 fl_11_215 rfl trivial (obM_60 z1) ?_
        refine eg_iload_n 2 dX11_named_60 rfl rfl ?_
        obtain ⟨q7, hq7, h⟩ := h
        refine eg_callSI (av := [vR (94, 0), vI (0 : Int32), vI (M1.1 (60, 0) 14), vI l2]) (st := []) dX11_named_61 ml_11_253 rfl rfl (Nat.le_of_ble_eq_true rfl) (eg_dd hd) hq7 (fun x5 M6 hp => ?_)
        have h := h x5 M6 hp
        refine eg_goto (tgt := 68) dX11_named_64 rfl ?_
        exact eg_ireturn dX11_named_68 rfl h
    · have h := h.2 c3
      refine eg_aload_n 0 dX11_named_30 rfl rfl ?_
      refine eg_getR dX11_named_31 fl_11_26 rfl rfl (obM_60 z1) ?_
      show eg_W κ gM mtX11_named d (eQI κ gM post) 34 [(0, vR (60, 0)), (1, vI l1), (2, vI l2)] [vR (90, 0)] M1
      refine eg_iconst dX11_named_34 ic_0 ?_
      refine eg_aload_n 0 dX11_named_35 rfl rfl ?_
      refine eg_getI dX11_named_36 fl_11_212 rfl trivial (obM_60 z1) ?_
      refine eg_iload_n 2 dX11_named_39 rfl rfl ?_
      obtain ⟨q10, hq10, h⟩ := h
      refine eg_callSI (av := [vR (90, 0), vI (0 : Int32), vI (M1.1 (60, 0) 13), vI l2]) (st := []) dX11_named_40 ml_11_253 rfl rfl (Nat.le_of_ble_eq_true rfl) (eg_dd hd) hq10 (fun x8 M9 hp => ?_)
      have h := h x8 M9 hp
      refine eg_goto (tgt := 68) dX11_named_43 rfl ?_
      exact eg_ireturn dX11_named_68 rfl h
  · have h := h.2 c2
    refine eg_aload_n 0 dX11_named_9 rfl rfl ?_
    refine eg_getR dX11_named_10 fl_11_20 rfl rfl (obM_60 z1) ?_
    show eg_W κ gM mtX11_named d (eQI κ gM post) 13 [(0, vR (60, 0)), (1, vI l1), (2, vI l2)] [vR (88, 0)] M1
    refine eg_iconst dX11_named_13 ic_0 ?_
    refine eg_aload_n 0 dX11_named_14 rfl rfl ?_
    refine eg_getI dX11_named_15 fl_11_209 rfl trivial (obM_60 z1) ?_
    refine eg_iload_n 2 dX11_named_18 rfl rfl ?_
    obtain ⟨q13, hq13, h⟩ := h
    refine eg_callSI (av := [vR (88, 0), vI (0 : Int32), vI (M1.1 (60, 0) 12), vI l2]) (st := []) dX11_named_19 ml_11_253 rfl rfl (Nat.le_of_ble_eq_true rfl) (eg_dd hd) hq13 (fun x11 M12 hp => ?_)
    have h := h x11 M12 hp
    refine eg_goto (tgt := 68) dX11_named_22 rfl ?_
    exact eg_ireturn dX11_named_68 rfl h
theorem dX11_rank_0 : decode cX11_rank 0 = .ok (.iload_n 0, 1) := by decide +kernel
theorem dX11_rank_1 : decode cX11_rank 1 = .ok (.bipush 13, 2) := by decide +kernel
theorem dX11_rank_3 : decode cX11_rank 3 = .ok (.if_icmp .lt 8, 3) := by decide +kernel
theorem dX11_rank_6 : decode cX11_rank 6 = .ok (.bipush 6, 2) := by decide +kernel
theorem dX11_rank_8 : decode cX11_rank 8 = .ok (.goto 50, 3) := by decide +kernel
theorem dX11_rank_11 : decode cX11_rank 11 = .ok (.iload_n 0, 1) := by decide +kernel
theorem dX11_rank_12 : decode cX11_rank 12 = .ok (.bipush 11, 2) := by decide +kernel
theorem dX11_rank_14 : decode cX11_rank 14 = .ok (.if_icmp .lt 7, 3) := by decide +kernel
theorem dX11_rank_17 : decode cX11_rank 17 = .ok (.iconst 5, 1) := by decide +kernel
theorem dX11_rank_18 : decode cX11_rank 18 = .ok (.goto 40, 3) := by decide +kernel
theorem dX11_rank_21 : decode cX11_rank 21 = .ok (.iload_n 0, 1) := by decide +kernel
theorem dX11_rank_22 : decode cX11_rank 22 = .ok (.iconst 5, 1) := by decide +kernel
theorem dX11_rank_23 : decode cX11_rank 23 = .ok (.if_icmp .lt 7, 3) := by decide +kernel
theorem dX11_rank_26 : decode cX11_rank 26 = .ok (.iconst 4, 1) := by decide +kernel
theorem dX11_rank_27 : decode cX11_rank 27 = .ok (.goto 31, 3) := by decide +kernel
theorem dX11_rank_30 : decode cX11_rank 30 = .ok (.iload_n 0, 1) := by decide +kernel
theorem dX11_rank_31 : decode cX11_rank 31 = .ok (.iconst 2, 1) := by decide +kernel
theorem dX11_rank_32 : decode cX11_rank 32 = .ok (.if_icmp .ne 7, 3) := by decide +kernel
theorem dX11_rank_35 : decode cX11_rank 35 = .ok (.iconst 3, 1) := by decide +kernel
theorem dX11_rank_36 : decode cX11_rank 36 = .ok (.goto 22, 3) := by decide +kernel
theorem dX11_rank_39 : decode cX11_rank 39 = .ok (.iload_n 0, 1) := by decide +kernel
theorem dX11_rank_40 : decode cX11_rank 40 = .ok (.iconst 3, 1) := by decide +kernel
theorem dX11_rank_41 : decode cX11_rank 41 = .ok (.if_icmp .ne 7, 3) := by decide +kernel
theorem dX11_rank_44 : decode cX11_rank 44 = .ok (.iconst 2, 1) := by decide +kernel
theorem dX11_rank_45 : decode cX11_rank 45 = .ok (.goto 13, 3) := by decide +kernel
theorem dX11_rank_48 : decode cX11_rank 48 = .ok (.iload_n 0, 1) := by decide +kernel
theorem dX11_rank_49 : decode cX11_rank 49 = .ok (.iconst 4, 1) := by decide +kernel
theorem dX11_rank_50 : decode cX11_rank 50 = .ok (.if_icmp .ne 7, 3) := by decide +kernel
theorem dX11_rank_53 : decode cX11_rank 53 = .ok (.iconst 1, 1) := by decide +kernel
theorem dX11_rank_54 : decode cX11_rank 54 = .ok (.goto 4, 3) := by decide +kernel
theorem dX11_rank_57 : decode cX11_rank 57 = .ok (.iconst 0, 1) := by decide +kernel
theorem dX11_rank_58 : decode cX11_rank 58 = .ok (.ireturn, 1) := by decide +kernel
set_option maxRecDepth 10000 in
theorem vX11_rank_0 {κ : eg_K} {d : Nat} {post : Int32 → eg_H → Prop} (M : eg_H) (l0 : Int32) (h : (∀ x1 : Int32, x1 = ((if l0 < (13 : Int32) then (if l0 < (11 : Int32) then (if l0 < (5 : Int32) then (if (¬ l0 = (2 : Int32)) then (if (¬ l0 = (3 : Int32)) then (if (¬ l0 = (4 : Int32)) then (0 : Int32) else (1 : Int32)) else (2 : Int32)) else (3 : Int32)) else (4 : Int32)) else (5 : Int32)) else (6 : Int32))) → post x1 M)) : eg_W κ gM mtX11_rank d (eQI κ gM post) 0 [(0, vI l0)] [] M := by
  refine eg_iload_n 0 dX11_rank_0 rfl rfl ?_
  refine eg_bipush dX11_rank_1 bp_13 ?_
  have J : ∀ x1 : Int32, x1 = (if l0 < (13 : Int32) then (if l0 < (11 : Int32) then (if l0 < (5 : Int32) then (if (¬ l0 = (2 : Int32)) then (if (¬ l0 = (3 : Int32)) then (if (¬ l0 = (4 : Int32)) then (0 : Int32) else (1 : Int32)) else (2 : Int32)) else (3 : Int32)) else (4 : Int32)) else (5 : Int32)) else (6 : Int32)) → eg_W κ gM mtX11_rank d (eQI κ gM post) 58 [(0, vI l0)] [vI x1] M := by
    intro x1 ex1
    have h := h x1 ex1
    exact eg_ireturn dX11_rank_58 rfl h
  clear h
  refine eg_icmp_lt (tgt := 11) dX11_rank_3 rfl (fun c2 => ?_) (fun c2 => ?_)
  · refine eg_iload_n 0 dX11_rank_11 rfl rfl ?_
    refine eg_bipush dX11_rank_12 bp_11 ?_
    refine eg_icmp_lt (tgt := 21) dX11_rank_14 rfl (fun c3 => ?_) (fun c3 => ?_)
    · refine eg_iload_n 0 dX11_rank_21 rfl rfl ?_
      refine eg_iconst dX11_rank_22 ic_5 ?_
      refine eg_icmp_lt (tgt := 30) dX11_rank_23 rfl (fun c4 => ?_) (fun c4 => ?_)
      · refine eg_iload_n 0 dX11_rank_30 rfl rfl ?_
        refine eg_iconst dX11_rank_31 ic_2 ?_
        refine eg_icmp_ne (tgt := 39) dX11_rank_32 rfl (fun c5 => ?_) (fun c5 => ?_)
        · refine eg_iload_n 0 dX11_rank_39 rfl rfl ?_
          refine eg_iconst dX11_rank_40 ic_3 ?_
          refine eg_icmp_ne (tgt := 48) dX11_rank_41 rfl (fun c6 => ?_) (fun c6 => ?_)
          · refine eg_iload_n 0 dX11_rank_48 rfl rfl ?_
            refine eg_iconst dX11_rank_49 ic_4 ?_
            refine eg_icmp_ne (tgt := 57) dX11_rank_50 rfl (fun c7 => ?_) (fun c7 => ?_)
            · refine eg_iconst dX11_rank_57 ic_0 ?_
              exact J _ (by rw [if_pos c2, if_pos c3, if_pos c4, if_pos c5, if_pos c6, if_pos c7])
            · have c8 : ¬ (¬ l0 = (4 : Int32)) := fun z => z c7
              refine eg_iconst dX11_rank_53 ic_1 ?_
              refine eg_goto (tgt := 58) dX11_rank_54 rfl ?_
              exact J _ (by rw [if_pos c2, if_pos c3, if_pos c4, if_pos c5, if_pos c6, if_neg c8])
          · have c9 : ¬ (¬ l0 = (3 : Int32)) := fun z => z c6
            refine eg_iconst dX11_rank_44 ic_2 ?_
            refine eg_goto (tgt := 58) dX11_rank_45 rfl ?_
            exact J _ (by rw [if_pos c2, if_pos c3, if_pos c4, if_pos c5, if_neg c9])
        · have c10 : ¬ (¬ l0 = (2 : Int32)) := fun z => z c5
          refine eg_iconst dX11_rank_35 ic_3 ?_
          refine eg_goto (tgt := 58) dX11_rank_36 rfl ?_
          exact J _ (by rw [if_pos c2, if_pos c3, if_pos c4, if_neg c10])
      · refine eg_iconst dX11_rank_26 ic_4 ?_
        refine eg_goto (tgt := 58) dX11_rank_27 rfl ?_
        exact J _ (by rw [if_pos c2, if_pos c3, if_neg c4])
    · refine eg_iconst dX11_rank_17 ic_5 ?_
      refine eg_goto (tgt := 58) dX11_rank_18 rfl ?_
      exact J _ (by rw [if_pos c2, if_neg c3])
  · refine eg_bipush dX11_rank_6 bp_6 ?_
    refine eg_goto (tgt := 58) dX11_rank_8 rfl ?_
    exact J _ (by rw [if_neg c2])
theorem dX11_grown_0 : decode cX11_grown 0 = .ok (.aload_n 0, 1) := by decide +kernel
theorem dX11_grown_1 : decode cX11_grown 1 = .ok (.getfield 54, 3) := by decide +kernel
theorem dX11_grown_4 : decode cX11_grown 4 = .ok (.bipush 64, 2) := by decide +kernel
theorem dX11_grown_6 : decode cX11_grown 6 = .ok (.aload_n 0, 1) := by decide +kernel
theorem dX11_grown_7 : decode cX11_grown 7 = .ok (.getfield 190, 3) := by decide +kernel
theorem dX11_grown_10 : decode cX11_grown 10 = .ok (.iadd, 1) := by decide +kernel
theorem dX11_grown_11 : decode cX11_grown 11 = .ok (.iload_n 1, 1) := by decide +kernel
theorem dX11_grown_12 : decode cX11_grown 12 = .ok (.iastore, 1) := by decide +kernel
theorem dX11_grown_13 : decode cX11_grown 13 = .ok (.aload_n 0, 1) := by decide +kernel
theorem dX11_grown_14 : decode cX11_grown 14 = .ok (.getfield 57, 3) := by decide +kernel
theorem dX11_grown_17 : decode cX11_grown 17 = .ok (.bipush 64, 2) := by decide +kernel
theorem dX11_grown_19 : decode cX11_grown 19 = .ok (.aload_n 0, 1) := by decide +kernel
theorem dX11_grown_20 : decode cX11_grown 20 = .ok (.getfield 190, 3) := by decide +kernel
theorem dX11_grown_23 : decode cX11_grown 23 = .ok (.iadd, 1) := by decide +kernel
theorem dX11_grown_24 : decode cX11_grown 24 = .ok (.iload_n 2, 1) := by decide +kernel
theorem dX11_grown_25 : decode cX11_grown 25 = .ok (.iastore, 1) := by decide +kernel
theorem dX11_grown_26 : decode cX11_grown 26 = .ok (.aload_n 0, 1) := by decide +kernel
theorem dX11_grown_27 : decode cX11_grown 27 = .ok (.getfield 60, 3) := by decide +kernel
theorem dX11_grown_30 : decode cX11_grown 30 = .ok (.bipush 64, 2) := by decide +kernel
theorem dX11_grown_32 : decode cX11_grown 32 = .ok (.aload_n 0, 1) := by decide +kernel
theorem dX11_grown_33 : decode cX11_grown 33 = .ok (.getfield 190, 3) := by decide +kernel
theorem dX11_grown_36 : decode cX11_grown 36 = .ok (.iadd, 1) := by decide +kernel
theorem dX11_grown_37 : decode cX11_grown 37 = .ok (.iload_n 3, 1) := by decide +kernel
theorem dX11_grown_38 : decode cX11_grown 38 = .ok (.iastore, 1) := by decide +kernel
theorem dX11_grown_39 : decode cX11_grown 39 = .ok (.aload_n 0, 1) := by decide +kernel
theorem dX11_grown_40 : decode cX11_grown 40 = .ok (.getfield 66, 3) := by decide +kernel
theorem dX11_grown_43 : decode cX11_grown 43 = .ok (.aload_n 0, 1) := by decide +kernel
theorem dX11_grown_44 : decode cX11_grown 44 = .ok (.getfield 297, 3) := by decide +kernel
theorem dX11_grown_47 : decode cX11_grown 47 = .ok (.aload_n 0, 1) := by decide +kernel
theorem dX11_grown_48 : decode cX11_grown 48 = .ok (.getfield 190, 3) := by decide +kernel
theorem dX11_grown_51 : decode cX11_grown 51 = .ok (.iastore, 1) := by decide +kernel
theorem dX11_grown_52 : decode cX11_grown 52 = .ok (.aload_n 0, 1) := by decide +kernel
theorem dX11_grown_53 : decode cX11_grown 53 = .ok (.dup, 1) := by decide +kernel
theorem dX11_grown_54 : decode cX11_grown 54 = .ok (.getfield 297, 3) := by decide +kernel
theorem dX11_grown_57 : decode cX11_grown 57 = .ok (.iconst 1, 1) := by decide +kernel
theorem dX11_grown_58 : decode cX11_grown 58 = .ok (.iadd, 1) := by decide +kernel
theorem dX11_grown_59 : decode cX11_grown 59 = .ok (.putfield 297, 3) := by decide +kernel
theorem dX11_grown_62 : decode cX11_grown 62 = .ok (.aload_n 0, 1) := by decide +kernel
theorem dX11_grown_63 : decode cX11_grown 63 = .ok (.dup, 1) := by decide +kernel
theorem dX11_grown_64 : decode cX11_grown 64 = .ok (.getfield 190, 3) := by decide +kernel
theorem dX11_grown_67 : decode cX11_grown 67 = .ok (.iconst 1, 1) := by decide +kernel
theorem dX11_grown_68 : decode cX11_grown 68 = .ok (.iadd, 1) := by decide +kernel
theorem dX11_grown_69 : decode cX11_grown 69 = .ok (.putfield 190, 3) := by decide +kernel
theorem dX11_grown_72 : decode cX11_grown 72 = .ok (.return_, 1) := by decide +kernel
set_option maxRecDepth 10000 in
theorem vX11_grown_0 {κ : eg_K} {d : Nat} {post : eg_H → Prop} (M : eg_H) (l1 : Int32) (l2 : Int32) (l3 : Int32) (h : (vp_in ((64 : Int32) + (M.1 (60, 0) 22)) 128 ∧ (∀ M2 : eg_H, M2 = (sI M (99, 0) ((64 : Int32) + (M.1 (60, 0) 22)).toNatClampNeg l1) → (vp_in ((64 : Int32) + (M2.1 (60, 0) 22)) 128 ∧ (∀ M4 : eg_H, M4 = (sI M2 (100, 0) ((64 : Int32) + (M2.1 (60, 0) 22)).toNatClampNeg l2) → (vp_in ((64 : Int32) + (M4.1 (60, 0) 22)) 128 ∧ (∀ M6 : eg_H, M6 = (sI M4 (101, 0) ((64 : Int32) + (M4.1 (60, 0) 22)).toNatClampNeg l3) → (vp_in (M6.1 (60, 0) 44) 96 ∧ (∀ M8 : eg_H, M8 = (sI M6 (103, 0) (M6.1 (60, 0) 44).toNatClampNeg (M6.1 (60, 0) 22)) → (∀ M9 : eg_H, M9 = (sI M8 (60, 0) 44 ((M8.1 (60, 0) 44) + (1 : Int32))) → (∀ M10 : eg_H, M10 = (sI M9 (60, 0) 22 ((M9.1 (60, 0) 22) + (1 : Int32))) → post M10))))))))))) : eg_W κ gM mtX11_grown d (eQV κ gM post) 0 [(0, vR (60, 0)), (1, vI l1), (2, vI l2), (3, vI l3)] [] M := by
  refine eg_aload_n 0 dX11_grown_0 rfl rfl ?_
  refine eg_getR dX11_grown_1 fl_11_54 rfl rfl (obM_60 z1) ?_
  show eg_W κ gM mtX11_grown d (eQV κ gM post) 4 [(0, vR (60, 0)), (1, vI l1), (2, vI l2), (3, vI l3)] [vR (99, 0)] M
  refine eg_bipush dX11_grown_4 bp_64 ?_
  refine eg_aload_n 0 dX11_grown_6 rfl rfl ?_
  refine eg_getI dX11_grown_7 fl_11_190 rfl trivial (obM_60 z1) ?_
  refine eg_iadd dX11_grown_10 ?_
  refine eg_iload_n 1 dX11_grown_11 rfl rfl ?_
  obtain ⟨g1, h⟩ := h
  refine en_iastore dX11_grown_12 (arM_99 z1 g1) (fun M2 eM2 => ?_)
  have h := h M2 eM2
  refine eg_aload_n 0 dX11_grown_13 rfl rfl ?_
  refine eg_getR dX11_grown_14 fl_11_57 rfl rfl (obM_60 z1) ?_
  show eg_W κ gM mtX11_grown d (eQV κ gM post) 17 [(0, vR (60, 0)), (1, vI l1), (2, vI l2), (3, vI l3)] [vR (100, 0)] M2
  refine eg_bipush dX11_grown_17 bp_64 ?_
  refine eg_aload_n 0 dX11_grown_19 rfl rfl ?_
  refine eg_getI dX11_grown_20 fl_11_190 rfl trivial (obM_60 z1) ?_
  refine eg_iadd dX11_grown_23 ?_
  refine eg_iload_n 2 dX11_grown_24 rfl rfl ?_
  obtain ⟨g3, h⟩ := h
  refine en_iastore dX11_grown_25 (arM_100 z1 g3) (fun M4 eM4 => ?_)
  have h := h M4 eM4
  refine eg_aload_n 0 dX11_grown_26 rfl rfl ?_
  refine eg_getR dX11_grown_27 fl_11_60 rfl rfl (obM_60 z1) ?_
  show eg_W κ gM mtX11_grown d (eQV κ gM post) 30 [(0, vR (60, 0)), (1, vI l1), (2, vI l2), (3, vI l3)] [vR (101, 0)] M4
  refine eg_bipush dX11_grown_30 bp_64 ?_
  refine eg_aload_n 0 dX11_grown_32 rfl rfl ?_
  refine eg_getI dX11_grown_33 fl_11_190 rfl trivial (obM_60 z1) ?_
  refine eg_iadd dX11_grown_36 ?_
  refine eg_iload_n 3 dX11_grown_37 rfl rfl ?_
  obtain ⟨g5, h⟩ := h
  refine en_iastore dX11_grown_38 (arM_101 z1 g5) (fun M6 eM6 => ?_)
  have h := h M6 eM6
  refine eg_aload_n 0 dX11_grown_39 rfl rfl ?_
  refine eg_getR dX11_grown_40 fl_11_66 rfl rfl (obM_60 z1) ?_
  show eg_W κ gM mtX11_grown d (eQV κ gM post) 43 [(0, vR (60, 0)), (1, vI l1), (2, vI l2), (3, vI l3)] [vR (103, 0)] M6
  refine eg_aload_n 0 dX11_grown_43 rfl rfl ?_
  refine eg_getI dX11_grown_44 fl_11_297 rfl trivial (obM_60 z1) ?_
  refine eg_aload_n 0 dX11_grown_47 rfl rfl ?_
  refine eg_getI dX11_grown_48 fl_11_190 rfl trivial (obM_60 z1) ?_
  obtain ⟨g7, h⟩ := h
  refine en_iastore dX11_grown_51 (arM_103 z1 g7) (fun M8 eM8 => ?_)
  have h := h M8 eM8
  refine eg_aload_n 0 dX11_grown_52 rfl rfl ?_
  refine eg_dup dX11_grown_53 rfl ?_
  refine eg_getI dX11_grown_54 fl_11_297 rfl trivial (obM_60 z1) ?_
  refine eg_iconst dX11_grown_57 ic_1 ?_
  refine eg_iadd dX11_grown_58 ?_
  refine en_putI dX11_grown_59 fl_11_297 rfl rfl (obM_60 z1) (fun M9 eM9 => ?_)
  have h := h M9 eM9
  refine eg_aload_n 0 dX11_grown_62 rfl rfl ?_
  refine eg_dup dX11_grown_63 rfl ?_
  refine eg_getI dX11_grown_64 fl_11_190 rfl trivial (obM_60 z1) ?_
  refine eg_iconst dX11_grown_67 ic_1 ?_
  refine eg_iadd dX11_grown_68 ?_
  refine en_putI dX11_grown_69 fl_11_190 rfl rfl (obM_60 z1) (fun M10 eM10 => ?_)
  have h := h M10 eM10
  exact eg_vreturn dX11_grown_72 rfl h
theorem dX11_dropHeld_0 : decode cX11_dropHeld 0 = .ok (.aload_n 0, 1) := by decide +kernel
theorem dX11_dropHeld_1 : decode cX11_dropHeld 1 = .ok (.dup, 1) := by decide +kernel
theorem dX11_dropHeld_2 : decode cX11_dropHeld 2 = .ok (.getfield 297, 3) := by decide +kernel
theorem dX11_dropHeld_5 : decode cX11_dropHeld 5 = .ok (.iconst 1, 1) := by decide +kernel
theorem dX11_dropHeld_6 : decode cX11_dropHeld 6 = .ok (.isub, 1) := by decide +kernel
theorem dX11_dropHeld_7 : decode cX11_dropHeld 7 = .ok (.putfield 297, 3) := by decide +kernel
theorem dX11_dropHeld_10 : decode cX11_dropHeld 10 = .ok (.aload_n 0, 1) := by decide +kernel
theorem dX11_dropHeld_11 : decode cX11_dropHeld 11 = .ok (.getfield 66, 3) := by decide +kernel
theorem dX11_dropHeld_14 : decode cX11_dropHeld 14 = .ok (.aload_n 0, 1) := by decide +kernel
theorem dX11_dropHeld_15 : decode cX11_dropHeld 15 = .ok (.getfield 297, 3) := by decide +kernel
theorem dX11_dropHeld_18 : decode cX11_dropHeld 18 = .ok (.iaload, 1) := by decide +kernel
theorem dX11_dropHeld_19 : decode cX11_dropHeld 19 = .ok (.ireturn, 1) := by decide +kernel
set_option maxRecDepth 10000 in
theorem vX11_dropHeld_0 {κ : eg_K} {d : Nat} {post : Int32 → eg_H → Prop} (M : eg_H)  (h : (∀ M1 : eg_H, M1 = (sI M (60, 0) 44 ((M.1 (60, 0) 44) - (1 : Int32))) → (vp_in (M1.1 (60, 0) 44) 96 ∧ post (M1.1 (103, 0) (M1.1 (60, 0) 44).toNatClampNeg) M1))) : eg_W κ gM mtX11_dropHeld d (eQI κ gM post) 0 [(0, vR (60, 0))] [] M := by
  refine eg_aload_n 0 dX11_dropHeld_0 rfl rfl ?_
  refine eg_dup dX11_dropHeld_1 rfl ?_
  refine eg_getI dX11_dropHeld_2 fl_11_297 rfl trivial (obM_60 z1) ?_
  refine eg_iconst dX11_dropHeld_5 ic_1 ?_
  refine eg_isub dX11_dropHeld_6 ?_
  refine en_putI dX11_dropHeld_7 fl_11_297 rfl rfl (obM_60 z1) (fun M1 eM1 => ?_)
  have h := h M1 eM1
  refine eg_aload_n 0 dX11_dropHeld_10 rfl rfl ?_
  refine eg_getR dX11_dropHeld_11 fl_11_66 rfl rfl (obM_60 z1) ?_
  show eg_W κ gM mtX11_dropHeld d (eQI κ gM post) 14 [(0, vR (60, 0))] [vR (103, 0)] M1
  refine eg_aload_n 0 dX11_dropHeld_14 rfl rfl ?_
  refine eg_getI dX11_dropHeld_15 fl_11_297 rfl trivial (obM_60 z1) ?_
  obtain ⟨g2, h⟩ := h
  refine eg_iaload dX11_dropHeld_18 (arM_103 z1 g2) ?_
  exact eg_ireturn dX11_dropHeld_19 rfl h
theorem dX11_bind_0 : decode cX11_bind 0 = .ok (.aload_n 0, 1) := by decide +kernel
theorem dX11_bind_1 : decode cX11_bind 1 = .ok (.getfield 300, 3) := by decide +kernel
theorem dX11_bind_4 : decode cX11_bind 4 = .ok (.ifCond .le 72, 3) := by decide +kernel
theorem dX11_bind_7 : decode cX11_bind 7 = .ok (.aload_n 0, 1) := by decide +kernel
theorem dX11_bind_8 : decode cX11_bind 8 = .ok (.getfield 63, 3) := by decide +kernel
theorem dX11_bind_11 : decode cX11_bind 11 = .ok (.aload_n 0, 1) := by decide +kernel
theorem dX11_bind_12 : decode cX11_bind 12 = .ok (.getfield 300, 3) := by decide +kernel
theorem dX11_bind_15 : decode cX11_bind 15 = .ok (.iconst 1, 1) := by decide +kernel
theorem dX11_bind_16 : decode cX11_bind 16 = .ok (.isub, 1) := by decide +kernel
theorem dX11_bind_17 : decode cX11_bind 17 = .ok (.iaload, 1) := by decide +kernel
theorem dX11_bind_18 : decode cX11_bind 18 = .ok (.invokestatic 303, 3) := by decide +kernel
theorem dX11_bind_21 : decode cX11_bind 21 = .ok (.iload_n 1, 1) := by decide +kernel
theorem dX11_bind_22 : decode cX11_bind 22 = .ok (.if_icmp .lt 54, 3) := by decide +kernel
theorem dX11_bind_25 : decode cX11_bind 25 = .ok (.aload_n 0, 1) := by decide +kernel
theorem dX11_bind_26 : decode cX11_bind 26 = .ok (.dup, 1) := by decide +kernel
theorem dX11_bind_27 : decode cX11_bind 27 = .ok (.getfield 300, 3) := by decide +kernel
theorem dX11_bind_30 : decode cX11_bind 30 = .ok (.iconst 1, 1) := by decide +kernel
theorem dX11_bind_31 : decode cX11_bind 31 = .ok (.isub, 1) := by decide +kernel
theorem dX11_bind_32 : decode cX11_bind 32 = .ok (.putfield 300, 3) := by decide +kernel
theorem dX11_bind_35 : decode cX11_bind 35 = .ok (.aload_n 0, 1) := by decide +kernel
theorem dX11_bind_36 : decode cX11_bind 36 = .ok (.getfield 63, 3) := by decide +kernel
theorem dX11_bind_39 : decode cX11_bind 39 = .ok (.aload_n 0, 1) := by decide +kernel
theorem dX11_bind_40 : decode cX11_bind 40 = .ok (.getfield 300, 3) := by decide +kernel
theorem dX11_bind_43 : decode cX11_bind 43 = .ok (.iaload, 1) := by decide +kernel
theorem dX11_bind_44 : decode cX11_bind 44 = .ok (.istore_n 2, 1) := by decide +kernel
theorem dX11_bind_45 : decode cX11_bind 45 = .ok (.iload_n 2, 1) := by decide +kernel
theorem dX11_bind_46 : decode cX11_bind 46 = .ok (.iconst 2, 1) := by decide +kernel
theorem dX11_bind_47 : decode cX11_bind 47 = .ok (.if_icmp .ne 7, 3) := by decide +kernel
theorem dX11_bind_50 : decode cX11_bind 50 = .ok (.iconst (-1), 1) := by decide +kernel
theorem dX11_bind_51 : decode cX11_bind 51 = .ok (.goto 7, 3) := by decide +kernel
theorem dX11_bind_54 : decode cX11_bind 54 = .ok (.aload_n 0, 1) := by decide +kernel
theorem dX11_bind_55 : decode cX11_bind 55 = .ok (.invokevirtual 307, 3) := by decide +kernel
theorem dX11_bind_58 : decode cX11_bind 58 = .ok (.istore_n 3, 1) := by decide +kernel
theorem dX11_bind_59 : decode cX11_bind 59 = .ok (.aload_n 0, 1) := by decide +kernel
theorem dX11_bind_60 : decode cX11_bind 60 = .ok (.invokevirtual 307, 3) := by decide +kernel
theorem dX11_bind_63 : decode cX11_bind 63 = .ok (.istore 4, 2) := by decide +kernel
theorem dX11_bind_65 : decode cX11_bind 65 = .ok (.aload_n 0, 1) := by decide +kernel
theorem dX11_bind_66 : decode cX11_bind 66 = .ok (.iload_n 2, 1) := by decide +kernel
theorem dX11_bind_67 : decode cX11_bind 67 = .ok (.iload 4, 2) := by decide +kernel
theorem dX11_bind_69 : decode cX11_bind 69 = .ok (.iload_n 3, 1) := by decide +kernel
theorem dX11_bind_70 : decode cX11_bind 70 = .ok (.invokevirtual 310, 3) := by decide +kernel
theorem dX11_bind_73 : decode cX11_bind 73 = .ok (.goto (-73), 3) := by decide +kernel
theorem dX11_bind_76 : decode cX11_bind 76 = .ok (.return_, 1) := by decide +kernel
set_option maxRecDepth 10000 in
theorem vX11_bind_0 {κ : eg_K} {d : Nat} (hd : 1 ≤ d) {post : eg_H → Prop} (M : eg_H) (l1 : Int32) (h : ((M.1 (60, 0) 43) ≤ 0 → post M) ∧ ((¬ (M.1 (60, 0) 43) ≤ 0) → (vp_in ((M.1 (60, 0) 43) - (1 : Int32)) 96 ∧ eCI κ gM mtX11_rank d [vI (M.1 (102, 0) ((M.1 (60, 0) 43) - (1 : Int32)).toNatClampNeg)] M (fun x3 M4 => (x3 < l1 → post M4) ∧ ((¬ x3 < l1) → (∀ M7 : eg_H, M7 = (sI M4 (60, 0) 43 ((M4.1 (60, 0) 43) - (1 : Int32))) → (vp_in (M7.1 (60, 0) 43) 96 ∧ (∀ x9 : Int32, x9 = (M7.1 (102, 0) (M7.1 (60, 0) 43).toNatClampNeg) → ((¬ x9 = (2 : Int32)) → eCI κ gM mtX11_dropHeld d [vR (60, 0)] M7 (fun x11 M12 => eg_W κ gM mtX11_bind d (eQV κ gM post) 58 [(0, vR (60, 0)), (1, vI l1), (2, vI x9)] [vI x11] M12)) ∧ (x9 = (2 : Int32) → eg_W κ gM mtX11_bind d (eQV κ gM post) 58 [(0, vR (60, 0)), (1, vI l1), (2, vI x9)] [vI (-1 : Int32)] M7))))))))) : eg_W κ gM mtX11_bind d (eQV κ gM post) 0 [(0, vR (60, 0)), (1, vI l1)] [] M := by
  refine eg_aload_n 0 dX11_bind_0 rfl rfl ?_
  refine eg_getI dX11_bind_1 fl_11_300 rfl trivial (obM_60 z1) ?_
  refine eg_if_le (tgt := 76) dX11_bind_4 rfl (fun c1 => ?_) (fun c1 => ?_)
  · have h := h.1 c1
    exact eg_vreturn dX11_bind_76 rfl h
  · have h := h.2 c1
    refine eg_aload_n 0 dX11_bind_7 rfl rfl ?_
    refine eg_getR dX11_bind_8 fl_11_63 rfl rfl (obM_60 z1) ?_
    show eg_W κ gM mtX11_bind d (eQV κ gM post) 11 [(0, vR (60, 0)), (1, vI l1)] [vR (102, 0)] M
    refine eg_aload_n 0 dX11_bind_11 rfl rfl ?_
    refine eg_getI dX11_bind_12 fl_11_300 rfl trivial (obM_60 z1) ?_
    refine eg_iconst dX11_bind_15 ic_1 ?_
    refine eg_isub dX11_bind_16 ?_
    obtain ⟨g2, h⟩ := h
    refine eg_iaload dX11_bind_17 (arM_102 z1 g2) ?_
    obtain ⟨q5, hq5, h⟩ := h
    refine eg_callSI (av := [vI (M.1 (102, 0) ((M.1 (60, 0) 43) - (1 : Int32)).toNatClampNeg)]) (st := []) dX11_bind_18 ml_11_303 rfl rfl (Nat.le_of_ble_eq_true rfl) (eg_dd hd) hq5 (fun x3 M4 hp => ?_)
    have h := h x3 M4 hp
    refine eg_iload_n 1 dX11_bind_21 rfl rfl ?_
    refine eg_icmp_lt (tgt := 76) dX11_bind_22 rfl (fun c6 => ?_) (fun c6 => ?_)
    · have h := h.1 c6
      exact eg_vreturn dX11_bind_76 rfl h
    · have h := h.2 c6
      refine eg_aload_n 0 dX11_bind_25 rfl rfl ?_
      refine eg_dup dX11_bind_26 rfl ?_
      refine eg_getI dX11_bind_27 fl_11_300 rfl trivial (obM_60 z1) ?_
      refine eg_iconst dX11_bind_30 ic_1 ?_
      refine eg_isub dX11_bind_31 ?_
      refine en_putI dX11_bind_32 fl_11_300 rfl rfl (obM_60 z1) (fun M7 eM7 => ?_)
      have h := h M7 eM7
      refine eg_aload_n 0 dX11_bind_35 rfl rfl ?_
      refine eg_getR dX11_bind_36 fl_11_63 rfl rfl (obM_60 z1) ?_
      show eg_W κ gM mtX11_bind d (eQV κ gM post) 39 [(0, vR (60, 0)), (1, vI l1)] [vR (102, 0)] M7
      refine eg_aload_n 0 dX11_bind_39 rfl rfl ?_
      refine eg_getI dX11_bind_40 fl_11_300 rfl trivial (obM_60 z1) ?_
      obtain ⟨g8, h⟩ := h
      refine eg_iaload dX11_bind_43 (arM_102 z1 g8) ?_
      refine en_istore_n (f := fun x9 => [(2, vI x9), (0, vR (60, 0)), (1, vI l1)]) dX11_bind_44 rfl (by decide) rfl (fun x9 ex9 => ?_)
      have h := h x9 ex9
      refine eg_iload_n 0 dX11_bind_45 rfl rfl ?_
      refine eg_iconst dX11_bind_46 ic_2 ?_
      refine eg_icmp_ne (tgt := 54) dX11_bind_47 rfl (fun c10 => ?_) (fun c10 => ?_)
      · have h := h.1 c10
        refine eg_aload_n 1 dX11_bind_54 rfl rfl ?_
        obtain ⟨q13, hq13, h⟩ := h
        refine eg_callVI (av := []) (st := []) dX11_bind_55 ml_11_307 rfl rfl (obM_60 z1) (by decide) rfl (Nat.le_of_ble_eq_true rfl) (eg_dd hd) hq13 (fun x11 M12 hp => ?_)
        have h := h x11 M12 hp
        refine eg_sub [1, 2, 0] rfl ?_
        exact h
      · have h := h.2 c10
        refine eg_iconst dX11_bind_50 ic_m1 ?_
        refine eg_goto (tgt := 58) dX11_bind_51 rfl ?_
        refine eg_sub [1, 2, 0] rfl ?_
        exact h
set_option maxRecDepth 10000 in
theorem vX11_bind_58 {κ : eg_K} {d : Nat} (hd : 1 ≤ d) {post : eg_H → Prop} (M : eg_H) (l1 : Int32) (l2 : Int32) (s0 : Int32) (h : eCI κ gM mtX11_dropHeld d [vR (60, 0)] M (fun x1 M2 => eCV κ gM mtX11_grown d [vR (60, 0), vI l2, vI x1, vI s0] M2 (fun M4 => eg_W κ gM mtX11_bind d (eQV κ gM post) 0 [(0, vR (60, 0)), (1, vI l1)] [] M4))) : eg_W κ gM mtX11_bind d (eQV κ gM post) 58 [(0, vR (60, 0)), (1, vI l1), (2, vI l2)] [vI s0] M := by
  refine eg_istore_n dX11_bind_58 rfl (by decide) (ls1 := [(3, vI s0), (0, vR (60, 0)), (1, vI l1), (2, vI l2)]) rfl ?_
  refine eg_aload_n 1 dX11_bind_59 rfl rfl ?_
  obtain ⟨q3, hq3, h⟩ := h
  refine eg_callVI (av := []) (st := []) dX11_bind_60 ml_11_307 rfl rfl (obM_60 z1) (by decide) rfl (Nat.le_of_ble_eq_true rfl) (eg_dd hd) hq3 (fun x1 M2 hp => ?_)
  have h := h x1 M2 hp
  refine eg_istore dX11_bind_63 (by decide) (ls1 := [(4, vI x1), (3, vI s0), (0, vR (60, 0)), (1, vI l1), (2, vI l2)]) rfl ?_
  refine eg_aload_n 2 dX11_bind_65 rfl rfl ?_
  refine eg_iload_n 4 dX11_bind_66 rfl rfl ?_
  refine eg_iload 0 dX11_bind_67 rfl ?_
  refine eg_iload_n 1 dX11_bind_69 rfl rfl ?_
  obtain ⟨q5, hq5, h⟩ := h
  refine eg_callVV (av := [vI l2, vI x1, vI s0]) (st := []) dX11_bind_70 ml_11_310 rfl rfl (obM_60 z1) (by decide) rfl (Nat.le_of_ble_eq_true rfl) (eg_dd hd) hq5 (fun M4 hp => ?_)
  have h := h M4 hp
  refine eg_goto (tgt := 0) dX11_bind_73 rfl ?_
  refine eg_sub [2, 3] rfl ?_
  exact h
theorem dX11_isCounted_0 : decode cX11_isCounted 0 = .ok (.aload_n 0, 1) := by decide +kernel
theorem dX11_isCounted_1 : decode cX11_isCounted 1 = .ok (.getfield 193, 3) := by decide +kernel
theorem dX11_isCounted_4 : decode cX11_isCounted 4 = .ok (.bipush 64, 2) := by decide +kernel
theorem dX11_isCounted_6 : decode cX11_isCounted 6 = .ok (.if_icmp .ne 9, 3) := by decide +kernel
theorem dX11_isCounted_9 : decode cX11_isCounted 9 = .ok (.aload_n 0, 1) := by decide +kernel
theorem dX11_isCounted_10 : decode cX11_isCounted 10 = .ok (.iconst 2, 1) := by decide +kernel
theorem dX11_isCounted_11 : decode cX11_isCounted 11 = .ok (.invokevirtual 168, 3) := by decide +kernel
theorem dX11_isCounted_14 : decode cX11_isCounted 14 = .ok (.ireturn, 1) := by decide +kernel
theorem dX11_isCounted_15 : decode cX11_isCounted 15 = .ok (.aload_n 0, 1) := by decide +kernel
theorem dX11_isCounted_16 : decode cX11_isCounted 16 = .ok (.dup, 1) := by decide +kernel
theorem dX11_isCounted_17 : decode cX11_isCounted 17 = .ok (.getfield 193, 3) := by decide +kernel
theorem dX11_isCounted_20 : decode cX11_isCounted 20 = .ok (.iconst 1, 1) := by decide +kernel
theorem dX11_isCounted_21 : decode cX11_isCounted 21 = .ok (.iadd, 1) := by decide +kernel
theorem dX11_isCounted_22 : decode cX11_isCounted 22 = .ok (.putfield 193, 3) := by decide +kernel
theorem dX11_isCounted_25 : decode cX11_isCounted 25 = .ok (.iconst 1, 1) := by decide +kernel
theorem dX11_isCounted_26 : decode cX11_isCounted 26 = .ok (.ireturn, 1) := by decide +kernel
set_option maxRecDepth 10000 in
theorem vX11_isCounted_0 {κ : eg_K} {d : Nat} (hd : 1 ≤ d) {post : Int32 → eg_H → Prop} (M : eg_H)  (h : ((¬ (M.1 (60, 0) 46) = (64 : Int32)) → (∀ M2 : eg_H, M2 = (sI M (60, 0) 46 ((M.1 (60, 0) 46) + (1 : Int32))) → post (1 : Int32) M2)) ∧ ((M.1 (60, 0) 46) = (64 : Int32) → eCI κ gM mtX11_wrong d [vR (60, 0), vI (2 : Int32)] M (fun x3 M4 => ((x3 = 0 ∨ x3 = 1) ∧ post x3 M4)))) : eg_W κ gM mtX11_isCounted d (eQI κ gM post) 0 [(0, vR (60, 0))] [] M := by
  refine eg_aload_n 0 dX11_isCounted_0 rfl rfl ?_
  refine eg_getI dX11_isCounted_1 fl_11_193 rfl trivial (obM_60 z1) ?_
  refine eg_bipush dX11_isCounted_4 bp_64 ?_
  refine eg_icmp_ne (tgt := 15) dX11_isCounted_6 rfl (fun c1 => ?_) (fun c1 => ?_)
  · have h := h.1 c1
    refine eg_aload_n 0 dX11_isCounted_15 rfl rfl ?_
    refine eg_dup dX11_isCounted_16 rfl ?_
    refine eg_getI dX11_isCounted_17 fl_11_193 rfl trivial (obM_60 z1) ?_
    refine eg_iconst dX11_isCounted_20 ic_1 ?_
    refine eg_iadd dX11_isCounted_21 ?_
    refine en_putI dX11_isCounted_22 fl_11_193 rfl rfl (obM_60 z1) (fun M2 eM2 => ?_)
    have h := h M2 eM2
    refine eg_iconst dX11_isCounted_25 ic_1 ?_
    exact eg_zreturn dX11_isCounted_26 rfl (Or.inr rfl) h
  · have h := h.2 c1
    refine eg_aload_n 0 dX11_isCounted_9 rfl rfl ?_
    refine eg_iconst dX11_isCounted_10 ic_2 ?_
    obtain ⟨q5, hq5, h⟩ := h
    refine eg_callVI (av := [vI (2 : Int32)]) (st := []) dX11_isCounted_11 ml_11_168 rfl rfl (obM_60 z1) (by decide) rfl (Nat.le_of_ble_eq_true rfl) (eg_dd hd) hq5 (fun x3 M4 hp => ?_)
    have h := h x3 M4 hp
    obtain ⟨g6, h⟩ := h
    exact eg_zreturn dX11_isCounted_14 rfl g6 h
theorem dX11_waitsFor_0 : decode cX11_waitsFor 0 = .ok (.aload_n 0, 1) := by decide +kernel
theorem dX11_waitsFor_1 : decode cX11_waitsFor 1 = .ok (.getfield 63, 3) := by decide +kernel
theorem dX11_waitsFor_4 : decode cX11_waitsFor 4 = .ok (.aload_n 0, 1) := by decide +kernel
theorem dX11_waitsFor_5 : decode cX11_waitsFor 5 = .ok (.getfield 300, 3) := by decide +kernel
theorem dX11_waitsFor_8 : decode cX11_waitsFor 8 = .ok (.iload_n 1, 1) := by decide +kernel
theorem dX11_waitsFor_9 : decode cX11_waitsFor 9 = .ok (.iastore, 1) := by decide +kernel
theorem dX11_waitsFor_10 : decode cX11_waitsFor 10 = .ok (.aload_n 0, 1) := by decide +kernel
theorem dX11_waitsFor_11 : decode cX11_waitsFor 11 = .ok (.dup, 1) := by decide +kernel
theorem dX11_waitsFor_12 : decode cX11_waitsFor 12 = .ok (.getfield 300, 3) := by decide +kernel
theorem dX11_waitsFor_15 : decode cX11_waitsFor 15 = .ok (.iconst 1, 1) := by decide +kernel
theorem dX11_waitsFor_16 : decode cX11_waitsFor 16 = .ok (.iadd, 1) := by decide +kernel
theorem dX11_waitsFor_17 : decode cX11_waitsFor 17 = .ok (.putfield 300, 3) := by decide +kernel
theorem dX11_waitsFor_20 : decode cX11_waitsFor 20 = .ok (.return_, 1) := by decide +kernel
set_option maxRecDepth 10000 in
theorem vX11_waitsFor_0 {κ : eg_K} {d : Nat} {post : eg_H → Prop} (M : eg_H) (l1 : Int32) (h : (vp_in (M.1 (60, 0) 43) 96 ∧ (∀ M2 : eg_H, M2 = (sI M (102, 0) (M.1 (60, 0) 43).toNatClampNeg l1) → (∀ M3 : eg_H, M3 = (sI M2 (60, 0) 43 ((M2.1 (60, 0) 43) + (1 : Int32))) → post M3)))) : eg_W κ gM mtX11_waitsFor d (eQV κ gM post) 0 [(0, vR (60, 0)), (1, vI l1)] [] M := by
  refine eg_aload_n 0 dX11_waitsFor_0 rfl rfl ?_
  refine eg_getR dX11_waitsFor_1 fl_11_63 rfl rfl (obM_60 z1) ?_
  show eg_W κ gM mtX11_waitsFor d (eQV κ gM post) 4 [(0, vR (60, 0)), (1, vI l1)] [vR (102, 0)] M
  refine eg_aload_n 0 dX11_waitsFor_4 rfl rfl ?_
  refine eg_getI dX11_waitsFor_5 fl_11_300 rfl trivial (obM_60 z1) ?_
  refine eg_iload_n 1 dX11_waitsFor_8 rfl rfl ?_
  obtain ⟨g1, h⟩ := h
  refine en_iastore dX11_waitsFor_9 (arM_102 z1 g1) (fun M2 eM2 => ?_)
  have h := h M2 eM2
  refine eg_aload_n 0 dX11_waitsFor_10 rfl rfl ?_
  refine eg_dup dX11_waitsFor_11 rfl ?_
  refine eg_getI dX11_waitsFor_12 fl_11_300 rfl trivial (obM_60 z1) ?_
  refine eg_iconst dX11_waitsFor_15 ic_1 ?_
  refine eg_iadd dX11_waitsFor_16 ?_
  refine en_putI dX11_waitsFor_17 fl_11_300 rfl rfl (obM_60 z1) (fun M3 eM3 => ?_)
  have h := h M3 eM3
  exact eg_vreturn dX11_waitsFor_20 rfl h
theorem dX11_leafRead_0 : decode cX11_leafRead 0 = .ok (.aload_n 0, 1) := by decide +kernel
theorem dX11_leafRead_1 : decode cX11_leafRead 1 = .ok (.bipush 40, 2) := by decide +kernel
theorem dX11_leafRead_3 : decode cX11_leafRead 3 = .ok (.invokevirtual 291, 3) := by decide +kernel
theorem dX11_leafRead_6 : decode cX11_leafRead 6 = .ok (.ifCond .eq 44, 3) := by decide +kernel
theorem dX11_leafRead_9 : decode cX11_leafRead 9 = .ok (.aload_n 0, 1) := by decide +kernel
theorem dX11_leafRead_10 : decode cX11_leafRead 10 = .ok (.getfield 314, 3) := by decide +kernel
theorem dX11_leafRead_13 : decode cX11_leafRead 13 = .ok (.bipush 8, 2) := by decide +kernel
theorem dX11_leafRead_15 : decode cX11_leafRead 15 = .ok (.if_icmp .ne 9, 3) := by decide +kernel
theorem dX11_leafRead_18 : decode cX11_leafRead 18 = .ok (.aload_n 0, 1) := by decide +kernel
theorem dX11_leafRead_19 : decode cX11_leafRead 19 = .ok (.iconst 2, 1) := by decide +kernel
theorem dX11_leafRead_20 : decode cX11_leafRead 20 = .ok (.invokevirtual 168, 3) := by decide +kernel
theorem dX11_leafRead_23 : decode cX11_leafRead 23 = .ok (.ireturn, 1) := by decide +kernel
theorem dX11_leafRead_24 : decode cX11_leafRead 24 = .ok (.aload_n 0, 1) := by decide +kernel
theorem dX11_leafRead_25 : decode cX11_leafRead 25 = .ok (.dup, 1) := by decide +kernel
theorem dX11_leafRead_26 : decode cX11_leafRead 26 = .ok (.getfield 314, 3) := by decide +kernel
theorem dX11_leafRead_29 : decode cX11_leafRead 29 = .ok (.iconst 1, 1) := by decide +kernel
theorem dX11_leafRead_30 : decode cX11_leafRead 30 = .ok (.iadd, 1) := by decide +kernel
theorem dX11_leafRead_31 : decode cX11_leafRead 31 = .ok (.putfield 314, 3) := by decide +kernel
theorem dX11_leafRead_34 : decode cX11_leafRead 34 = .ok (.aload_n 0, 1) := by decide +kernel
theorem dX11_leafRead_35 : decode cX11_leafRead 35 = .ok (.iconst 0, 1) := by decide +kernel
theorem dX11_leafRead_36 : decode cX11_leafRead 36 = .ok (.invokevirtual 317, 3) := by decide +kernel
theorem dX11_leafRead_39 : decode cX11_leafRead 39 = .ok (.aload_n 0, 1) := by decide +kernel
theorem dX11_leafRead_40 : decode cX11_leafRead 40 = .ok (.iconst 1, 1) := by decide +kernel
theorem dX11_leafRead_41 : decode cX11_leafRead 41 = .ok (.putfield 321, 3) := by decide +kernel
theorem dX11_leafRead_44 : decode cX11_leafRead 44 = .ok (.aload_n 0, 1) := by decide +kernel
theorem dX11_leafRead_45 : decode cX11_leafRead 45 = .ok (.invokevirtual 178, 3) := by decide +kernel
theorem dX11_leafRead_48 : decode cX11_leafRead 48 = .ok (.iconst 1, 1) := by decide +kernel
theorem dX11_leafRead_49 : decode cX11_leafRead 49 = .ok (.ireturn, 1) := by decide +kernel
theorem dX11_leafRead_50 : decode cX11_leafRead 50 = .ok (.aload_n 0, 1) := by decide +kernel
theorem dX11_leafRead_51 : decode cX11_leafRead 51 = .ok (.bipush 15, 2) := by decide +kernel
theorem dX11_leafRead_53 : decode cX11_leafRead 53 = .ok (.invokevirtual 265, 3) := by decide +kernel
theorem dX11_leafRead_56 : decode cX11_leafRead 56 = .ok (.ifCond .eq 30, 3) := by decide +kernel
theorem dX11_leafRead_59 : decode cX11_leafRead 59 = .ok (.aload_n 0, 1) := by decide +kernel
theorem dX11_leafRead_60 : decode cX11_leafRead 60 = .ok (.getfield 321, 3) := by decide +kernel
theorem dX11_leafRead_63 : decode cX11_leafRead 63 = .ok (.ifCond .eq 23, 3) := by decide +kernel
theorem dX11_leafRead_66 : decode cX11_leafRead 66 = .ok (.aload_n 0, 1) := by decide +kernel
theorem dX11_leafRead_67 : decode cX11_leafRead 67 = .ok (.invokevirtual 324, 3) := by decide +kernel
theorem dX11_leafRead_70 : decode cX11_leafRead 70 = .ok (.ifCond .ne 5, 3) := by decide +kernel
theorem dX11_leafRead_73 : decode cX11_leafRead 73 = .ok (.iconst 0, 1) := by decide +kernel
theorem dX11_leafRead_74 : decode cX11_leafRead 74 = .ok (.ireturn, 1) := by decide +kernel
theorem dX11_leafRead_75 : decode cX11_leafRead 75 = .ok (.aload_n 0, 1) := by decide +kernel
theorem dX11_leafRead_76 : decode cX11_leafRead 76 = .ok (.iconst 2, 1) := by decide +kernel
theorem dX11_leafRead_77 : decode cX11_leafRead 77 = .ok (.invokevirtual 317, 3) := by decide +kernel
theorem dX11_leafRead_80 : decode cX11_leafRead 80 = .ok (.aload_n 0, 1) := by decide +kernel
theorem dX11_leafRead_81 : decode cX11_leafRead 81 = .ok (.invokevirtual 178, 3) := by decide +kernel
theorem dX11_leafRead_84 : decode cX11_leafRead 84 = .ok (.iconst 1, 1) := by decide +kernel
theorem dX11_leafRead_85 : decode cX11_leafRead 85 = .ok (.ireturn, 1) := by decide +kernel
theorem dX11_leafRead_86 : decode cX11_leafRead 86 = .ok (.aload_n 0, 1) := by decide +kernel
theorem dX11_leafRead_87 : decode cX11_leafRead 87 = .ok (.getfield 145, 3) := by decide +kernel
theorem dX11_leafRead_90 : decode cX11_leafRead 90 = .ok (.iconst 1, 1) := by decide +kernel
theorem dX11_leafRead_91 : decode cX11_leafRead 91 = .ok (.if_icmp .ne 16, 3) := by decide +kernel
theorem dX11_leafRead_94 : decode cX11_leafRead 94 = .ok (.aload_n 0, 1) := by decide +kernel
theorem dX11_leafRead_95 : decode cX11_leafRead 95 = .ok (.getfield 156, 3) := by decide +kernel
theorem dX11_leafRead_98 : decode cX11_leafRead 98 = .ok (.bipush 16, 2) := by decide +kernel
theorem dX11_leafRead_100 : decode cX11_leafRead 100 = .ok (.if_icmp .lt 7, 3) := by decide +kernel
theorem dX11_leafRead_103 : decode cX11_leafRead 103 = .ok (.iconst 1, 1) := by decide +kernel
theorem dX11_leafRead_104 : decode cX11_leafRead 104 = .ok (.goto 4, 3) := by decide +kernel
theorem dX11_leafRead_107 : decode cX11_leafRead 107 = .ok (.iconst 0, 1) := by decide +kernel
theorem dX11_leafRead_108 : decode cX11_leafRead 108 = .ok (.istore_n 1, 1) := by decide +kernel
theorem dX11_leafRead_109 : decode cX11_leafRead 109 = .ok (.iload_n 1, 1) := by decide +kernel
theorem dX11_leafRead_110 : decode cX11_leafRead 110 = .ok (.ifCond .ne 17, 3) := by decide +kernel
theorem dX11_leafRead_113 : decode cX11_leafRead 113 = .ok (.aload_n 0, 1) := by decide +kernel
theorem dX11_leafRead_114 : decode cX11_leafRead 114 = .ok (.getfield 145, 3) := by decide +kernel
theorem dX11_leafRead_117 : decode cX11_leafRead 117 = .ok (.iconst 3, 1) := by decide +kernel
theorem dX11_leafRead_118 : decode cX11_leafRead 118 = .ok (.if_icmp .eq 9, 3) := by decide +kernel
theorem dX11_leafRead_121 : decode cX11_leafRead 121 = .ok (.aload_n 0, 1) := by decide +kernel
theorem dX11_leafRead_122 : decode cX11_leafRead 122 = .ok (.iconst 1, 1) := by decide +kernel
theorem dX11_leafRead_123 : decode cX11_leafRead 123 = .ok (.invokevirtual 168, 3) := by decide +kernel
theorem dX11_leafRead_126 : decode cX11_leafRead 126 = .ok (.ireturn, 1) := by decide +kernel
theorem dX11_leafRead_127 : decode cX11_leafRead 127 = .ok (.iload_n 1, 1) := by decide +kernel
theorem dX11_leafRead_128 : decode cX11_leafRead 128 = .ok (.ifCond .ne 19, 3) := by decide +kernel
theorem dX11_leafRead_131 : decode cX11_leafRead 131 = .ok (.aload_n 0, 1) := by decide +kernel
theorem dX11_leafRead_132 : decode cX11_leafRead 132 = .ok (.getfield 156, 3) := by decide +kernel
theorem dX11_leafRead_135 : decode cX11_leafRead 135 = .ok (.sipush 9999, 3) := by decide +kernel
theorem dX11_leafRead_138 : decode cX11_leafRead 138 = .ok (.if_icmp .le 9, 3) := by decide +kernel
theorem dX11_leafRead_141 : decode cX11_leafRead 141 = .ok (.aload_n 0, 1) := by decide +kernel
theorem dX11_leafRead_142 : decode cX11_leafRead 142 = .ok (.iconst 2, 1) := by decide +kernel
theorem dX11_leafRead_143 : decode cX11_leafRead 143 = .ok (.invokevirtual 168, 3) := by decide +kernel
theorem dX11_leafRead_146 : decode cX11_leafRead 146 = .ok (.ireturn, 1) := by decide +kernel
theorem dX11_leafRead_147 : decode cX11_leafRead 147 = .ok (.aload_n 0, 1) := by decide +kernel
theorem dX11_leafRead_148 : decode cX11_leafRead 148 = .ok (.invokevirtual 324, 3) := by decide +kernel
theorem dX11_leafRead_151 : decode cX11_leafRead 151 = .ok (.ifCond .ne 5, 3) := by decide +kernel
theorem dX11_leafRead_154 : decode cX11_leafRead 154 = .ok (.iconst 0, 1) := by decide +kernel
theorem dX11_leafRead_155 : decode cX11_leafRead 155 = .ok (.ireturn, 1) := by decide +kernel
theorem dX11_leafRead_156 : decode cX11_leafRead 156 = .ok (.aload_n 0, 1) := by decide +kernel
theorem dX11_leafRead_157 : decode cX11_leafRead 157 = .ok (.iload_n 1, 1) := by decide +kernel
theorem dX11_leafRead_158 : decode cX11_leafRead 158 = .ok (.ifCond .eq 7, 3) := by decide +kernel
theorem dX11_leafRead_161 : decode cX11_leafRead 161 = .ok (.iconst 1, 1) := by decide +kernel
theorem dX11_leafRead_162 : decode cX11_leafRead 162 = .ok (.goto 4, 3) := by decide +kernel
theorem dX11_leafRead_165 : decode cX11_leafRead 165 = .ok (.iconst 0, 1) := by decide +kernel
theorem dX11_leafRead_166 : decode cX11_leafRead 166 = .ok (.iload_n 1, 1) := by decide +kernel
theorem dX11_leafRead_167 : decode cX11_leafRead 167 = .ok (.ifCond .eq 13, 3) := by decide +kernel
theorem dX11_leafRead_170 : decode cX11_leafRead 170 = .ok (.aload_n 0, 1) := by decide +kernel
theorem dX11_leafRead_171 : decode cX11_leafRead 171 = .ok (.getfield 156, 3) := by decide +kernel
theorem dX11_leafRead_174 : decode cX11_leafRead 174 = .ok (.bipush 16, 2) := by decide +kernel
theorem dX11_leafRead_176 : decode cX11_leafRead 176 = .ok (.isub, 1) := by decide +kernel
theorem dX11_leafRead_177 : decode cX11_leafRead 177 = .ok (.goto 7, 3) := by decide +kernel
theorem dX11_leafRead_180 : decode cX11_leafRead 180 = .ok (.aload_n 0, 1) := by decide +kernel
theorem dX11_leafRead_181 : decode cX11_leafRead 181 = .ok (.getfield 156, 3) := by decide +kernel
theorem dX11_leafRead_184 : decode cX11_leafRead 184 = .ok (.iconst 0, 1) := by decide +kernel
theorem dX11_leafRead_185 : decode cX11_leafRead 185 = .ok (.invokevirtual 310, 3) := by decide +kernel
theorem dX11_leafRead_188 : decode cX11_leafRead 188 = .ok (.aload_n 0, 1) := by decide +kernel
theorem dX11_leafRead_189 : decode cX11_leafRead 189 = .ok (.iconst 0, 1) := by decide +kernel
theorem dX11_leafRead_190 : decode cX11_leafRead 190 = .ok (.putfield 327, 3) := by decide +kernel
theorem dX11_leafRead_193 : decode cX11_leafRead 193 = .ok (.aload_n 0, 1) := by decide +kernel
theorem dX11_leafRead_194 : decode cX11_leafRead 194 = .ok (.invokevirtual 178, 3) := by decide +kernel
theorem dX11_leafRead_197 : decode cX11_leafRead 197 = .ok (.iconst 1, 1) := by decide +kernel
theorem dX11_leafRead_198 : decode cX11_leafRead 198 = .ok (.ireturn, 1) := by decide +kernel
set_option maxRecDepth 10000 in
theorem vX11_leafRead_0 {κ : eg_K} {d : Nat} (hd : 1 ≤ d) {post : Int32 → eg_H → Prop} (M : eg_H)  (h : eCI κ gM mtX11_isSign d [vR (60, 0), vI (40 : Int32)] M (fun x1 M2 => (x1 = 0 → eCI κ gM mtX11_isKey d [vR (60, 0), vI (15 : Int32)] M2 (fun x5 M6 => (x5 = 0 → eg_W κ gM mtX11_leafRead d (eQI κ gM post) 86 [(0, vR (60, 0))] [] M6) ∧ ((¬ x5 = 0) → ((M6.1 (60, 0) 48) = 0 → eg_W κ gM mtX11_leafRead d (eQI κ gM post) 86 [(0, vR (60, 0))] [] M6) ∧ ((¬ (M6.1 (60, 0) 48) = 0) → eCI κ gM mtX11_isCounted d [vR (60, 0)] M6 (fun x10 M11 => ((¬ x10 = 0) → eCV κ gM mtX11_waitsFor d [vR (60, 0), vI (2 : Int32)] M11 (fun M14 => eCV κ gM mtX11_token d [vR (60, 0)] M14 (fun M16 => post (1 : Int32) M16))) ∧ (x10 = 0 → post (0 : Int32) M11)))))) ∧ ((¬ x1 = 0) → ((¬ (M2.1 (60, 0) 45) = (8 : Int32)) → (∀ M19 : eg_H, M19 = (sI M2 (60, 0) 45 ((M2.1 (60, 0) 45) + (1 : Int32))) → eCV κ gM mtX11_waitsFor d [vR (60, 0), vI (0 : Int32)] M19 (fun M20 => (∀ M22 : eg_H, M22 = (sI M20 (60, 0) 48 (1 : Int32)) → eCV κ gM mtX11_token d [vR (60, 0)] M22 (fun M23 => post (1 : Int32) M23))))) ∧ ((M2.1 (60, 0) 45) = (8 : Int32) → eCI κ gM mtX11_wrong d [vR (60, 0), vI (2 : Int32)] M2 (fun x25 M26 => ((x25 = 0 ∨ x25 = 1) ∧ post x25 M26)))))) : eg_W κ gM mtX11_leafRead d (eQI κ gM post) 0 [(0, vR (60, 0))] [] M := by
  refine eg_aload_n 0 dX11_leafRead_0 rfl rfl ?_
  refine eg_bipush dX11_leafRead_1 bp_40 ?_
  obtain ⟨q3, hq3, h⟩ := h
  refine eg_callVI (av := [vI (40 : Int32)]) (st := []) dX11_leafRead_3 ml_11_291 rfl rfl (obM_60 z1) (by decide) rfl (Nat.le_of_ble_eq_true rfl) (eg_dd hd) hq3 (fun x1 M2 hp => ?_)
  have h := h x1 M2 hp
  refine eg_if_eq (tgt := 50) dX11_leafRead_6 rfl (fun c4 => ?_) (fun c4 => ?_)
  · have h := h.1 c4
    refine eg_aload_n 0 dX11_leafRead_50 rfl rfl ?_
    refine eg_bipush dX11_leafRead_51 bp_15 ?_
    obtain ⟨q7, hq7, h⟩ := h
    refine eg_callVI (av := [vI (15 : Int32)]) (st := []) dX11_leafRead_53 ml_11_265 rfl rfl (obM_60 z1) (by decide) rfl (Nat.le_of_ble_eq_true rfl) (eg_dd hd) hq7 (fun x5 M6 hp => ?_)
    have h := h x5 M6 hp
    refine eg_if_eq (tgt := 86) dX11_leafRead_56 rfl (fun c8 => ?_) (fun c8 => ?_)
    · have h := h.1 c8
      exact h
    · have h := h.2 c8
      refine eg_aload_n 0 dX11_leafRead_59 rfl rfl ?_
      refine eg_getI dX11_leafRead_60 fl_11_321 rfl trivial (obM_60 z1) ?_
      refine eg_if_eq (tgt := 86) dX11_leafRead_63 rfl (fun c9 => ?_) (fun c9 => ?_)
      · have h := h.1 c9
        exact h
      · have h := h.2 c9
        refine eg_aload_n 0 dX11_leafRead_66 rfl rfl ?_
        obtain ⟨q12, hq12, h⟩ := h
        refine eg_callVI (av := []) (st := []) dX11_leafRead_67 ml_11_324 rfl rfl (obM_60 z1) (by decide) rfl (Nat.le_of_ble_eq_true rfl) (eg_dd hd) hq12 (fun x10 M11 hp => ?_)
        have h := h x10 M11 hp
        refine eg_if_ne (tgt := 75) dX11_leafRead_70 rfl (fun c13 => ?_) (fun c13 => ?_)
        · have h := h.1 c13
          refine eg_aload_n 0 dX11_leafRead_75 rfl rfl ?_
          refine eg_iconst dX11_leafRead_76 ic_2 ?_
          obtain ⟨q15, hq15, h⟩ := h
          refine eg_callVV (av := [vI (2 : Int32)]) (st := []) dX11_leafRead_77 ml_11_317 rfl rfl (obM_60 z1) (by decide) rfl (Nat.le_of_ble_eq_true rfl) (eg_dd hd) hq15 (fun M14 hp => ?_)
          have h := h M14 hp
          refine eg_aload_n 0 dX11_leafRead_80 rfl rfl ?_
          obtain ⟨q17, hq17, h⟩ := h
          refine eg_callVV (av := []) (st := []) dX11_leafRead_81 ml_11_178 rfl rfl (obM_60 z1) (by decide) rfl (Nat.le_of_ble_eq_true rfl) (eg_dd hd) hq17 (fun M16 hp => ?_)
          have h := h M16 hp
          refine eg_iconst dX11_leafRead_84 ic_1 ?_
          exact eg_zreturn dX11_leafRead_85 rfl (Or.inr rfl) h
        · have h := h.2 c13
          refine eg_iconst dX11_leafRead_73 ic_0 ?_
          exact eg_zreturn dX11_leafRead_74 rfl (Or.inl rfl) h
  · have h := h.2 c4
    refine eg_aload_n 0 dX11_leafRead_9 rfl rfl ?_
    refine eg_getI dX11_leafRead_10 fl_11_314 rfl trivial (obM_60 z1) ?_
    refine eg_bipush dX11_leafRead_13 bp_8 ?_
    refine eg_icmp_ne (tgt := 24) dX11_leafRead_15 rfl (fun c18 => ?_) (fun c18 => ?_)
    · have h := h.1 c18
      refine eg_aload_n 0 dX11_leafRead_24 rfl rfl ?_
      refine eg_dup dX11_leafRead_25 rfl ?_
      refine eg_getI dX11_leafRead_26 fl_11_314 rfl trivial (obM_60 z1) ?_
      refine eg_iconst dX11_leafRead_29 ic_1 ?_
      refine eg_iadd dX11_leafRead_30 ?_
      refine en_putI dX11_leafRead_31 fl_11_314 rfl rfl (obM_60 z1) (fun M19 eM19 => ?_)
      have h := h M19 eM19
      refine eg_aload_n 0 dX11_leafRead_34 rfl rfl ?_
      refine eg_iconst dX11_leafRead_35 ic_0 ?_
      obtain ⟨q21, hq21, h⟩ := h
      refine eg_callVV (av := [vI (0 : Int32)]) (st := []) dX11_leafRead_36 ml_11_317 rfl rfl (obM_60 z1) (by decide) rfl (Nat.le_of_ble_eq_true rfl) (eg_dd hd) hq21 (fun M20 hp => ?_)
      have h := h M20 hp
      refine eg_aload_n 0 dX11_leafRead_39 rfl rfl ?_
      refine eg_iconst dX11_leafRead_40 ic_1 ?_
      refine en_putZ dX11_leafRead_41 fl_11_321 rfl rfl (Or.inr rfl) (obM_60 z1) (fun M22 eM22 => ?_)
      have h := h M22 eM22
      refine eg_aload_n 0 dX11_leafRead_44 rfl rfl ?_
      obtain ⟨q24, hq24, h⟩ := h
      refine eg_callVV (av := []) (st := []) dX11_leafRead_45 ml_11_178 rfl rfl (obM_60 z1) (by decide) rfl (Nat.le_of_ble_eq_true rfl) (eg_dd hd) hq24 (fun M23 hp => ?_)
      have h := h M23 hp
      refine eg_iconst dX11_leafRead_48 ic_1 ?_
      exact eg_zreturn dX11_leafRead_49 rfl (Or.inr rfl) h
    · have h := h.2 c18
      refine eg_aload_n 0 dX11_leafRead_18 rfl rfl ?_
      refine eg_iconst dX11_leafRead_19 ic_2 ?_
      obtain ⟨q27, hq27, h⟩ := h
      refine eg_callVI (av := [vI (2 : Int32)]) (st := []) dX11_leafRead_20 ml_11_168 rfl rfl (obM_60 z1) (by decide) rfl (Nat.le_of_ble_eq_true rfl) (eg_dd hd) hq27 (fun x25 M26 hp => ?_)
      have h := h x25 M26 hp
      obtain ⟨g28, h⟩ := h
      exact eg_zreturn dX11_leafRead_23 rfl g28 h
set_option maxRecDepth 10000 in
theorem vX11_leafRead_86 {κ : eg_K} {d : Nat} (hd : 1 ≤ d) {post : Int32 → eg_H → Prop} (M : eg_H)  (h : (∀ x1 : Int32, x1 = ((if (¬ (M.1 (60, 0) 8) = (1 : Int32)) then (0 : Int32) else (if (M.1 (60, 0) 9) < (16 : Int32) then (0 : Int32) else (1 : Int32)))) → ((¬ x1 = 0) → eg_W κ gM mtX11_leafRead d (eQI κ gM post) 127 [(0, vR (60, 0)), (1, vI x1)] [] M) ∧ (x1 = 0 → ((M.1 (60, 0) 8) = (3 : Int32) → eg_W κ gM mtX11_leafRead d (eQI κ gM post) 127 [(0, vR (60, 0)), (1, vI x1)] [] M) ∧ ((¬ (M.1 (60, 0) 8) = (3 : Int32)) → eCI κ gM mtX11_wrong d [vR (60, 0), vI (1 : Int32)] M (fun x4 M5 => ((x4 = 0 ∨ x4 = 1) ∧ post x4 M5)))))) : eg_W κ gM mtX11_leafRead d (eQI κ gM post) 86 [(0, vR (60, 0))] [] M := by
  refine eg_aload_n 0 dX11_leafRead_86 rfl rfl ?_
  refine eg_getI dX11_leafRead_87 fl_11_145 rfl trivial (obM_60 z1) ?_
  refine eg_iconst dX11_leafRead_90 ic_1 ?_
  have J : ∀ x1 : Int32, x1 = (if (¬ (M.1 (60, 0) 8) = (1 : Int32)) then (0 : Int32) else (if (M.1 (60, 0) 9) < (16 : Int32) then (0 : Int32) else (1 : Int32))) → eg_W κ gM mtX11_leafRead d (eQI κ gM post) 108 [(0, vR (60, 0))] [vI x1] M := by
    intro x1 ex1
    have h := h x1 ex1
    refine eg_istore_n dX11_leafRead_108 rfl (by decide) (ls1 := [(1, vI x1), (0, vR (60, 0))]) rfl ?_
    refine eg_iload_n 0 dX11_leafRead_109 rfl rfl ?_
    refine eg_if_ne (tgt := 127) dX11_leafRead_110 rfl (fun c2 => ?_) (fun c2 => ?_)
    · have h := h.1 c2
      refine eg_sub [1, 0] rfl ?_
      exact h
    · have h := h.2 c2
      refine eg_aload_n 1 dX11_leafRead_113 rfl rfl ?_
      refine eg_getI dX11_leafRead_114 fl_11_145 rfl trivial (obM_60 z1) ?_
      refine eg_iconst dX11_leafRead_117 ic_3 ?_
      refine eg_icmp_eq (tgt := 127) dX11_leafRead_118 rfl (fun c3 => ?_) (fun c3 => ?_)
      · have h := h.1 c3
        refine eg_sub [1, 0] rfl ?_
        exact h
      · have h := h.2 c3
        refine eg_aload_n 1 dX11_leafRead_121 rfl rfl ?_
        refine eg_iconst dX11_leafRead_122 ic_1 ?_
        obtain ⟨q6, hq6, h⟩ := h
        refine eg_callVI (av := [vI (1 : Int32)]) (st := []) dX11_leafRead_123 ml_11_168 rfl rfl (obM_60 z1) (by decide) rfl (Nat.le_of_ble_eq_true rfl) (eg_dd hd) hq6 (fun x4 M5 hp => ?_)
        have h := h x4 M5 hp
        obtain ⟨g7, h⟩ := h
        exact eg_zreturn dX11_leafRead_126 rfl g7 h
  clear h
  refine eg_icmp_ne (tgt := 107) dX11_leafRead_91 rfl (fun c8 => ?_) (fun c8 => ?_)
  · refine eg_iconst dX11_leafRead_107 ic_0 ?_
    exact J _ (by rw [if_pos c8])
  · have c9 : ¬ (¬ (M.1 (60, 0) 8) = (1 : Int32)) := fun z => z c8
    refine eg_aload_n 0 dX11_leafRead_94 rfl rfl ?_
    refine eg_getI dX11_leafRead_95 fl_11_156 rfl trivial (obM_60 z1) ?_
    refine eg_bipush dX11_leafRead_98 bp_16 ?_
    refine eg_icmp_lt (tgt := 107) dX11_leafRead_100 rfl (fun c10 => ?_) (fun c10 => ?_)
    · refine eg_iconst dX11_leafRead_107 ic_0 ?_
      exact J _ (by rw [if_neg c9, if_pos c10])
    · refine eg_iconst dX11_leafRead_103 ic_1 ?_
      refine eg_goto (tgt := 108) dX11_leafRead_104 rfl ?_
      exact J _ (by rw [if_neg c9, if_neg c10])
set_option maxRecDepth 10000 in
theorem vX11_leafRead_127 {κ : eg_K} {d : Nat} (hd : 1 ≤ d) {post : Int32 → eg_H → Prop} (M : eg_H) (l1 : Int32) (h : ((¬ l1 = 0) → eg_W κ gM mtX11_leafRead d (eQI κ gM post) 147 [(0, vR (60, 0)), (1, vI l1)] [] M) ∧ (l1 = 0 → ((M.1 (60, 0) 9) ≤ (9999 : Int32) → eg_W κ gM mtX11_leafRead d (eQI κ gM post) 147 [(0, vR (60, 0)), (1, vI l1)] [] M) ∧ ((¬ (M.1 (60, 0) 9) ≤ (9999 : Int32)) → eCI κ gM mtX11_wrong d [vR (60, 0), vI (2 : Int32)] M (fun x3 M4 => ((x3 = 0 ∨ x3 = 1) ∧ post x3 M4))))) : eg_W κ gM mtX11_leafRead d (eQI κ gM post) 127 [(0, vR (60, 0)), (1, vI l1)] [] M := by
  refine eg_iload_n 1 dX11_leafRead_127 rfl rfl ?_
  refine eg_if_ne (tgt := 147) dX11_leafRead_128 rfl (fun c1 => ?_) (fun c1 => ?_)
  · have h := h.1 c1
    exact h
  · have h := h.2 c1
    refine eg_aload_n 0 dX11_leafRead_131 rfl rfl ?_
    refine eg_getI dX11_leafRead_132 fl_11_156 rfl trivial (obM_60 z1) ?_
    refine eg_sipush dX11_leafRead_135 sp_9999 ?_
    refine eg_icmp_le (tgt := 147) dX11_leafRead_138 rfl (fun c2 => ?_) (fun c2 => ?_)
    · have h := h.1 c2
      exact h
    · have h := h.2 c2
      refine eg_aload_n 0 dX11_leafRead_141 rfl rfl ?_
      refine eg_iconst dX11_leafRead_142 ic_2 ?_
      obtain ⟨q5, hq5, h⟩ := h
      refine eg_callVI (av := [vI (2 : Int32)]) (st := []) dX11_leafRead_143 ml_11_168 rfl rfl (obM_60 z1) (by decide) rfl (Nat.le_of_ble_eq_true rfl) (eg_dd hd) hq5 (fun x3 M4 hp => ?_)
      have h := h x3 M4 hp
      obtain ⟨g6, h⟩ := h
      exact eg_zreturn dX11_leafRead_146 rfl g6 h
set_option maxRecDepth 10000 in
theorem vX11_leafRead_147 {κ : eg_K} {d : Nat} (hd : 1 ≤ d) {post : Int32 → eg_H → Prop} (M : eg_H) (l1 : Int32) (h : eCI κ gM mtX11_isCounted d [vR (60, 0)] M (fun x1 M2 => ((¬ x1 = 0) → (∀ x5 : Int32, x5 = ((if l1 = 0 then (0 : Int32) else (1 : Int32))) → (∀ x6 : Int32, x6 = ((if l1 = 0 then (M2.1 (60, 0) 9) else ((M2.1 (60, 0) 9) - (16 : Int32)))) → eCV κ gM mtX11_grown d [vR (60, 0), vI x5, vI x6, vI (0 : Int32)] M2 (fun M7 => (∀ M9 : eg_H, M9 = (sI M7 (60, 0) 47 (0 : Int32)) → eCV κ gM mtX11_token d [vR (60, 0)] M9 (fun M10 => post (1 : Int32) M10)))))) ∧ (x1 = 0 → post (0 : Int32) M2))) : eg_W κ gM mtX11_leafRead d (eQI κ gM post) 147 [(0, vR (60, 0)), (1, vI l1)] [] M := by
  refine eg_aload_n 0 dX11_leafRead_147 rfl rfl ?_
  obtain ⟨q3, hq3, h⟩ := h
  refine eg_callVI (av := []) (st := []) dX11_leafRead_148 ml_11_324 rfl rfl (obM_60 z1) (by decide) rfl (Nat.le_of_ble_eq_true rfl) (eg_dd hd) hq3 (fun x1 M2 hp => ?_)
  have h := h x1 M2 hp
  refine eg_if_ne (tgt := 156) dX11_leafRead_151 rfl (fun c4 => ?_) (fun c4 => ?_)
  · have h := h.1 c4
    refine eg_aload_n 0 dX11_leafRead_156 rfl rfl ?_
    refine eg_iload_n 1 dX11_leafRead_157 rfl rfl ?_
    have J : ∀ x5 : Int32, x5 = (if l1 = 0 then (0 : Int32) else (1 : Int32)) → eg_W κ gM mtX11_leafRead d (eQI κ gM post) 166 [(0, vR (60, 0)), (1, vI l1)] [vI x5, vR (60, 0)] M2 := by
      intro x5 ex5
      have h := h x5 ex5
      refine eg_iload_n 1 dX11_leafRead_166 rfl rfl ?_
      have J : ∀ x6 : Int32, x6 = (if l1 = 0 then (M2.1 (60, 0) 9) else ((M2.1 (60, 0) 9) - (16 : Int32))) → eg_W κ gM mtX11_leafRead d (eQI κ gM post) 184 [(0, vR (60, 0)), (1, vI l1)] [vI x6, vI x5, vR (60, 0)] M2 := by
        intro x6 ex6
        have h := h x6 ex6
        refine eg_iconst dX11_leafRead_184 ic_0 ?_
        obtain ⟨q8, hq8, h⟩ := h
        refine eg_callVV (av := [vI x5, vI x6, vI (0 : Int32)]) (st := []) dX11_leafRead_185 ml_11_310 rfl rfl (obM_60 z1) (by decide) rfl (Nat.le_of_ble_eq_true rfl) (eg_dd hd) hq8 (fun M7 hp => ?_)
        have h := h M7 hp
        refine eg_aload_n 0 dX11_leafRead_188 rfl rfl ?_
        refine eg_iconst dX11_leafRead_189 ic_0 ?_
        refine en_putZ dX11_leafRead_190 fl_11_327 rfl rfl (Or.inl rfl) (obM_60 z1) (fun M9 eM9 => ?_)
        have h := h M9 eM9
        refine eg_aload_n 0 dX11_leafRead_193 rfl rfl ?_
        obtain ⟨q11, hq11, h⟩ := h
        refine eg_callVV (av := []) (st := []) dX11_leafRead_194 ml_11_178 rfl rfl (obM_60 z1) (by decide) rfl (Nat.le_of_ble_eq_true rfl) (eg_dd hd) hq11 (fun M10 hp => ?_)
        have h := h M10 hp
        refine eg_iconst dX11_leafRead_197 ic_1 ?_
        exact eg_zreturn dX11_leafRead_198 rfl (Or.inr rfl) h
      clear h
      refine eg_if_eq (tgt := 180) dX11_leafRead_167 rfl (fun c12 => ?_) (fun c12 => ?_)
      · refine eg_aload_n 0 dX11_leafRead_180 rfl rfl ?_
        refine eg_getI dX11_leafRead_181 fl_11_156 rfl trivial (obM_60 z1) ?_
        exact J _ (by rw [if_pos c12])
      · refine eg_aload_n 0 dX11_leafRead_170 rfl rfl ?_
        refine eg_getI dX11_leafRead_171 fl_11_156 rfl trivial (obM_60 z1) ?_
        refine eg_bipush dX11_leafRead_174 bp_16 ?_
        refine eg_isub dX11_leafRead_176 ?_
        refine eg_goto (tgt := 184) dX11_leafRead_177 rfl ?_
        exact J _ (by rw [if_neg c12])
    clear h
    refine eg_if_eq (tgt := 165) dX11_leafRead_158 rfl (fun c13 => ?_) (fun c13 => ?_)
    · refine eg_iconst dX11_leafRead_165 ic_0 ?_
      exact J _ (by rw [if_pos c13])
    · refine eg_iconst dX11_leafRead_161 ic_1 ?_
      refine eg_goto (tgt := 166) dX11_leafRead_162 rfl ?_
      exact J _ (by rw [if_neg c13])
  · have h := h.2 c4
    refine eg_iconst dX11_leafRead_154 ic_0 ?_
    exact eg_zreturn dX11_leafRead_155 rfl (Or.inl rfl) h
theorem dX11_signs_0 : decode cX11_signs 0 = .ok (.aload_n 0, 1) := by decide +kernel
theorem dX11_signs_1 : decode cX11_signs 1 = .ok (.bipush 41, 2) := by decide +kernel
theorem dX11_signs_3 : decode cX11_signs 3 = .ok (.invokevirtual 291, 3) := by decide +kernel
theorem dX11_signs_6 : decode cX11_signs 6 = .ok (.ifCond .eq 41, 3) := by decide +kernel
theorem dX11_signs_9 : decode cX11_signs 9 = .ok (.aload_n 0, 1) := by decide +kernel
theorem dX11_signs_10 : decode cX11_signs 10 = .ok (.getfield 314, 3) := by decide +kernel
theorem dX11_signs_13 : decode cX11_signs 13 = .ok (.ifCond .le 34, 3) := by decide +kernel
theorem dX11_signs_16 : decode cX11_signs 16 = .ok (.aload_n 0, 1) := by decide +kernel
theorem dX11_signs_17 : decode cX11_signs 17 = .ok (.iconst 1, 1) := by decide +kernel
theorem dX11_signs_18 : decode cX11_signs 18 = .ok (.invokevirtual 330, 3) := by decide +kernel
theorem dX11_signs_21 : decode cX11_signs 21 = .ok (.aload_n 0, 1) := by decide +kernel
theorem dX11_signs_22 : decode cX11_signs 22 = .ok (.dup, 1) := by decide +kernel
theorem dX11_signs_23 : decode cX11_signs 23 = .ok (.getfield 300, 3) := by decide +kernel
theorem dX11_signs_26 : decode cX11_signs 26 = .ok (.iconst 1, 1) := by decide +kernel
theorem dX11_signs_27 : decode cX11_signs 27 = .ok (.isub, 1) := by decide +kernel
theorem dX11_signs_28 : decode cX11_signs 28 = .ok (.putfield 300, 3) := by decide +kernel
theorem dX11_signs_31 : decode cX11_signs 31 = .ok (.aload_n 0, 1) := by decide +kernel
theorem dX11_signs_32 : decode cX11_signs 32 = .ok (.dup, 1) := by decide +kernel
theorem dX11_signs_33 : decode cX11_signs 33 = .ok (.getfield 314, 3) := by decide +kernel
theorem dX11_signs_36 : decode cX11_signs 36 = .ok (.iconst 1, 1) := by decide +kernel
theorem dX11_signs_37 : decode cX11_signs 37 = .ok (.isub, 1) := by decide +kernel
theorem dX11_signs_38 : decode cX11_signs 38 = .ok (.putfield 314, 3) := by decide +kernel
theorem dX11_signs_41 : decode cX11_signs 41 = .ok (.aload_n 0, 1) := by decide +kernel
theorem dX11_signs_42 : decode cX11_signs 42 = .ok (.invokevirtual 178, 3) := by decide +kernel
theorem dX11_signs_45 : decode cX11_signs 45 = .ok (.iconst 1, 1) := by decide +kernel
theorem dX11_signs_46 : decode cX11_signs 46 = .ok (.ireturn, 1) := by decide +kernel
theorem dX11_signs_47 : decode cX11_signs 47 = .ok (.aload_n 0, 1) := by decide +kernel
theorem dX11_signs_48 : decode cX11_signs 48 = .ok (.bipush 13, 2) := by decide +kernel
theorem dX11_signs_50 : decode cX11_signs 50 = .ok (.invokevirtual 265, 3) := by decide +kernel
theorem dX11_signs_53 : decode cX11_signs 53 = .ok (.ifCond .eq 7, 3) := by decide +kernel
theorem dX11_signs_56 : decode cX11_signs 56 = .ok (.iconst 3, 1) := by decide +kernel
theorem dX11_signs_57 : decode cX11_signs 57 = .ok (.goto 90, 3) := by decide +kernel
theorem dX11_signs_60 : decode cX11_signs 60 = .ok (.aload_n 0, 1) := by decide +kernel
theorem dX11_signs_61 : decode cX11_signs 61 = .ok (.bipush 14, 2) := by decide +kernel
theorem dX11_signs_63 : decode cX11_signs 63 = .ok (.invokevirtual 265, 3) := by decide +kernel
theorem dX11_signs_66 : decode cX11_signs 66 = .ok (.ifCond .eq 7, 3) := by decide +kernel
theorem dX11_signs_69 : decode cX11_signs 69 = .ok (.iconst 4, 1) := by decide +kernel
theorem dX11_signs_70 : decode cX11_signs 70 = .ok (.goto 77, 3) := by decide +kernel
theorem dX11_signs_73 : decode cX11_signs 73 = .ok (.aload_n 0, 1) := by decide +kernel
theorem dX11_signs_74 : decode cX11_signs 74 = .ok (.getfield 145, 3) := by decide +kernel
theorem dX11_signs_77 : decode cX11_signs 77 = .ok (.iconst 5, 1) := by decide +kernel
theorem dX11_signs_78 : decode cX11_signs 78 = .ok (.if_icmp .ne 12, 3) := by decide +kernel
theorem dX11_signs_81 : decode cX11_signs 81 = .ok (.iconst 5, 1) := by decide +kernel
theorem dX11_signs_82 : decode cX11_signs 82 = .ok (.aload_n 0, 1) := by decide +kernel
theorem dX11_signs_83 : decode cX11_signs 83 = .ok (.getfield 156, 3) := by decide +kernel
theorem dX11_signs_86 : decode cX11_signs 86 = .ok (.iadd, 1) := by decide +kernel
theorem dX11_signs_87 : decode cX11_signs 87 = .ok (.goto 60, 3) := by decide +kernel
theorem dX11_signs_90 : decode cX11_signs 90 = .ok (.aload_n 0, 1) := by decide +kernel
theorem dX11_signs_91 : decode cX11_signs 91 = .ok (.bipush 43, 2) := by decide +kernel
theorem dX11_signs_93 : decode cX11_signs 93 = .ok (.invokevirtual 291, 3) := by decide +kernel
theorem dX11_signs_96 : decode cX11_signs 96 = .ok (.ifCond .eq 8, 3) := by decide +kernel
theorem dX11_signs_99 : decode cX11_signs 99 = .ok (.bipush 11, 2) := by decide +kernel
theorem dX11_signs_101 : decode cX11_signs 101 = .ok (.goto 46, 3) := by decide +kernel
theorem dX11_signs_104 : decode cX11_signs 104 = .ok (.aload_n 0, 1) := by decide +kernel
theorem dX11_signs_105 : decode cX11_signs 105 = .ok (.bipush 45, 2) := by decide +kernel
theorem dX11_signs_107 : decode cX11_signs 107 = .ok (.invokevirtual 291, 3) := by decide +kernel
theorem dX11_signs_110 : decode cX11_signs 110 = .ok (.ifCond .eq 8, 3) := by decide +kernel
theorem dX11_signs_113 : decode cX11_signs 113 = .ok (.bipush 12, 2) := by decide +kernel
theorem dX11_signs_115 : decode cX11_signs 115 = .ok (.goto 32, 3) := by decide +kernel
theorem dX11_signs_118 : decode cX11_signs 118 = .ok (.aload_n 0, 1) := by decide +kernel
theorem dX11_signs_119 : decode cX11_signs 119 = .ok (.bipush 42, 2) := by decide +kernel
theorem dX11_signs_121 : decode cX11_signs 121 = .ok (.invokevirtual 291, 3) := by decide +kernel
theorem dX11_signs_124 : decode cX11_signs 124 = .ok (.ifCond .eq 8, 3) := by decide +kernel
theorem dX11_signs_127 : decode cX11_signs 127 = .ok (.bipush 13, 2) := by decide +kernel
theorem dX11_signs_129 : decode cX11_signs 129 = .ok (.goto 18, 3) := by decide +kernel
theorem dX11_signs_132 : decode cX11_signs 132 = .ok (.aload_n 0, 1) := by decide +kernel
theorem dX11_signs_133 : decode cX11_signs 133 = .ok (.bipush 47, 2) := by decide +kernel
theorem dX11_signs_135 : decode cX11_signs 135 = .ok (.invokevirtual 291, 3) := by decide +kernel
theorem dX11_signs_138 : decode cX11_signs 138 = .ok (.ifCond .eq 8, 3) := by decide +kernel
theorem dX11_signs_141 : decode cX11_signs 141 = .ok (.bipush 14, 2) := by decide +kernel
theorem dX11_signs_143 : decode cX11_signs 143 = .ok (.goto 4, 3) := by decide +kernel
theorem dX11_signs_146 : decode cX11_signs 146 = .ok (.iconst 0, 1) := by decide +kernel
theorem dX11_signs_147 : decode cX11_signs 147 = .ok (.istore_n 1, 1) := by decide +kernel
theorem dX11_signs_148 : decode cX11_signs 148 = .ok (.iload_n 1, 1) := by decide +kernel
theorem dX11_signs_149 : decode cX11_signs 149 = .ok (.ifCond .ne 9, 3) := by decide +kernel
theorem dX11_signs_152 : decode cX11_signs 152 = .ok (.aload_n 0, 1) := by decide +kernel
theorem dX11_signs_153 : decode cX11_signs 153 = .ok (.iconst 1, 1) := by decide +kernel
theorem dX11_signs_154 : decode cX11_signs 154 = .ok (.invokevirtual 168, 3) := by decide +kernel
theorem dX11_signs_157 : decode cX11_signs 157 = .ok (.ireturn, 1) := by decide +kernel
theorem dX11_signs_158 : decode cX11_signs 158 = .ok (.aload_n 0, 1) := by decide +kernel
theorem dX11_signs_159 : decode cX11_signs 159 = .ok (.iload_n 1, 1) := by decide +kernel
theorem dX11_signs_160 : decode cX11_signs 160 = .ok (.invokestatic 303, 3) := by decide +kernel
theorem dX11_signs_163 : decode cX11_signs 163 = .ok (.iconst 4, 1) := by decide +kernel
theorem dX11_signs_164 : decode cX11_signs 164 = .ok (.if_icmp .ne 7, 3) := by decide +kernel
theorem dX11_signs_167 : decode cX11_signs 167 = .ok (.iconst 5, 1) := by decide +kernel
theorem dX11_signs_168 : decode cX11_signs 168 = .ok (.goto 7, 3) := by decide +kernel
theorem dX11_signs_171 : decode cX11_signs 171 = .ok (.iload_n 1, 1) := by decide +kernel
theorem dX11_signs_172 : decode cX11_signs 172 = .ok (.invokestatic 303, 3) := by decide +kernel
theorem dX11_signs_175 : decode cX11_signs 175 = .ok (.invokevirtual 330, 3) := by decide +kernel
theorem dX11_signs_178 : decode cX11_signs 178 = .ok (.iload_n 1, 1) := by decide +kernel
theorem dX11_signs_179 : decode cX11_signs 179 = .ok (.invokestatic 303, 3) := by decide +kernel
theorem dX11_signs_182 : decode cX11_signs 182 = .ok (.iconst 4, 1) := by decide +kernel
theorem dX11_signs_183 : decode cX11_signs 183 = .ok (.if_icmp .ne 34, 3) := by decide +kernel
theorem dX11_signs_186 : decode cX11_signs 186 = .ok (.aload_n 0, 1) := by decide +kernel
theorem dX11_signs_187 : decode cX11_signs 187 = .ok (.getfield 300, 3) := by decide +kernel
theorem dX11_signs_190 : decode cX11_signs 190 = .ok (.ifCond .le 27, 3) := by decide +kernel
theorem dX11_signs_193 : decode cX11_signs 193 = .ok (.aload_n 0, 1) := by decide +kernel
theorem dX11_signs_194 : decode cX11_signs 194 = .ok (.getfield 63, 3) := by decide +kernel
theorem dX11_signs_197 : decode cX11_signs 197 = .ok (.aload_n 0, 1) := by decide +kernel
theorem dX11_signs_198 : decode cX11_signs 198 = .ok (.getfield 300, 3) := by decide +kernel
theorem dX11_signs_201 : decode cX11_signs 201 = .ok (.iconst 1, 1) := by decide +kernel
theorem dX11_signs_202 : decode cX11_signs 202 = .ok (.isub, 1) := by decide +kernel
theorem dX11_signs_203 : decode cX11_signs 203 = .ok (.iaload, 1) := by decide +kernel
theorem dX11_signs_204 : decode cX11_signs 204 = .ok (.invokestatic 303, 3) := by decide +kernel
theorem dX11_signs_207 : decode cX11_signs 207 = .ok (.iconst 4, 1) := by decide +kernel
theorem dX11_signs_208 : decode cX11_signs 208 = .ok (.if_icmp .ne 9, 3) := by decide +kernel
theorem dX11_signs_211 : decode cX11_signs 211 = .ok (.aload_n 0, 1) := by decide +kernel
theorem dX11_signs_212 : decode cX11_signs 212 = .ok (.iconst 1, 1) := by decide +kernel
theorem dX11_signs_213 : decode cX11_signs 213 = .ok (.invokevirtual 168, 3) := by decide +kernel
theorem dX11_signs_216 : decode cX11_signs 216 = .ok (.ireturn, 1) := by decide +kernel
theorem dX11_signs_217 : decode cX11_signs 217 = .ok (.aload_n 0, 1) := by decide +kernel
theorem dX11_signs_218 : decode cX11_signs 218 = .ok (.invokevirtual 324, 3) := by decide +kernel
theorem dX11_signs_221 : decode cX11_signs 221 = .ok (.ifCond .ne 5, 3) := by decide +kernel
theorem dX11_signs_224 : decode cX11_signs 224 = .ok (.iconst 0, 1) := by decide +kernel
theorem dX11_signs_225 : decode cX11_signs 225 = .ok (.ireturn, 1) := by decide +kernel
theorem dX11_signs_226 : decode cX11_signs 226 = .ok (.aload_n 0, 1) := by decide +kernel
theorem dX11_signs_227 : decode cX11_signs 227 = .ok (.iload_n 1, 1) := by decide +kernel
theorem dX11_signs_228 : decode cX11_signs 228 = .ok (.invokevirtual 317, 3) := by decide +kernel
theorem dX11_signs_231 : decode cX11_signs 231 = .ok (.aload_n 0, 1) := by decide +kernel
theorem dX11_signs_232 : decode cX11_signs 232 = .ok (.iconst 1, 1) := by decide +kernel
theorem dX11_signs_233 : decode cX11_signs 233 = .ok (.putfield 327, 3) := by decide +kernel
theorem dX11_signs_236 : decode cX11_signs 236 = .ok (.aload_n 0, 1) := by decide +kernel
theorem dX11_signs_237 : decode cX11_signs 237 = .ok (.iload_n 1, 1) := by decide +kernel
theorem dX11_signs_238 : decode cX11_signs 238 = .ok (.invokestatic 303, 3) := by decide +kernel
theorem dX11_signs_241 : decode cX11_signs 241 = .ok (.iconst 3, 1) := by decide +kernel
theorem dX11_signs_242 : decode cX11_signs 242 = .ok (.if_icmp .ge 7, 3) := by decide +kernel
theorem dX11_signs_245 : decode cX11_signs 245 = .ok (.iconst 1, 1) := by decide +kernel
theorem dX11_signs_246 : decode cX11_signs 246 = .ok (.goto 4, 3) := by decide +kernel
theorem dX11_signs_249 : decode cX11_signs 249 = .ok (.iconst 0, 1) := by decide +kernel
theorem dX11_signs_250 : decode cX11_signs 250 = .ok (.putfield 321, 3) := by decide +kernel
theorem dX11_signs_253 : decode cX11_signs 253 = .ok (.aload_n 0, 1) := by decide +kernel
theorem dX11_signs_254 : decode cX11_signs 254 = .ok (.invokevirtual 178, 3) := by decide +kernel
theorem dX11_signs_257 : decode cX11_signs 257 = .ok (.iconst 1, 1) := by decide +kernel
theorem dX11_signs_258 : decode cX11_signs 258 = .ok (.ireturn, 1) := by decide +kernel
set_option maxRecDepth 10000 in
theorem vX11_signs_0 {κ : eg_K} {d : Nat} (hd : 1 ≤ d) {post : Int32 → eg_H → Prop} (M : eg_H)  (h : eCI κ gM mtX11_isSign d [vR (60, 0), vI (41 : Int32)] M (fun x1 M2 => (x1 = 0 → eg_W κ gM mtX11_signs d (eQI κ gM post) 47 [(0, vR (60, 0))] [] M2) ∧ ((¬ x1 = 0) → ((M2.1 (60, 0) 45) ≤ 0 → eg_W κ gM mtX11_signs d (eQI κ gM post) 47 [(0, vR (60, 0))] [] M2) ∧ ((¬ (M2.1 (60, 0) 45) ≤ 0) → eCV κ gM mtX11_bind d [vR (60, 0), vI (1 : Int32)] M2 (fun M6 => (∀ M8 : eg_H, M8 = (sI M6 (60, 0) 43 ((M6.1 (60, 0) 43) - (1 : Int32))) → (∀ M9 : eg_H, M9 = (sI M8 (60, 0) 45 ((M8.1 (60, 0) 45) - (1 : Int32))) → eCV κ gM mtX11_token d [vR (60, 0)] M9 (fun M10 => post (1 : Int32) M10)))))))) : eg_W κ gM mtX11_signs d (eQI κ gM post) 0 [(0, vR (60, 0))] [] M := by
  refine eg_aload_n 0 dX11_signs_0 rfl rfl ?_
  refine eg_bipush dX11_signs_1 bp_41 ?_
  obtain ⟨q3, hq3, h⟩ := h
  refine eg_callVI (av := [vI (41 : Int32)]) (st := []) dX11_signs_3 ml_11_291 rfl rfl (obM_60 z1) (by decide) rfl (Nat.le_of_ble_eq_true rfl) (eg_dd hd) hq3 (fun x1 M2 hp => ?_)
  have h := h x1 M2 hp
  refine eg_if_eq (tgt := 47) dX11_signs_6 rfl (fun c4 => ?_) (fun c4 => ?_)
  · have h := h.1 c4
    exact h
  · have h := h.2 c4
    refine eg_aload_n 0 dX11_signs_9 rfl rfl ?_
    refine eg_getI dX11_signs_10 fl_11_314 rfl trivial (obM_60 z1) ?_
    refine eg_if_le (tgt := 47) dX11_signs_13 rfl (fun c5 => ?_) (fun c5 => ?_)
    · have h := h.1 c5
      exact h
    · have h := h.2 c5
      refine eg_aload_n 0 dX11_signs_16 rfl rfl ?_
      refine eg_iconst dX11_signs_17 ic_1 ?_
      obtain ⟨q7, hq7, h⟩ := h
      refine eg_callVV (av := [vI (1 : Int32)]) (st := []) dX11_signs_18 ml_11_330 rfl rfl (obM_60 z1) (by decide) rfl (Nat.le_of_ble_eq_true rfl) (eg_dd hd) hq7 (fun M6 hp => ?_)
      have h := h M6 hp
      refine eg_aload_n 0 dX11_signs_21 rfl rfl ?_
      refine eg_dup dX11_signs_22 rfl ?_
      refine eg_getI dX11_signs_23 fl_11_300 rfl trivial (obM_60 z1) ?_
      refine eg_iconst dX11_signs_26 ic_1 ?_
      refine eg_isub dX11_signs_27 ?_
      refine en_putI dX11_signs_28 fl_11_300 rfl rfl (obM_60 z1) (fun M8 eM8 => ?_)
      have h := h M8 eM8
      refine eg_aload_n 0 dX11_signs_31 rfl rfl ?_
      refine eg_dup dX11_signs_32 rfl ?_
      refine eg_getI dX11_signs_33 fl_11_314 rfl trivial (obM_60 z1) ?_
      refine eg_iconst dX11_signs_36 ic_1 ?_
      refine eg_isub dX11_signs_37 ?_
      refine en_putI dX11_signs_38 fl_11_314 rfl rfl (obM_60 z1) (fun M9 eM9 => ?_)
      have h := h M9 eM9
      refine eg_aload_n 0 dX11_signs_41 rfl rfl ?_
      obtain ⟨q11, hq11, h⟩ := h
      refine eg_callVV (av := []) (st := []) dX11_signs_42 ml_11_178 rfl rfl (obM_60 z1) (by decide) rfl (Nat.le_of_ble_eq_true rfl) (eg_dd hd) hq11 (fun M10 hp => ?_)
      have h := h M10 hp
      refine eg_iconst dX11_signs_45 ic_1 ?_
      exact eg_zreturn dX11_signs_46 rfl (Or.inr rfl) h
set_option maxRecDepth 10000 in
theorem vX11_signs_47 {κ : eg_K} {d : Nat} (hd : 1 ≤ d) {post : Int32 → eg_H → Prop} (M : eg_H)  (h : eCI κ gM mtX11_isKey d [vR (60, 0), vI (13 : Int32)] M (fun x1 M2 => (x1 = 0 → eCI κ gM mtX11_isKey d [vR (60, 0), vI (14 : Int32)] M2 (fun x5 M6 => (x5 = 0 → ((¬ (M6.1 (60, 0) 8) = (5 : Int32)) → eCI κ gM mtX11_isSign d [vR (60, 0), vI (43 : Int32)] M6 (fun x10 M11 => (x10 = 0 → eCI κ gM mtX11_isSign d [vR (60, 0), vI (45 : Int32)] M11 (fun x14 M15 => (x14 = 0 → eCI κ gM mtX11_isSign d [vR (60, 0), vI (42 : Int32)] M15 (fun x18 M19 => (x18 = 0 → eCI κ gM mtX11_isSign d [vR (60, 0), vI (47 : Int32)] M19 (fun x22 M23 => (∀ x25 : Int32, x25 = ((if x22 = 0 then (0 : Int32) else (14 : Int32))) → eg_W κ gM mtX11_signs d (eQI κ gM post) 147 [(0, vR (60, 0))] [vI x25] M23))) ∧ ((¬ x18 = 0) → eg_W κ gM mtX11_signs d (eQI κ gM post) 147 [(0, vR (60, 0))] [vI (13 : Int32)] M19))) ∧ ((¬ x14 = 0) → eg_W κ gM mtX11_signs d (eQI κ gM post) 147 [(0, vR (60, 0))] [vI (12 : Int32)] M15))) ∧ ((¬ x10 = 0) → eg_W κ gM mtX11_signs d (eQI κ gM post) 147 [(0, vR (60, 0))] [vI (11 : Int32)] M11))) ∧ ((M6.1 (60, 0) 8) = (5 : Int32) → eg_W κ gM mtX11_signs d (eQI κ gM post) 147 [(0, vR (60, 0))] [vI ((5 : Int32) + (M6.1 (60, 0) 9))] M6)) ∧ ((¬ x5 = 0) → eg_W κ gM mtX11_signs d (eQI κ gM post) 147 [(0, vR (60, 0))] [vI (4 : Int32)] M6))) ∧ ((¬ x1 = 0) → eg_W κ gM mtX11_signs d (eQI κ gM post) 147 [(0, vR (60, 0))] [vI (3 : Int32)] M2))) : eg_W κ gM mtX11_signs d (eQI κ gM post) 47 [(0, vR (60, 0))] [] M := by
  refine eg_aload_n 0 dX11_signs_47 rfl rfl ?_
  refine eg_bipush dX11_signs_48 bp_13 ?_
  obtain ⟨q3, hq3, h⟩ := h
  refine eg_callVI (av := [vI (13 : Int32)]) (st := []) dX11_signs_50 ml_11_265 rfl rfl (obM_60 z1) (by decide) rfl (Nat.le_of_ble_eq_true rfl) (eg_dd hd) hq3 (fun x1 M2 hp => ?_)
  have h := h x1 M2 hp
  refine eg_if_eq (tgt := 60) dX11_signs_53 rfl (fun c4 => ?_) (fun c4 => ?_)
  · have h := h.1 c4
    refine eg_aload_n 0 dX11_signs_60 rfl rfl ?_
    refine eg_bipush dX11_signs_61 bp_14 ?_
    obtain ⟨q7, hq7, h⟩ := h
    refine eg_callVI (av := [vI (14 : Int32)]) (st := []) dX11_signs_63 ml_11_265 rfl rfl (obM_60 z1) (by decide) rfl (Nat.le_of_ble_eq_true rfl) (eg_dd hd) hq7 (fun x5 M6 hp => ?_)
    have h := h x5 M6 hp
    refine eg_if_eq (tgt := 73) dX11_signs_66 rfl (fun c8 => ?_) (fun c8 => ?_)
    · have h := h.1 c8
      refine eg_aload_n 0 dX11_signs_73 rfl rfl ?_
      refine eg_getI dX11_signs_74 fl_11_145 rfl trivial (obM_60 z1) ?_
      refine eg_iconst dX11_signs_77 ic_5 ?_
      refine eg_icmp_ne (tgt := 90) dX11_signs_78 rfl (fun c9 => ?_) (fun c9 => ?_)
      · have h := h.1 c9
        refine eg_aload_n 0 dX11_signs_90 rfl rfl ?_
        refine eg_bipush dX11_signs_91 bp_43 ?_
        obtain ⟨q12, hq12, h⟩ := h
        refine eg_callVI (av := [vI (43 : Int32)]) (st := []) dX11_signs_93 ml_11_291 rfl rfl (obM_60 z1) (by decide) rfl (Nat.le_of_ble_eq_true rfl) (eg_dd hd) hq12 (fun x10 M11 hp => ?_)
        have h := h x10 M11 hp
        refine eg_if_eq (tgt := 104) dX11_signs_96 rfl (fun c13 => ?_) (fun c13 => ?_)
        · have h := h.1 c13
          refine eg_aload_n 0 dX11_signs_104 rfl rfl ?_
          refine eg_bipush dX11_signs_105 bp_45 ?_
          obtain ⟨q16, hq16, h⟩ := h
          refine eg_callVI (av := [vI (45 : Int32)]) (st := []) dX11_signs_107 ml_11_291 rfl rfl (obM_60 z1) (by decide) rfl (Nat.le_of_ble_eq_true rfl) (eg_dd hd) hq16 (fun x14 M15 hp => ?_)
          have h := h x14 M15 hp
          refine eg_if_eq (tgt := 118) dX11_signs_110 rfl (fun c17 => ?_) (fun c17 => ?_)
          · have h := h.1 c17
            refine eg_aload_n 0 dX11_signs_118 rfl rfl ?_
            refine eg_bipush dX11_signs_119 bp_42 ?_
            obtain ⟨q20, hq20, h⟩ := h
            refine eg_callVI (av := [vI (42 : Int32)]) (st := []) dX11_signs_121 ml_11_291 rfl rfl (obM_60 z1) (by decide) rfl (Nat.le_of_ble_eq_true rfl) (eg_dd hd) hq20 (fun x18 M19 hp => ?_)
            have h := h x18 M19 hp
            refine eg_if_eq (tgt := 132) dX11_signs_124 rfl (fun c21 => ?_) (fun c21 => ?_)
            · have h := h.1 c21
              refine eg_aload_n 0 dX11_signs_132 rfl rfl ?_
              refine eg_bipush dX11_signs_133 bp_47 ?_
              obtain ⟨q24, hq24, h⟩ := h
              refine eg_callVI (av := [vI (47 : Int32)]) (st := []) dX11_signs_135 ml_11_291 rfl rfl (obM_60 z1) (by decide) rfl (Nat.le_of_ble_eq_true rfl) (eg_dd hd) hq24 (fun x22 M23 hp => ?_)
              have h := h x22 M23 hp
              have J : ∀ x25 : Int32, x25 = (if x22 = 0 then (0 : Int32) else (14 : Int32)) → eg_W κ gM mtX11_signs d (eQI κ gM post) 147 [(0, vR (60, 0))] [vI x25] M23 := by
                intro x25 ex25
                have h := h x25 ex25
                exact h
              clear h
              refine eg_if_eq (tgt := 146) dX11_signs_138 rfl (fun c26 => ?_) (fun c26 => ?_)
              · refine eg_iconst dX11_signs_146 ic_0 ?_
                exact J _ (by rw [if_pos c26])
              · refine eg_bipush dX11_signs_141 bp_14 ?_
                refine eg_goto (tgt := 147) dX11_signs_143 rfl ?_
                exact J _ (by rw [if_neg c26])
            · have h := h.2 c21
              refine eg_bipush dX11_signs_127 bp_13 ?_
              refine eg_goto (tgt := 147) dX11_signs_129 rfl ?_
              exact h
          · have h := h.2 c17
            refine eg_bipush dX11_signs_113 bp_12 ?_
            refine eg_goto (tgt := 147) dX11_signs_115 rfl ?_
            exact h
        · have h := h.2 c13
          refine eg_bipush dX11_signs_99 bp_11 ?_
          refine eg_goto (tgt := 147) dX11_signs_101 rfl ?_
          exact h
      · have h := h.2 c9
        refine eg_iconst dX11_signs_81 ic_5 ?_
        refine eg_aload_n 0 dX11_signs_82 rfl rfl ?_
        refine eg_getI dX11_signs_83 fl_11_156 rfl trivial (obM_60 z1) ?_
        refine eg_iadd dX11_signs_86 ?_
        refine eg_goto (tgt := 147) dX11_signs_87 rfl ?_
        exact h
    · have h := h.2 c8
      refine eg_iconst dX11_signs_69 ic_4 ?_
      refine eg_goto (tgt := 147) dX11_signs_70 rfl ?_
      exact h
  · have h := h.2 c4
    refine eg_iconst dX11_signs_56 ic_3 ?_
    refine eg_goto (tgt := 147) dX11_signs_57 rfl ?_
    exact h
set_option maxRecDepth 10000 in
theorem vX11_signs_147 {κ : eg_K} {d : Nat} (hd : 1 ≤ d) {post : Int32 → eg_H → Prop} (M : eg_H) (s0 : Int32) (h : ((¬ s0 = 0) → eCI κ gM mtX11_rank d [vI s0] M (fun x2 M3 => ((¬ x2 = (4 : Int32)) → eCI κ gM mtX11_rank d [vI s0] M3 (fun x6 M7 => eg_W κ gM mtX11_signs d (eQI κ gM post) 175 [(0, vR (60, 0)), (1, vI s0)] [vI x6, vR (60, 0)] M7)) ∧ (x2 = (4 : Int32) → eg_W κ gM mtX11_signs d (eQI κ gM post) 175 [(0, vR (60, 0)), (1, vI s0)] [vI (5 : Int32), vR (60, 0)] M3))) ∧ (s0 = 0 → eCI κ gM mtX11_wrong d [vR (60, 0), vI (1 : Int32)] M (fun x9 M10 => ((x9 = 0 ∨ x9 = 1) ∧ post x9 M10)))) : eg_W κ gM mtX11_signs d (eQI κ gM post) 147 [(0, vR (60, 0))] [vI s0] M := by
  refine eg_istore_n dX11_signs_147 rfl (by decide) (ls1 := [(1, vI s0), (0, vR (60, 0))]) rfl ?_
  refine eg_iload_n 0 dX11_signs_148 rfl rfl ?_
  refine eg_if_ne (tgt := 158) dX11_signs_149 rfl (fun c1 => ?_) (fun c1 => ?_)
  · have h := h.1 c1
    refine eg_aload_n 1 dX11_signs_158 rfl rfl ?_
    refine eg_iload_n 0 dX11_signs_159 rfl rfl ?_
    obtain ⟨q4, hq4, h⟩ := h
    refine eg_callSI (av := [vI s0]) (st := [vR (60, 0)]) dX11_signs_160 ml_11_303 rfl rfl (Nat.le_of_ble_eq_true rfl) (eg_dd hd) hq4 (fun x2 M3 hp => ?_)
    have h := h x2 M3 hp
    refine eg_iconst dX11_signs_163 ic_4 ?_
    refine eg_icmp_ne (tgt := 171) dX11_signs_164 rfl (fun c5 => ?_) (fun c5 => ?_)
    · have h := h.1 c5
      refine eg_iload_n 0 dX11_signs_171 rfl rfl ?_
      obtain ⟨q8, hq8, h⟩ := h
      refine eg_callSI (av := [vI s0]) (st := [vR (60, 0)]) dX11_signs_172 ml_11_303 rfl rfl (Nat.le_of_ble_eq_true rfl) (eg_dd hd) hq8 (fun x6 M7 hp => ?_)
      have h := h x6 M7 hp
      refine eg_sub [1, 0] rfl ?_
      exact h
    · have h := h.2 c5
      refine eg_iconst dX11_signs_167 ic_5 ?_
      refine eg_goto (tgt := 175) dX11_signs_168 rfl ?_
      refine eg_sub [1, 0] rfl ?_
      exact h
  · have h := h.2 c1
    refine eg_aload_n 1 dX11_signs_152 rfl rfl ?_
    refine eg_iconst dX11_signs_153 ic_1 ?_
    obtain ⟨q11, hq11, h⟩ := h
    refine eg_callVI (av := [vI (1 : Int32)]) (st := []) dX11_signs_154 ml_11_168 rfl rfl (obM_60 z1) (by decide) rfl (Nat.le_of_ble_eq_true rfl) (eg_dd hd) hq11 (fun x9 M10 hp => ?_)
    have h := h x9 M10 hp
    obtain ⟨g12, h⟩ := h
    exact eg_zreturn dX11_signs_157 rfl g12 h
set_option maxRecDepth 10000 in
theorem vX11_signs_175 {κ : eg_K} {d : Nat} (hd : 1 ≤ d) {post : Int32 → eg_H → Prop} (M : eg_H) (l1 : Int32) (s0 : Int32) (h : eCV κ gM mtX11_bind d [vR (60, 0), vI s0] M (fun M1 => eCI κ gM mtX11_rank d [vI l1] M1 (fun x3 M4 => ((¬ x3 = (4 : Int32)) → eg_W κ gM mtX11_signs d (eQI κ gM post) 217 [(0, vR (60, 0)), (1, vI l1)] [] M4) ∧ (x3 = (4 : Int32) → ((M4.1 (60, 0) 43) ≤ 0 → eg_W κ gM mtX11_signs d (eQI κ gM post) 217 [(0, vR (60, 0)), (1, vI l1)] [] M4) ∧ ((¬ (M4.1 (60, 0) 43) ≤ 0) → (vp_in ((M4.1 (60, 0) 43) - (1 : Int32)) 96 ∧ eCI κ gM mtX11_rank d [vI (M4.1 (102, 0) ((M4.1 (60, 0) 43) - (1 : Int32)).toNatClampNeg)] M4 (fun x9 M10 => ((¬ x9 = (4 : Int32)) → eg_W κ gM mtX11_signs d (eQI κ gM post) 217 [(0, vR (60, 0)), (1, vI l1)] [] M10) ∧ (x9 = (4 : Int32) → eCI κ gM mtX11_wrong d [vR (60, 0), vI (1 : Int32)] M10 (fun x13 M14 => ((x13 = 0 ∨ x13 = 1) ∧ post x13 M14)))))))))) : eg_W κ gM mtX11_signs d (eQI κ gM post) 175 [(0, vR (60, 0)), (1, vI l1)] [vI s0, vR (60, 0)] M := by
  obtain ⟨q2, hq2, h⟩ := h
  refine eg_callVV (av := [vI s0]) (st := []) dX11_signs_175 ml_11_330 rfl rfl (obM_60 z1) (by decide) rfl (Nat.le_of_ble_eq_true rfl) (eg_dd hd) hq2 (fun M1 hp => ?_)
  have h := h M1 hp
  refine eg_iload_n 1 dX11_signs_178 rfl rfl ?_
  obtain ⟨q5, hq5, h⟩ := h
  refine eg_callSI (av := [vI l1]) (st := []) dX11_signs_179 ml_11_303 rfl rfl (Nat.le_of_ble_eq_true rfl) (eg_dd hd) hq5 (fun x3 M4 hp => ?_)
  have h := h x3 M4 hp
  refine eg_iconst dX11_signs_182 ic_4 ?_
  refine eg_icmp_ne (tgt := 217) dX11_signs_183 rfl (fun c6 => ?_) (fun c6 => ?_)
  · have h := h.1 c6
    exact h
  · have h := h.2 c6
    refine eg_aload_n 0 dX11_signs_186 rfl rfl ?_
    refine eg_getI dX11_signs_187 fl_11_300 rfl trivial (obM_60 z1) ?_
    refine eg_if_le (tgt := 217) dX11_signs_190 rfl (fun c7 => ?_) (fun c7 => ?_)
    · have h := h.1 c7
      exact h
    · have h := h.2 c7
      refine eg_aload_n 0 dX11_signs_193 rfl rfl ?_
      refine eg_getR dX11_signs_194 fl_11_63 rfl rfl (obM_60 z1) ?_
      show eg_W κ gM mtX11_signs d (eQI κ gM post) 197 [(0, vR (60, 0)), (1, vI l1)] [vR (102, 0)] M4
      refine eg_aload_n 0 dX11_signs_197 rfl rfl ?_
      refine eg_getI dX11_signs_198 fl_11_300 rfl trivial (obM_60 z1) ?_
      refine eg_iconst dX11_signs_201 ic_1 ?_
      refine eg_isub dX11_signs_202 ?_
      obtain ⟨g8, h⟩ := h
      refine eg_iaload dX11_signs_203 (arM_102 z1 g8) ?_
      obtain ⟨q11, hq11, h⟩ := h
      refine eg_callSI (av := [vI (M4.1 (102, 0) ((M4.1 (60, 0) 43) - (1 : Int32)).toNatClampNeg)]) (st := []) dX11_signs_204 ml_11_303 rfl rfl (Nat.le_of_ble_eq_true rfl) (eg_dd hd) hq11 (fun x9 M10 hp => ?_)
      have h := h x9 M10 hp
      refine eg_iconst dX11_signs_207 ic_4 ?_
      refine eg_icmp_ne (tgt := 217) dX11_signs_208 rfl (fun c12 => ?_) (fun c12 => ?_)
      · have h := h.1 c12
        exact h
      · have h := h.2 c12
        refine eg_aload_n 0 dX11_signs_211 rfl rfl ?_
        refine eg_iconst dX11_signs_212 ic_1 ?_
        obtain ⟨q15, hq15, h⟩ := h
        refine eg_callVI (av := [vI (1 : Int32)]) (st := []) dX11_signs_213 ml_11_168 rfl rfl (obM_60 z1) (by decide) rfl (Nat.le_of_ble_eq_true rfl) (eg_dd hd) hq15 (fun x13 M14 hp => ?_)
        have h := h x13 M14 hp
        obtain ⟨g16, h⟩ := h
        exact eg_zreturn dX11_signs_216 rfl g16 h
set_option maxRecDepth 10000 in
theorem vX11_signs_217 {κ : eg_K} {d : Nat} (hd : 1 ≤ d) {post : Int32 → eg_H → Prop} (M : eg_H) (l1 : Int32) (h : eCI κ gM mtX11_isCounted d [vR (60, 0)] M (fun x1 M2 => ((¬ x1 = 0) → eCV κ gM mtX11_waitsFor d [vR (60, 0), vI l1] M2 (fun M5 => (∀ M7 : eg_H, M7 = (sI M5 (60, 0) 47 (1 : Int32)) → eCI κ gM mtX11_rank d [vI l1] M7 (fun x8 M9 => (∀ x11 : Int32, x11 = ((if (3 : Int32) ≤ x8 then (0 : Int32) else (1 : Int32))) → ((x11 = 0 ∨ x11 = 1) ∧ (∀ M12 : eg_H, M12 = (sI M9 (60, 0) 48 x11) → eCV κ gM mtX11_token d [vR (60, 0)] M12 (fun M14 => post (1 : Int32) M14)))))))) ∧ (x1 = 0 → post (0 : Int32) M2))) : eg_W κ gM mtX11_signs d (eQI κ gM post) 217 [(0, vR (60, 0)), (1, vI l1)] [] M := by
  refine eg_aload_n 0 dX11_signs_217 rfl rfl ?_
  obtain ⟨q3, hq3, h⟩ := h
  refine eg_callVI (av := []) (st := []) dX11_signs_218 ml_11_324 rfl rfl (obM_60 z1) (by decide) rfl (Nat.le_of_ble_eq_true rfl) (eg_dd hd) hq3 (fun x1 M2 hp => ?_)
  have h := h x1 M2 hp
  refine eg_if_ne (tgt := 226) dX11_signs_221 rfl (fun c4 => ?_) (fun c4 => ?_)
  · have h := h.1 c4
    refine eg_aload_n 0 dX11_signs_226 rfl rfl ?_
    refine eg_iload_n 1 dX11_signs_227 rfl rfl ?_
    obtain ⟨q6, hq6, h⟩ := h
    refine eg_callVV (av := [vI l1]) (st := []) dX11_signs_228 ml_11_317 rfl rfl (obM_60 z1) (by decide) rfl (Nat.le_of_ble_eq_true rfl) (eg_dd hd) hq6 (fun M5 hp => ?_)
    have h := h M5 hp
    refine eg_aload_n 0 dX11_signs_231 rfl rfl ?_
    refine eg_iconst dX11_signs_232 ic_1 ?_
    refine en_putZ dX11_signs_233 fl_11_327 rfl rfl (Or.inr rfl) (obM_60 z1) (fun M7 eM7 => ?_)
    have h := h M7 eM7
    refine eg_aload_n 0 dX11_signs_236 rfl rfl ?_
    refine eg_iload_n 1 dX11_signs_237 rfl rfl ?_
    obtain ⟨q10, hq10, h⟩ := h
    refine eg_callSI (av := [vI l1]) (st := [vR (60, 0)]) dX11_signs_238 ml_11_303 rfl rfl (Nat.le_of_ble_eq_true rfl) (eg_dd hd) hq10 (fun x8 M9 hp => ?_)
    have h := h x8 M9 hp
    refine eg_iconst dX11_signs_241 ic_3 ?_
    have J : ∀ x11 : Int32, x11 = (if (3 : Int32) ≤ x8 then (0 : Int32) else (1 : Int32)) → eg_W κ gM mtX11_signs d (eQI κ gM post) 250 [(0, vR (60, 0)), (1, vI l1)] [vI x11, vR (60, 0)] M9 := by
      intro x11 ex11
      have h := h x11 ex11
      obtain ⟨g13, h⟩ := h
      refine en_putZ dX11_signs_250 fl_11_321 rfl rfl g13 (obM_60 z1) (fun M12 eM12 => ?_)
      have h := h M12 eM12
      refine eg_aload_n 0 dX11_signs_253 rfl rfl ?_
      obtain ⟨q15, hq15, h⟩ := h
      refine eg_callVV (av := []) (st := []) dX11_signs_254 ml_11_178 rfl rfl (obM_60 z1) (by decide) rfl (Nat.le_of_ble_eq_true rfl) (eg_dd hd) hq15 (fun M14 hp => ?_)
      have h := h M14 hp
      refine eg_iconst dX11_signs_257 ic_1 ?_
      exact eg_zreturn dX11_signs_258 rfl (Or.inr rfl) h
    clear h
    refine eg_icmp_ge (tgt := 249) dX11_signs_242 rfl (fun c16 => ?_) (fun c16 => ?_)
    · refine eg_iconst dX11_signs_249 ic_0 ?_
      exact J _ (by rw [if_pos c16])
    · refine eg_iconst dX11_signs_245 ic_1 ?_
      refine eg_goto (tgt := 250) dX11_signs_246 rfl ?_
      exact J _ (by rw [if_neg c16])
  · have h := h.2 c4
    refine eg_iconst dX11_signs_224 ic_0 ?_
    exact eg_zreturn dX11_signs_225 rfl (Or.inl rfl) h
theorem dX11_sumRead_0 : decode cX11_sumRead 0 = .ok (.aload_n 0, 1) := by decide +kernel
theorem dX11_sumRead_1 : decode cX11_sumRead 1 = .ok (.iconst 0, 1) := by decide +kernel
theorem dX11_sumRead_2 : decode cX11_sumRead 2 = .ok (.putfield 300, 3) := by decide +kernel
theorem dX11_sumRead_5 : decode cX11_sumRead 5 = .ok (.aload_n 0, 1) := by decide +kernel
theorem dX11_sumRead_6 : decode cX11_sumRead 6 = .ok (.iconst 0, 1) := by decide +kernel
theorem dX11_sumRead_7 : decode cX11_sumRead 7 = .ok (.putfield 297, 3) := by decide +kernel
theorem dX11_sumRead_10 : decode cX11_sumRead 10 = .ok (.aload_n 0, 1) := by decide +kernel
theorem dX11_sumRead_11 : decode cX11_sumRead 11 = .ok (.iconst 0, 1) := by decide +kernel
theorem dX11_sumRead_12 : decode cX11_sumRead 12 = .ok (.putfield 314, 3) := by decide +kernel
theorem dX11_sumRead_15 : decode cX11_sumRead 15 = .ok (.aload_n 0, 1) := by decide +kernel
theorem dX11_sumRead_16 : decode cX11_sumRead 16 = .ok (.iconst 1, 1) := by decide +kernel
theorem dX11_sumRead_17 : decode cX11_sumRead 17 = .ok (.putfield 327, 3) := by decide +kernel
theorem dX11_sumRead_20 : decode cX11_sumRead 20 = .ok (.aload_n 0, 1) := by decide +kernel
theorem dX11_sumRead_21 : decode cX11_sumRead 21 = .ok (.iconst 1, 1) := by decide +kernel
theorem dX11_sumRead_22 : decode cX11_sumRead 22 = .ok (.putfield 321, 3) := by decide +kernel
theorem dX11_sumRead_25 : decode cX11_sumRead 25 = .ok (.aload_n 0, 1) := by decide +kernel
theorem dX11_sumRead_26 : decode cX11_sumRead 26 = .ok (.bipush 59, 2) := by decide +kernel
theorem dX11_sumRead_28 : decode cX11_sumRead 28 = .ok (.invokevirtual 291, 3) := by decide +kernel
theorem dX11_sumRead_31 : decode cX11_sumRead 31 = .ok (.ifCond .eq 17, 3) := by decide +kernel
theorem dX11_sumRead_34 : decode cX11_sumRead 34 = .ok (.aload_n 0, 1) := by decide +kernel
theorem dX11_sumRead_35 : decode cX11_sumRead 35 = .ok (.getfield 327, 3) := by decide +kernel
theorem dX11_sumRead_38 : decode cX11_sumRead 38 = .ok (.ifCond .ne 10, 3) := by decide +kernel
theorem dX11_sumRead_41 : decode cX11_sumRead 41 = .ok (.aload_n 0, 1) := by decide +kernel
theorem dX11_sumRead_42 : decode cX11_sumRead 42 = .ok (.getfield 314, 3) := by decide +kernel
theorem dX11_sumRead_45 : decode cX11_sumRead 45 = .ok (.ifCond .le 29, 3) := by decide +kernel
theorem dX11_sumRead_48 : decode cX11_sumRead 48 = .ok (.aload_n 0, 1) := by decide +kernel
theorem dX11_sumRead_49 : decode cX11_sumRead 49 = .ok (.getfield 327, 3) := by decide +kernel
theorem dX11_sumRead_52 : decode cX11_sumRead 52 = .ok (.ifCond .eq 13, 3) := by decide +kernel
theorem dX11_sumRead_55 : decode cX11_sumRead 55 = .ok (.aload_n 0, 1) := by decide +kernel
theorem dX11_sumRead_56 : decode cX11_sumRead 56 = .ok (.invokevirtual 333, 3) := by decide +kernel
theorem dX11_sumRead_59 : decode cX11_sumRead 59 = .ok (.ifCond .eq 13, 3) := by decide +kernel
theorem dX11_sumRead_62 : decode cX11_sumRead 62 = .ok (.goto (-37), 3) := by decide +kernel
theorem dX11_sumRead_65 : decode cX11_sumRead 65 = .ok (.aload_n 0, 1) := by decide +kernel
theorem dX11_sumRead_66 : decode cX11_sumRead 66 = .ok (.invokevirtual 336, 3) := by decide +kernel
theorem dX11_sumRead_69 : decode cX11_sumRead 69 = .ok (.ifCond .ne (-44), 3) := by decide +kernel
theorem dX11_sumRead_72 : decode cX11_sumRead 72 = .ok (.iconst 0, 1) := by decide +kernel
theorem dX11_sumRead_73 : decode cX11_sumRead 73 = .ok (.ireturn, 1) := by decide +kernel
theorem dX11_sumRead_74 : decode cX11_sumRead 74 = .ok (.aload_n 0, 1) := by decide +kernel
theorem dX11_sumRead_75 : decode cX11_sumRead 75 = .ok (.iconst 1, 1) := by decide +kernel
theorem dX11_sumRead_76 : decode cX11_sumRead 76 = .ok (.invokevirtual 330, 3) := by decide +kernel
theorem dX11_sumRead_79 : decode cX11_sumRead 79 = .ok (.iconst 1, 1) := by decide +kernel
theorem dX11_sumRead_80 : decode cX11_sumRead 80 = .ok (.ireturn, 1) := by decide +kernel
set_option maxRecDepth 10000 in
theorem vX11_sumRead_0 {κ : eg_K} {d : Nat} {post : Int32 → eg_H → Prop} (M : eg_H)  (h : (∀ M1 : eg_H, M1 = (sI M (60, 0) 43 (0 : Int32)) → (∀ M2 : eg_H, M2 = (sI M1 (60, 0) 44 (0 : Int32)) → (∀ M3 : eg_H, M3 = (sI M2 (60, 0) 45 (0 : Int32)) → (∀ M4 : eg_H, M4 = (sI M3 (60, 0) 47 (1 : Int32)) → (∀ M5 : eg_H, M5 = (sI M4 (60, 0) 48 (1 : Int32)) → eg_W κ gM mtX11_sumRead d (eQI κ gM post) 25 [(0, vR (60, 0))] [] M5)))))) : eg_W κ gM mtX11_sumRead d (eQI κ gM post) 0 [(0, vR (60, 0))] [] M := by
  refine eg_aload_n 0 dX11_sumRead_0 rfl rfl ?_
  refine eg_iconst dX11_sumRead_1 ic_0 ?_
  refine en_putI dX11_sumRead_2 fl_11_300 rfl rfl (obM_60 z1) (fun M1 eM1 => ?_)
  have h := h M1 eM1
  refine eg_aload_n 0 dX11_sumRead_5 rfl rfl ?_
  refine eg_iconst dX11_sumRead_6 ic_0 ?_
  refine en_putI dX11_sumRead_7 fl_11_297 rfl rfl (obM_60 z1) (fun M2 eM2 => ?_)
  have h := h M2 eM2
  refine eg_aload_n 0 dX11_sumRead_10 rfl rfl ?_
  refine eg_iconst dX11_sumRead_11 ic_0 ?_
  refine en_putI dX11_sumRead_12 fl_11_314 rfl rfl (obM_60 z1) (fun M3 eM3 => ?_)
  have h := h M3 eM3
  refine eg_aload_n 0 dX11_sumRead_15 rfl rfl ?_
  refine eg_iconst dX11_sumRead_16 ic_1 ?_
  refine en_putZ dX11_sumRead_17 fl_11_327 rfl rfl (Or.inr rfl) (obM_60 z1) (fun M4 eM4 => ?_)
  have h := h M4 eM4
  refine eg_aload_n 0 dX11_sumRead_20 rfl rfl ?_
  refine eg_iconst dX11_sumRead_21 ic_1 ?_
  refine en_putZ dX11_sumRead_22 fl_11_321 rfl rfl (Or.inr rfl) (obM_60 z1) (fun M5 eM5 => ?_)
  have h := h M5 eM5
  exact h
set_option maxRecDepth 10000 in
theorem vX11_sumRead_25 {κ : eg_K} {d : Nat} (hd : 1 ≤ d) {post : Int32 → eg_H → Prop} (M : eg_H)  (h : eCI κ gM mtX11_isSign d [vR (60, 0), vI (59 : Int32)] M (fun x1 M2 => (x1 = 0 → eg_W κ gM mtX11_sumRead d (eQI κ gM post) 48 [(0, vR (60, 0))] [] M2) ∧ ((¬ x1 = 0) → ((¬ (M2.1 (60, 0) 47) = 0) → eg_W κ gM mtX11_sumRead d (eQI κ gM post) 48 [(0, vR (60, 0))] [] M2) ∧ ((M2.1 (60, 0) 47) = 0 → ((M2.1 (60, 0) 45) ≤ 0 → eCV κ gM mtX11_bind d [vR (60, 0), vI (1 : Int32)] M2 (fun M7 => post (1 : Int32) M7)) ∧ ((¬ (M2.1 (60, 0) 45) ≤ 0) → eg_W κ gM mtX11_sumRead d (eQI κ gM post) 48 [(0, vR (60, 0))] [] M2))))) : eg_W κ gM mtX11_sumRead d (eQI κ gM post) 25 [(0, vR (60, 0))] [] M := by
  refine eg_aload_n 0 dX11_sumRead_25 rfl rfl ?_
  refine eg_bipush dX11_sumRead_26 bp_59 ?_
  obtain ⟨q3, hq3, h⟩ := h
  refine eg_callVI (av := [vI (59 : Int32)]) (st := []) dX11_sumRead_28 ml_11_291 rfl rfl (obM_60 z1) (by decide) rfl (Nat.le_of_ble_eq_true rfl) (eg_dd hd) hq3 (fun x1 M2 hp => ?_)
  have h := h x1 M2 hp
  refine eg_if_eq (tgt := 48) dX11_sumRead_31 rfl (fun c4 => ?_) (fun c4 => ?_)
  · have h := h.1 c4
    exact h
  · have h := h.2 c4
    refine eg_aload_n 0 dX11_sumRead_34 rfl rfl ?_
    refine eg_getI dX11_sumRead_35 fl_11_327 rfl trivial (obM_60 z1) ?_
    refine eg_if_ne (tgt := 48) dX11_sumRead_38 rfl (fun c5 => ?_) (fun c5 => ?_)
    · have h := h.1 c5
      exact h
    · have h := h.2 c5
      refine eg_aload_n 0 dX11_sumRead_41 rfl rfl ?_
      refine eg_getI dX11_sumRead_42 fl_11_314 rfl trivial (obM_60 z1) ?_
      refine eg_if_le (tgt := 74) dX11_sumRead_45 rfl (fun c6 => ?_) (fun c6 => ?_)
      · have h := h.1 c6
        refine eg_aload_n 0 dX11_sumRead_74 rfl rfl ?_
        refine eg_iconst dX11_sumRead_75 ic_1 ?_
        obtain ⟨q8, hq8, h⟩ := h
        refine eg_callVV (av := [vI (1 : Int32)]) (st := []) dX11_sumRead_76 ml_11_330 rfl rfl (obM_60 z1) (by decide) rfl (Nat.le_of_ble_eq_true rfl) (eg_dd hd) hq8 (fun M7 hp => ?_)
        have h := h M7 hp
        refine eg_iconst dX11_sumRead_79 ic_1 ?_
        exact eg_zreturn dX11_sumRead_80 rfl (Or.inr rfl) h
      · have h := h.2 c6
        exact h
set_option maxRecDepth 10000 in
theorem vX11_sumRead_48 {κ : eg_K} {d : Nat} (hd : 1 ≤ d) {post : Int32 → eg_H → Prop} (M : eg_H)  (h : ((M.1 (60, 0) 47) = 0 → eCI κ gM mtX11_signs d [vR (60, 0)] M (fun x2 M3 => ((¬ x2 = 0) → eg_W κ gM mtX11_sumRead d (eQI κ gM post) 25 [(0, vR (60, 0))] [] M3) ∧ (x2 = 0 → post (0 : Int32) M3))) ∧ ((¬ (M.1 (60, 0) 47) = 0) → eCI κ gM mtX11_leafRead d [vR (60, 0)] M (fun x6 M7 => (x6 = 0 → post (0 : Int32) M7) ∧ ((¬ x6 = 0) → eg_W κ gM mtX11_sumRead d (eQI κ gM post) 25 [(0, vR (60, 0))] [] M7)))) : eg_W κ gM mtX11_sumRead d (eQI κ gM post) 48 [(0, vR (60, 0))] [] M := by
  refine eg_aload_n 0 dX11_sumRead_48 rfl rfl ?_
  refine eg_getI dX11_sumRead_49 fl_11_327 rfl trivial (obM_60 z1) ?_
  refine eg_if_eq (tgt := 65) dX11_sumRead_52 rfl (fun c1 => ?_) (fun c1 => ?_)
  · have h := h.1 c1
    refine eg_aload_n 0 dX11_sumRead_65 rfl rfl ?_
    obtain ⟨q4, hq4, h⟩ := h
    refine eg_callVI (av := []) (st := []) dX11_sumRead_66 ml_11_336 rfl rfl (obM_60 z1) (by decide) rfl (Nat.le_of_ble_eq_true rfl) (eg_dd hd) hq4 (fun x2 M3 hp => ?_)
    have h := h x2 M3 hp
    refine eg_if_ne (tgt := 25) dX11_sumRead_69 rfl (fun c5 => ?_) (fun c5 => ?_)
    · have h := h.1 c5
      exact h
    · have h := h.2 c5
      refine eg_iconst dX11_sumRead_72 ic_0 ?_
      exact eg_zreturn dX11_sumRead_73 rfl (Or.inl rfl) h
  · have h := h.2 c1
    refine eg_aload_n 0 dX11_sumRead_55 rfl rfl ?_
    obtain ⟨q8, hq8, h⟩ := h
    refine eg_callVI (av := []) (st := []) dX11_sumRead_56 ml_11_333 rfl rfl (obM_60 z1) (by decide) rfl (Nat.le_of_ble_eq_true rfl) (eg_dd hd) hq8 (fun x6 M7 hp => ?_)
    have h := h x6 M7 hp
    refine eg_if_eq (tgt := 72) dX11_sumRead_59 rfl (fun c9 => ?_) (fun c9 => ?_)
    · have h := h.1 c9
      refine eg_iconst dX11_sumRead_72 ic_0 ?_
      exact eg_zreturn dX11_sumRead_73 rfl (Or.inl rfl) h
    · have h := h.2 c9
      refine eg_goto (tgt := 25) dX11_sumRead_62 rfl ?_
      exact h
theorem dX11_lays_0 : decode cX11_lays 0 = .ok (.iconst 0, 1) := by decide +kernel
theorem dX11_lays_1 : decode cX11_lays 1 = .ok (.istore_n 2, 1) := by decide +kernel
theorem dX11_lays_2 : decode cX11_lays 2 = .ok (.iload_n 2, 1) := by decide +kernel
theorem dX11_lays_3 : decode cX11_lays 3 = .ok (.sipush 366, 3) := by decide +kernel
theorem dX11_lays_6 : decode cX11_lays 6 = .ok (.if_icmp .ge 15, 3) := by decide +kernel
theorem dX11_lays_9 : decode cX11_lays 9 = .ok (.aload_n 0, 1) := by decide +kernel
theorem dX11_lays_10 : decode cX11_lays 10 = .ok (.iload_n 2, 1) := by decide +kernel
theorem dX11_lays_11 : decode cX11_lays 11 = .ok (.aload_n 1, 1) := by decide +kernel
theorem dX11_lays_12 : decode cX11_lays 12 = .ok (.iload_n 2, 1) := by decide +kernel
theorem dX11_lays_13 : decode cX11_lays 13 = .ok (.iaload, 1) := by decide +kernel
theorem dX11_lays_14 : decode cX11_lays 14 = .ok (.iastore, 1) := by decide +kernel
theorem dX11_lays_15 : decode cX11_lays 15 = .ok (.iinc 2 1, 3) := by decide +kernel
theorem dX11_lays_18 : decode cX11_lays 18 = .ok (.goto (-16), 3) := by decide +kernel
theorem dX11_lays_21 : decode cX11_lays 21 = .ok (.return_, 1) := by decide +kernel
set_option maxRecDepth 10000 in
theorem vX11_lays_0 {κ : eg_K} {d : Nat} {post : eg_H → Prop} (M : eg_H) {l0 : eg_R} {nl0 : Nat} (hl0 : l0 ∈ gM.1 ∧ gM.2.1 l0 = (1, nl0)) {l1 : eg_R} {nl1 : Nat} (hl1 : l1 ∈ gM.1 ∧ gM.2.1 l1 = (1, nl1)) (h : eg_W κ gM mtX11_lays d (eQV κ gM post) 2 [(0, vR l0), (1, vR l1), (2, vI (0 : Int32))] [] M) : eg_W κ gM mtX11_lays d (eQV κ gM post) 0 [(0, vR l0), (1, vR l1)] [] M := by
  refine eg_iconst dX11_lays_0 ic_0 ?_
  refine eg_istore_n dX11_lays_1 rfl (by decide) (ls1 := [(2, vI (0 : Int32)), (0, vR l0), (1, vR l1)]) rfl ?_
  refine eg_sub [1, 2, 0] rfl ?_
  exact h
set_option maxRecDepth 10000 in
theorem vX11_lays_2 {κ : eg_K} {d : Nat} {post : eg_H → Prop} (M : eg_H) {l0 : eg_R} {nl0 : Nat} (hl0 : l0 ∈ gM.1 ∧ gM.2.1 l0 = (1, nl0)) {l1 : eg_R} {nl1 : Nat} (hl1 : l1 ∈ gM.1 ∧ gM.2.1 l1 = (1, nl1)) (l2 : Int32) (h : ((366 : Int32) ≤ l2 → post M) ∧ ((¬ (366 : Int32) ≤ l2) → (vp_in l2 nl1 ∧ (vp_in l2 nl0 ∧ (∀ M4 : eg_H, M4 = (sI M l0 l2.toNatClampNeg (M.1 l1 l2.toNatClampNeg)) → (∀ x5 : Int32, x5 = (l2 + (1 : Int32)) → eg_W κ gM mtX11_lays d (eQV κ gM post) 2 [(0, vR l0), (1, vR l1), (2, vI x5)] [] M4)))))) : eg_W κ gM mtX11_lays d (eQV κ gM post) 2 [(0, vR l0), (1, vR l1), (2, vI l2)] [] M := by
  refine eg_iload_n 2 dX11_lays_2 rfl rfl ?_
  refine eg_sipush dX11_lays_3 sp_366 ?_
  refine eg_icmp_ge (tgt := 21) dX11_lays_6 rfl (fun c1 => ?_) (fun c1 => ?_)
  · have h := h.1 c1
    exact eg_vreturn dX11_lays_21 rfl h
  · have h := h.2 c1
    refine eg_aload_n 0 dX11_lays_9 rfl rfl ?_
    refine eg_iload_n 2 dX11_lays_10 rfl rfl ?_
    refine eg_aload_n 1 dX11_lays_11 rfl rfl ?_
    refine eg_iload_n 2 dX11_lays_12 rfl rfl ?_
    obtain ⟨g2, h⟩ := h
    refine eg_iaload dX11_lays_13 (eg_arA hl1 g2) ?_
    obtain ⟨g3, h⟩ := h
    refine en_iastore dX11_lays_14 (eg_arA hl0 g3) (fun M4 eM4 => ?_)
    have h := h M4 eM4
    refine en_iinc (f := fun x5 => [(2, vI x5), (0, vR l0), (1, vR l1)]) 2 dX11_lays_15 rfl rfl (by decide) rfl (fun x5 ex5 => ?_)
    have h := h x5 ex5
    refine eg_goto (tgt := 2) dX11_lays_18 rfl ?_
    refine eg_sub [1, 2, 0] rfl ?_
    exact h
theorem dX11_clears_0 : decode cX11_clears 0 = .ok (.aload_n 0, 1) := by decide +kernel
theorem dX11_clears_1 : decode cX11_clears 1 = .ok (.iconst (-1), 1) := by decide +kernel
theorem dX11_clears_2 : decode cX11_clears 2 = .ok (.putfield 339, 3) := by decide +kernel
theorem dX11_clears_5 : decode cX11_clears 5 = .ok (.aload_n 0, 1) := by decide +kernel
theorem dX11_clears_6 : decode cX11_clears 6 = .ok (.iconst (-1), 1) := by decide +kernel
theorem dX11_clears_7 : decode cX11_clears 7 = .ok (.putfield 342, 3) := by decide +kernel
theorem dX11_clears_10 : decode cX11_clears 10 = .ok (.aload_n 0, 1) := by decide +kernel
theorem dX11_clears_11 : decode cX11_clears 11 = .ok (.iconst (-1), 1) := by decide +kernel
theorem dX11_clears_12 : decode cX11_clears 12 = .ok (.putfield 345, 3) := by decide +kernel
theorem dX11_clears_15 : decode cX11_clears 15 = .ok (.aload_n 0, 1) := by decide +kernel
theorem dX11_clears_16 : decode cX11_clears 16 = .ok (.iconst (-1), 1) := by decide +kernel
theorem dX11_clears_17 : decode cX11_clears 17 = .ok (.putfield 348, 3) := by decide +kernel
theorem dX11_clears_20 : decode cX11_clears 20 = .ok (.aload_n 0, 1) := by decide +kernel
theorem dX11_clears_21 : decode cX11_clears 21 = .ok (.iconst 0, 1) := by decide +kernel
theorem dX11_clears_22 : decode cX11_clears 22 = .ok (.putfield 351, 3) := by decide +kernel
theorem dX11_clears_25 : decode cX11_clears 25 = .ok (.aload_n 0, 1) := by decide +kernel
theorem dX11_clears_26 : decode cX11_clears 26 = .ok (.aload_n 0, 1) := by decide +kernel
theorem dX11_clears_27 : decode cX11_clears 27 = .ok (.getfield 221, 3) := by decide +kernel
theorem dX11_clears_30 : decode cX11_clears 30 = .ok (.putfield 354, 3) := by decide +kernel
theorem dX11_clears_33 : decode cX11_clears 33 = .ok (.aload_n 0, 1) := by decide +kernel
theorem dX11_clears_34 : decode cX11_clears 34 = .ok (.iconst 0, 1) := by decide +kernel
theorem dX11_clears_35 : decode cX11_clears 35 = .ok (.putfield 357, 3) := by decide +kernel
theorem dX11_clears_38 : decode cX11_clears 38 = .ok (.aload_n 0, 1) := by decide +kernel
theorem dX11_clears_39 : decode cX11_clears 39 = .ok (.iconst (-1), 1) := by decide +kernel
theorem dX11_clears_40 : decode cX11_clears 40 = .ok (.putfield 360, 3) := by decide +kernel
theorem dX11_clears_43 : decode cX11_clears 43 = .ok (.iconst 0, 1) := by decide +kernel
theorem dX11_clears_44 : decode cX11_clears 44 = .ok (.istore_n 1, 1) := by decide +kernel
theorem dX11_clears_45 : decode cX11_clears 45 = .ok (.iload_n 1, 1) := by decide +kernel
theorem dX11_clears_46 : decode cX11_clears 46 = .ok (.bipush 15, 2) := by decide +kernel
theorem dX11_clears_48 : decode cX11_clears 48 = .ok (.if_icmp .ge 16, 3) := by decide +kernel
theorem dX11_clears_51 : decode cX11_clears 51 = .ok (.aload_n 0, 1) := by decide +kernel
theorem dX11_clears_52 : decode cX11_clears 52 = .ok (.getfield 78, 3) := by decide +kernel
theorem dX11_clears_55 : decode cX11_clears 55 = .ok (.iload_n 1, 1) := by decide +kernel
theorem dX11_clears_56 : decode cX11_clears 56 = .ok (.iconst 0, 1) := by decide +kernel
theorem dX11_clears_57 : decode cX11_clears 57 = .ok (.iastore, 1) := by decide +kernel
theorem dX11_clears_58 : decode cX11_clears 58 = .ok (.iinc 1 1, 3) := by decide +kernel
theorem dX11_clears_61 : decode cX11_clears 61 = .ok (.goto (-16), 3) := by decide +kernel
theorem dX11_clears_64 : decode cX11_clears 64 = .ok (.iconst 0, 1) := by decide +kernel
theorem dX11_clears_65 : decode cX11_clears 65 = .ok (.istore_n 1, 1) := by decide +kernel
theorem dX11_clears_66 : decode cX11_clears 66 = .ok (.iload_n 1, 1) := by decide +kernel
theorem dX11_clears_67 : decode cX11_clears 67 = .ok (.iconst 5, 1) := by decide +kernel
theorem dX11_clears_68 : decode cX11_clears 68 = .ok (.if_icmp .ge 21, 3) := by decide +kernel
theorem dX11_clears_71 : decode cX11_clears 71 = .ok (.aload_n 0, 1) := by decide +kernel
theorem dX11_clears_72 : decode cX11_clears 72 = .ok (.getfield 81, 3) := by decide +kernel
theorem dX11_clears_75 : decode cX11_clears 75 = .ok (.iload_n 1, 1) := by decide +kernel
theorem dX11_clears_76 : decode cX11_clears 76 = .ok (.aload_n 0, 1) := by decide +kernel
theorem dX11_clears_77 : decode cX11_clears 77 = .ok (.getfield 75, 3) := by decide +kernel
theorem dX11_clears_80 : decode cX11_clears 80 = .ok (.iload_n 1, 1) := by decide +kernel
theorem dX11_clears_81 : decode cX11_clears 81 = .ok (.iaload, 1) := by decide +kernel
theorem dX11_clears_82 : decode cX11_clears 82 = .ok (.iastore, 1) := by decide +kernel
theorem dX11_clears_83 : decode cX11_clears 83 = .ok (.iinc 1 1, 3) := by decide +kernel
theorem dX11_clears_86 : decode cX11_clears 86 = .ok (.goto (-20), 3) := by decide +kernel
theorem dX11_clears_89 : decode cX11_clears 89 = .ok (.return_, 1) := by decide +kernel
set_option maxRecDepth 10000 in
theorem vX11_clears_0 {κ : eg_K} {d : Nat} {post : eg_H → Prop} (M : eg_H)  (h : (∀ M1 : eg_H, M1 = (sI M (60, 0) 52 (-1 : Int32)) → (∀ M2 : eg_H, M2 = (sI M1 (60, 0) 53 (-1 : Int32)) → (∀ M3 : eg_H, M3 = (sI M2 (60, 0) 55 (-1 : Int32)) → (∀ M4 : eg_H, M4 = (sI M3 (60, 0) 57 (-1 : Int32)) → (∀ M5 : eg_H, M5 = (sI M4 (60, 0) 59 (0 : Int32)) → (((M5.1 (60, 0) 16) = 0 ∨ (M5.1 (60, 0) 16) = 1) ∧ (∀ M6 : eg_H, M6 = (sI M5 (60, 0) 60 (M5.1 (60, 0) 16)) → (∀ M8 : eg_H, M8 = (sI M6 (60, 0) 61 (0 : Int32)) → (∀ M9 : eg_H, M9 = (sI M8 (60, 0) 62 (-1 : Int32)) → eg_W κ gM mtX11_clears d (eQV κ gM post) 45 [(0, vR (60, 0)), (1, vI (0 : Int32))] [] M9)))))))))) : eg_W κ gM mtX11_clears d (eQV κ gM post) 0 [(0, vR (60, 0))] [] M := by
  refine eg_aload_n 0 dX11_clears_0 rfl rfl ?_
  refine eg_iconst dX11_clears_1 ic_m1 ?_
  refine en_putI dX11_clears_2 fl_11_339 rfl rfl (obM_60 z1) (fun M1 eM1 => ?_)
  have h := h M1 eM1
  refine eg_aload_n 0 dX11_clears_5 rfl rfl ?_
  refine eg_iconst dX11_clears_6 ic_m1 ?_
  refine en_putI dX11_clears_7 fl_11_342 rfl rfl (obM_60 z1) (fun M2 eM2 => ?_)
  have h := h M2 eM2
  refine eg_aload_n 0 dX11_clears_10 rfl rfl ?_
  refine eg_iconst dX11_clears_11 ic_m1 ?_
  refine en_putI dX11_clears_12 fl_11_345 rfl rfl (obM_60 z1) (fun M3 eM3 => ?_)
  have h := h M3 eM3
  refine eg_aload_n 0 dX11_clears_15 rfl rfl ?_
  refine eg_iconst dX11_clears_16 ic_m1 ?_
  refine en_putI dX11_clears_17 fl_11_348 rfl rfl (obM_60 z1) (fun M4 eM4 => ?_)
  have h := h M4 eM4
  refine eg_aload_n 0 dX11_clears_20 rfl rfl ?_
  refine eg_iconst dX11_clears_21 ic_0 ?_
  refine en_putI dX11_clears_22 fl_11_351 rfl rfl (obM_60 z1) (fun M5 eM5 => ?_)
  have h := h M5 eM5
  refine eg_aload_n 0 dX11_clears_25 rfl rfl ?_
  refine eg_aload_n 0 dX11_clears_26 rfl rfl ?_
  refine eg_getI dX11_clears_27 fl_11_221 rfl trivial (obM_60 z1) ?_
  obtain ⟨g7, h⟩ := h
  refine en_putZ dX11_clears_30 fl_11_354 rfl rfl g7 (obM_60 z1) (fun M6 eM6 => ?_)
  have h := h M6 eM6
  refine eg_aload_n 0 dX11_clears_33 rfl rfl ?_
  refine eg_iconst dX11_clears_34 ic_0 ?_
  refine en_putI dX11_clears_35 fl_11_357 rfl rfl (obM_60 z1) (fun M8 eM8 => ?_)
  have h := h M8 eM8
  refine eg_aload_n 0 dX11_clears_38 rfl rfl ?_
  refine eg_iconst dX11_clears_39 ic_m1 ?_
  refine en_putI dX11_clears_40 fl_11_360 rfl rfl (obM_60 z1) (fun M9 eM9 => ?_)
  have h := h M9 eM9
  refine eg_iconst dX11_clears_43 ic_0 ?_
  refine eg_istore_n dX11_clears_44 rfl (by decide) (ls1 := [(1, vI (0 : Int32)), (0, vR (60, 0))]) rfl ?_
  refine eg_sub [1, 0] rfl ?_
  exact h
set_option maxRecDepth 10000 in
theorem vX11_clears_45 {κ : eg_K} {d : Nat} {post : eg_H → Prop} (M : eg_H) (l1 : Int32) (h : ((15 : Int32) ≤ l1 → eg_W κ gM mtX11_clears d (eQV κ gM post) 66 [(0, vR (60, 0)), (1, vI (0 : Int32))] [] M) ∧ ((¬ (15 : Int32) ≤ l1) → (vp_in l1 15 ∧ (∀ M3 : eg_H, M3 = (sI M (125, 0) l1.toNatClampNeg (0 : Int32)) → (∀ x4 : Int32, x4 = (l1 + (1 : Int32)) → eg_W κ gM mtX11_clears d (eQV κ gM post) 45 [(0, vR (60, 0)), (1, vI x4)] [] M3))))) : eg_W κ gM mtX11_clears d (eQV κ gM post) 45 [(0, vR (60, 0)), (1, vI l1)] [] M := by
  refine eg_iload_n 1 dX11_clears_45 rfl rfl ?_
  refine eg_bipush dX11_clears_46 bp_15 ?_
  refine eg_icmp_ge (tgt := 64) dX11_clears_48 rfl (fun c1 => ?_) (fun c1 => ?_)
  · have h := h.1 c1
    refine eg_iconst dX11_clears_64 ic_0 ?_
    refine eg_istore_n dX11_clears_65 rfl (by decide) (ls1 := [(1, vI (0 : Int32)), (0, vR (60, 0))]) rfl ?_
    refine eg_sub [1, 0] rfl ?_
    exact h
  · have h := h.2 c1
    refine eg_aload_n 0 dX11_clears_51 rfl rfl ?_
    refine eg_getR dX11_clears_52 fl_11_78 rfl rfl (obM_60 z1) ?_
    show eg_W κ gM mtX11_clears d (eQV κ gM post) 55 [(0, vR (60, 0)), (1, vI l1)] [vR (125, 0)] M
    refine eg_iload_n 1 dX11_clears_55 rfl rfl ?_
    refine eg_iconst dX11_clears_56 ic_0 ?_
    obtain ⟨g2, h⟩ := h
    refine en_iastore dX11_clears_57 (arM_125 z1 g2) (fun M3 eM3 => ?_)
    have h := h M3 eM3
    refine en_iinc (f := fun x4 => [(1, vI x4), (0, vR (60, 0))]) 1 dX11_clears_58 rfl rfl (by decide) rfl (fun x4 ex4 => ?_)
    have h := h x4 ex4
    refine eg_goto (tgt := 45) dX11_clears_61 rfl ?_
    refine eg_sub [1, 0] rfl ?_
    exact h
set_option maxRecDepth 10000 in
theorem vX11_clears_66 {κ : eg_K} {d : Nat} {post : eg_H → Prop} (M : eg_H) (l1 : Int32) (h : ((5 : Int32) ≤ l1 → post M) ∧ ((¬ (5 : Int32) ≤ l1) → (vp_in l1 5 ∧ (∀ M3 : eg_H, M3 = (sI M (126, 0) l1.toNatClampNeg (M.1 (112, 0) l1.toNatClampNeg)) → (∀ x4 : Int32, x4 = (l1 + (1 : Int32)) → eg_W κ gM mtX11_clears d (eQV κ gM post) 66 [(0, vR (60, 0)), (1, vI x4)] [] M3))))) : eg_W κ gM mtX11_clears d (eQV κ gM post) 66 [(0, vR (60, 0)), (1, vI l1)] [] M := by
  refine eg_iload_n 1 dX11_clears_66 rfl rfl ?_
  refine eg_iconst dX11_clears_67 ic_5 ?_
  refine eg_icmp_ge (tgt := 89) dX11_clears_68 rfl (fun c1 => ?_) (fun c1 => ?_)
  · have h := h.1 c1
    exact eg_vreturn dX11_clears_89 rfl h
  · have h := h.2 c1
    refine eg_aload_n 0 dX11_clears_71 rfl rfl ?_
    refine eg_getR dX11_clears_72 fl_11_81 rfl rfl (obM_60 z1) ?_
    show eg_W κ gM mtX11_clears d (eQV κ gM post) 75 [(0, vR (60, 0)), (1, vI l1)] [vR (126, 0)] M
    refine eg_iload_n 1 dX11_clears_75 rfl rfl ?_
    refine eg_aload_n 0 dX11_clears_76 rfl rfl ?_
    refine eg_getR dX11_clears_77 fl_11_75 rfl rfl (obM_60 z1) ?_
    show eg_W κ gM mtX11_clears d (eQV κ gM post) 80 [(0, vR (60, 0)), (1, vI l1)] [vR (112, 0), vI l1, vR (126, 0)] M
    refine eg_iload_n 1 dX11_clears_80 rfl rfl ?_
    obtain ⟨g2, h⟩ := h
    refine eg_iaload dX11_clears_81 (arM_112 z1 g2) ?_
    refine en_iastore dX11_clears_82 (arM_126 z1 g2) (fun M3 eM3 => ?_)
    have h := h M3 eM3
    refine en_iinc (f := fun x4 => [(1, vI x4), (0, vR (60, 0))]) 1 dX11_clears_83 rfl rfl (by decide) rfl (fun x4 ex4 => ?_)
    have h := h x4 ex4
    refine eg_goto (tgt := 66) dX11_clears_86 rfl ?_
    refine eg_sub [1, 0] rfl ?_
    exact h
theorem dX11_has_0 : decode cX11_has 0 = .ok (.aload_n 0, 1) := by decide +kernel
theorem dX11_has_1 : decode cX11_has 1 = .ok (.getfield 23, 3) := by decide +kernel
theorem dX11_has_4 : decode cX11_has 4 = .ok (.bipush 6, 2) := by decide +kernel
theorem dX11_has_6 : decode cX11_has 6 = .ok (.iload_n 1, 1) := by decide +kernel
theorem dX11_has_7 : decode cX11_has 7 = .ok (.imul, 1) := by decide +kernel
theorem dX11_has_8 : decode cX11_has 8 = .ok (.iload_n 2, 1) := by decide +kernel
theorem dX11_has_9 : decode cX11_has 9 = .ok (.iadd, 1) := by decide +kernel
theorem dX11_has_10 : decode cX11_has 10 = .ok (.iaload, 1) := by decide +kernel
theorem dX11_has_11 : decode cX11_has 11 = .ok (.ireturn, 1) := by decide +kernel
set_option maxRecDepth 10000 in
theorem vX11_has_0 {κ : eg_K} {d : Nat} {post : Int32 → eg_H → Prop} (M : eg_H) (l1 : Int32) (l2 : Int32) (h : (vp_in (((6 : Int32) * l1) + l2) 60 ∧ post (M.1 (89, 0) (((6 : Int32) * l1) + l2).toNatClampNeg) M)) : eg_W κ gM mtX11_has d (eQI κ gM post) 0 [(0, vR (60, 0)), (1, vI l1), (2, vI l2)] [] M := by
  refine eg_aload_n 0 dX11_has_0 rfl rfl ?_
  refine eg_getR dX11_has_1 fl_11_23 rfl rfl (obM_60 z1) ?_
  show eg_W κ gM mtX11_has d (eQI κ gM post) 4 [(0, vR (60, 0)), (1, vI l1), (2, vI l2)] [vR (89, 0)] M
  refine eg_bipush dX11_has_4 bp_6 ?_
  refine eg_iload_n 1 dX11_has_6 rfl rfl ?_
  refine eg_imul dX11_has_7 ?_
  refine eg_iload_n 2 dX11_has_8 rfl rfl ?_
  refine eg_iadd dX11_has_9 ?_
  obtain ⟨g1, h⟩ := h
  refine eg_iaload dX11_has_10 (arM_89 z1 g1) ?_
  exact eg_ireturn dX11_has_11 rfl h
theorem dX11_portionsOf_0 : decode cX11_portionsOf 0 = .ok (.iload_n 1, 1) := by decide +kernel
theorem dX11_portionsOf_1 : decode cX11_portionsOf 1 = .ok (.aload_n 0, 1) := by decide +kernel
theorem dX11_portionsOf_2 : decode cX11_portionsOf 2 = .ok (.getfield 348, 3) := by decide +kernel
theorem dX11_portionsOf_5 : decode cX11_portionsOf 5 = .ok (.if_icmp .ne 10, 3) := by decide +kernel
theorem dX11_portionsOf_8 : decode cX11_portionsOf 8 = .ok (.aload_n 0, 1) := by decide +kernel
theorem dX11_portionsOf_9 : decode cX11_portionsOf 9 = .ok (.getfield 363, 3) := by decide +kernel
theorem dX11_portionsOf_12 : decode cX11_portionsOf 12 = .ok (.goto 9, 3) := by decide +kernel
theorem dX11_portionsOf_15 : decode cX11_portionsOf 15 = .ok (.aload_n 0, 1) := by decide +kernel
theorem dX11_portionsOf_16 : decode cX11_portionsOf 16 = .ok (.iload_n 1, 1) := by decide +kernel
theorem dX11_portionsOf_17 : decode cX11_portionsOf 17 = .ok (.iconst 2, 1) := by decide +kernel
theorem dX11_portionsOf_18 : decode cX11_portionsOf 18 = .ok (.invokevirtual 366, 3) := by decide +kernel
theorem dX11_portionsOf_21 : decode cX11_portionsOf 21 = .ok (.ireturn, 1) := by decide +kernel
set_option maxRecDepth 10000 in
theorem vX11_portionsOf_0 {κ : eg_K} {d : Nat} (hd : 1 ≤ d) {post : Int32 → eg_H → Prop} (M : eg_H) (l1 : Int32) (h : ((¬ l1 = (M.1 (60, 0) 57)) → eCI κ gM mtX11_has d [vR (60, 0), vI l1, vI (2 : Int32)] M (fun x2 M3 => post x2 M3)) ∧ (l1 = (M.1 (60, 0) 57) → post (M.1 (60, 0) 58) M)) : eg_W κ gM mtX11_portionsOf d (eQI κ gM post) 0 [(0, vR (60, 0)), (1, vI l1)] [] M := by
  refine eg_iload_n 1 dX11_portionsOf_0 rfl rfl ?_
  refine eg_aload_n 0 dX11_portionsOf_1 rfl rfl ?_
  refine eg_getI dX11_portionsOf_2 fl_11_348 rfl trivial (obM_60 z1) ?_
  refine eg_icmp_ne (tgt := 15) dX11_portionsOf_5 rfl (fun c1 => ?_) (fun c1 => ?_)
  · have h := h.1 c1
    refine eg_aload_n 0 dX11_portionsOf_15 rfl rfl ?_
    refine eg_iload_n 1 dX11_portionsOf_16 rfl rfl ?_
    refine eg_iconst dX11_portionsOf_17 ic_2 ?_
    obtain ⟨q4, hq4, h⟩ := h
    refine eg_callVI (av := [vI l1, vI (2 : Int32)]) (st := []) dX11_portionsOf_18 ml_11_366 rfl rfl (obM_60 z1) (by decide) rfl (Nat.le_of_ble_eq_true rfl) (eg_dd hd) hq4 (fun x2 M3 hp => ?_)
    have h := h x2 M3 hp
    exact eg_ireturn dX11_portionsOf_21 rfl h
  · have h := h.2 c1
    refine eg_aload_n 0 dX11_portionsOf_8 rfl rfl ?_
    refine eg_getI dX11_portionsOf_9 fl_11_363 rfl trivial (obM_60 z1) ?_
    refine eg_goto (tgt := 21) dX11_portionsOf_12 rfl ?_
    exact eg_ireturn dX11_portionsOf_21 rfl h
theorem dX11_sizeOf_0 : decode cX11_sizeOf 0 = .ok (.aload_n 0, 1) := by decide +kernel
theorem dX11_sizeOf_1 : decode cX11_sizeOf 1 = .ok (.getfield 351, 3) := by decide +kernel
theorem dX11_sizeOf_4 : decode cX11_sizeOf 4 = .ok (.ifCond .le 10, 3) := by decide +kernel
theorem dX11_sizeOf_7 : decode cX11_sizeOf 7 = .ok (.aload_n 0, 1) := by decide +kernel
theorem dX11_sizeOf_8 : decode cX11_sizeOf 8 = .ok (.getfield 351, 3) := by decide +kernel
theorem dX11_sizeOf_11 : decode cX11_sizeOf 11 = .ok (.goto 9, 3) := by decide +kernel
theorem dX11_sizeOf_14 : decode cX11_sizeOf 14 = .ok (.aload_n 0, 1) := by decide +kernel
theorem dX11_sizeOf_15 : decode cX11_sizeOf 15 = .ok (.getfield 32, 3) := by decide +kernel
theorem dX11_sizeOf_18 : decode cX11_sizeOf 18 = .ok (.iload_n 1, 1) := by decide +kernel
theorem dX11_sizeOf_19 : decode cX11_sizeOf 19 = .ok (.iaload, 1) := by decide +kernel
theorem dX11_sizeOf_20 : decode cX11_sizeOf 20 = .ok (.ireturn, 1) := by decide +kernel
set_option maxRecDepth 10000 in
theorem vX11_sizeOf_0 {κ : eg_K} {d : Nat} {post : Int32 → eg_H → Prop} (M : eg_H) (l1 : Int32) (h : (((M.1 (60, 0) 59) ≤ 0 → vp_in l1 24) ∧ (∀ x2 : Int32, x2 = ((if (M.1 (60, 0) 59) ≤ 0 then (M.1 (92, 0) l1.toNatClampNeg) else (M.1 (60, 0) 59))) → post x2 M))) : eg_W κ gM mtX11_sizeOf d (eQI κ gM post) 0 [(0, vR (60, 0)), (1, vI l1)] [] M := by
  refine eg_aload_n 0 dX11_sizeOf_0 rfl rfl ?_
  refine eg_getI dX11_sizeOf_1 fl_11_351 rfl trivial (obM_60 z1) ?_
  obtain ⟨g1, h⟩ := h
  have J : ∀ x2 : Int32, x2 = (if (M.1 (60, 0) 59) ≤ 0 then (M.1 (92, 0) l1.toNatClampNeg) else (M.1 (60, 0) 59)) → eg_W κ gM mtX11_sizeOf d (eQI κ gM post) 20 [(0, vR (60, 0)), (1, vI l1)] [vI x2] M := by
    intro x2 ex2
    have h := h x2 ex2
    exact eg_ireturn dX11_sizeOf_20 rfl h
  clear h
  refine eg_if_le (tgt := 14) dX11_sizeOf_4 rfl (fun c3 => ?_) (fun c3 => ?_)
  · refine eg_aload_n 0 dX11_sizeOf_14 rfl rfl ?_
    refine eg_getR dX11_sizeOf_15 fl_11_32 rfl rfl (obM_60 z1) ?_
    show eg_W κ gM mtX11_sizeOf d (eQI κ gM post) 18 [(0, vR (60, 0)), (1, vI l1)] [vR (92, 0)] M
    refine eg_iload_n 1 dX11_sizeOf_18 rfl rfl ?_
    refine eg_iaload dX11_sizeOf_19 (arM_92 z1 (g1 c3)) ?_
    exact J _ (by rw [if_pos c3])
  · refine eg_aload_n 0 dX11_sizeOf_7 rfl rfl ?_
    refine eg_getI dX11_sizeOf_8 fl_11_351 rfl trivial (obM_60 z1) ?_
    refine eg_goto (tgt := 20) dX11_sizeOf_11 rfl ?_
    exact J _ (by rw [if_neg c3])
theorem dX11_everybody_0 : decode cX11_everybody 0 = .ok (.aload_n 0, 1) := by decide +kernel
theorem dX11_everybody_1 : decode cX11_everybody 1 = .ok (.getfield 212, 3) := by decide +kernel
theorem dX11_everybody_4 : decode cX11_everybody 4 = .ok (.aload_n 0, 1) := by decide +kernel
theorem dX11_everybody_5 : decode cX11_everybody 5 = .ok (.getfield 357, 3) := by decide +kernel
theorem dX11_everybody_8 : decode cX11_everybody 8 = .ok (.iadd, 1) := by decide +kernel
theorem dX11_everybody_9 : decode cX11_everybody 9 = .ok (.ireturn, 1) := by decide +kernel
set_option maxRecDepth 10000 in
theorem vX11_everybody_0 {κ : eg_K} {d : Nat} {post : Int32 → eg_H → Prop} (M : eg_H)  (h : post ((M.1 (60, 0) 13) + (M.1 (60, 0) 61)) M) : eg_W κ gM mtX11_everybody d (eQI κ gM post) 0 [(0, vR (60, 0))] [] M := by
  refine eg_aload_n 0 dX11_everybody_0 rfl rfl ?_
  refine eg_getI dX11_everybody_1 fl_11_212 rfl trivial (obM_60 z1) ?_
  refine eg_aload_n 0 dX11_everybody_4 rfl rfl ?_
  refine eg_getI dX11_everybody_5 fl_11_357 rfl trivial (obM_60 z1) ?_
  refine eg_iadd dX11_everybody_8 ?_
  exact eg_ireturn dX11_everybody_9 rfl h
theorem dX11_at_0 : decode cX11_at 0 = .ok (.bipush 20, 2) := by decide +kernel
theorem dX11_at_2 : decode cX11_at 2 = .ok (.bipush 20, 2) := by decide +kernel
theorem dX11_at_4 : decode cX11_at 4 = .ok (.iload_n 0, 1) := by decide +kernel
theorem dX11_at_5 : decode cX11_at 5 = .ok (.imul, 1) := by decide +kernel
theorem dX11_at_6 : decode cX11_at 6 = .ok (.iadd, 1) := by decide +kernel
theorem dX11_at_7 : decode cX11_at 7 = .ok (.ireturn, 1) := by decide +kernel
set_option maxRecDepth 10000 in
theorem vX11_at_0 {κ : eg_K} {d : Nat} {post : Int32 → eg_H → Prop} (M : eg_H) (l0 : Int32) (h : post ((20 : Int32) + ((20 : Int32) * l0)) M) : eg_W κ gM mtX11_at d (eQI κ gM post) 0 [(0, vI l0)] [] M := by
  refine eg_bipush dX11_at_0 bp_20 ?_
  refine eg_bipush dX11_at_2 bp_20 ?_
  refine eg_iload_n 0 dX11_at_4 rfl rfl ?_
  refine eg_imul dX11_at_5 ?_
  refine eg_iadd dX11_at_6 ?_
  exact eg_ireturn dX11_at_7 rfl h
theorem dX11_pan_0 : decode cX11_pan 0 = .ok (.sipush 320, 3) := by decide +kernel
theorem dX11_pan_3 : decode cX11_pan 3 = .ok (.bipush 8, 2) := by decide +kernel
theorem dX11_pan_5 : decode cX11_pan 5 = .ok (.iload_n 0, 1) := by decide +kernel
theorem dX11_pan_6 : decode cX11_pan 6 = .ok (.imul, 1) := by decide +kernel
theorem dX11_pan_7 : decode cX11_pan 7 = .ok (.iadd, 1) := by decide +kernel
theorem dX11_pan_8 : decode cX11_pan 8 = .ok (.ireturn, 1) := by decide +kernel
set_option maxRecDepth 10000 in
theorem vX11_pan_0 {κ : eg_K} {d : Nat} {post : Int32 → eg_H → Prop} (M : eg_H) (l0 : Int32) (h : post ((320 : Int32) + ((8 : Int32) * l0)) M) : eg_W κ gM mtX11_pan d (eQI κ gM post) 0 [(0, vI l0)] [] M := by
  refine eg_sipush dX11_pan_0 sp_320 ?_
  refine eg_bipush dX11_pan_3 bp_8 ?_
  refine eg_iload_n 0 dX11_pan_5 rfl rfl ?_
  refine eg_imul dX11_pan_6 ?_
  refine eg_iadd dX11_pan_7 ?_
  exact eg_ireturn dX11_pan_8 rfl h
theorem dX11_begins_0 : decode cX11_begins 0 = .ok (.iconst 0, 1) := by decide +kernel
theorem dX11_begins_1 : decode cX11_begins 1 = .ok (.istore_n 1, 1) := by decide +kernel
theorem dX11_begins_2 : decode cX11_begins 2 = .ok (.iload_n 1, 1) := by decide +kernel
theorem dX11_begins_3 : decode cX11_begins 3 = .ok (.sipush 366, 3) := by decide +kernel
theorem dX11_begins_6 : decode cX11_begins 6 = .ok (.if_icmp .ge 16, 3) := by decide +kernel
theorem dX11_begins_9 : decode cX11_begins 9 = .ok (.aload_n 0, 1) := by decide +kernel
theorem dX11_begins_10 : decode cX11_begins 10 = .ok (.getfield 69, 3) := by decide +kernel
theorem dX11_begins_13 : decode cX11_begins 13 = .ok (.iload_n 1, 1) := by decide +kernel
theorem dX11_begins_14 : decode cX11_begins 14 = .ok (.iconst 0, 1) := by decide +kernel
theorem dX11_begins_15 : decode cX11_begins 15 = .ok (.iastore, 1) := by decide +kernel
theorem dX11_begins_16 : decode cX11_begins 16 = .ok (.iinc 1 1, 3) := by decide +kernel
theorem dX11_begins_19 : decode cX11_begins 19 = .ok (.goto (-17), 3) := by decide +kernel
theorem dX11_begins_22 : decode cX11_begins 22 = .ok (.iconst 0, 1) := by decide +kernel
theorem dX11_begins_23 : decode cX11_begins 23 = .ok (.istore_n 1, 1) := by decide +kernel
theorem dX11_begins_24 : decode cX11_begins 24 = .ok (.iload_n 1, 1) := by decide +kernel
theorem dX11_begins_25 : decode cX11_begins 25 = .ok (.aload_n 0, 1) := by decide +kernel
theorem dX11_begins_26 : decode cX11_begins 26 = .ok (.invokevirtual 369, 3) := by decide +kernel
theorem dX11_begins_29 : decode cX11_begins 29 = .ok (.if_icmp .ge 148, 3) := by decide +kernel
theorem dX11_begins_32 : decode cX11_begins 32 = .ok (.iload_n 1, 1) := by decide +kernel
theorem dX11_begins_33 : decode cX11_begins 33 = .ok (.invokestatic 372, 3) := by decide +kernel
theorem dX11_begins_36 : decode cX11_begins 36 = .ok (.istore_n 2, 1) := by decide +kernel
theorem dX11_begins_37 : decode cX11_begins 37 = .ok (.aload_n 0, 1) := by decide +kernel
theorem dX11_begins_38 : decode cX11_begins 38 = .ok (.getfield 29, 3) := by decide +kernel
theorem dX11_begins_41 : decode cX11_begins 41 = .ok (.iload_n 1, 1) := by decide +kernel
theorem dX11_begins_42 : decode cX11_begins 42 = .ok (.iaload, 1) := by decide +kernel
theorem dX11_begins_43 : decode cX11_begins 43 = .ok (.aload_n 0, 1) := by decide +kernel
theorem dX11_begins_44 : decode cX11_begins 44 = .ok (.getfield 78, 3) := by decide +kernel
theorem dX11_begins_47 : decode cX11_begins 47 = .ok (.iload_n 1, 1) := by decide +kernel
theorem dX11_begins_48 : decode cX11_begins 48 = .ok (.iaload, 1) := by decide +kernel
theorem dX11_begins_49 : decode cX11_begins 49 = .ok (.iadd, 1) := by decide +kernel
theorem dX11_begins_50 : decode cX11_begins 50 = .ok (.istore_n 3, 1) := by decide +kernel
theorem dX11_begins_51 : decode cX11_begins 51 = .ok (.aload_n 0, 1) := by decide +kernel
theorem dX11_begins_52 : decode cX11_begins 52 = .ok (.getfield 69, 3) := by decide +kernel
theorem dX11_begins_55 : decode cX11_begins 55 = .ok (.iload_n 2, 1) := by decide +kernel
theorem dX11_begins_56 : decode cX11_begins 56 = .ok (.iload_n 1, 1) := by decide +kernel
theorem dX11_begins_57 : decode cX11_begins 57 = .ok (.aload_n 0, 1) := by decide +kernel
theorem dX11_begins_58 : decode cX11_begins 58 = .ok (.getfield 339, 3) := by decide +kernel
theorem dX11_begins_61 : decode cX11_begins 61 = .ok (.if_icmp .ne 7, 3) := by decide +kernel
theorem dX11_begins_64 : decode cX11_begins 64 = .ok (.iconst 3, 1) := by decide +kernel
theorem dX11_begins_65 : decode cX11_begins 65 = .ok (.goto 4, 3) := by decide +kernel
theorem dX11_begins_68 : decode cX11_begins 68 = .ok (.iconst 0, 1) := by decide +kernel
theorem dX11_begins_69 : decode cX11_begins 69 = .ok (.iastore, 1) := by decide +kernel
theorem dX11_begins_70 : decode cX11_begins 70 = .ok (.aload_n 0, 1) := by decide +kernel
theorem dX11_begins_71 : decode cX11_begins 71 = .ok (.getfield 69, 3) := by decide +kernel
theorem dX11_begins_74 : decode cX11_begins 74 = .ok (.iload_n 2, 1) := by decide +kernel
theorem dX11_begins_75 : decode cX11_begins 75 = .ok (.iconst 1, 1) := by decide +kernel
theorem dX11_begins_76 : decode cX11_begins 76 = .ok (.iadd, 1) := by decide +kernel
theorem dX11_begins_77 : decode cX11_begins 77 = .ok (.iconst (-1), 1) := by decide +kernel
theorem dX11_begins_78 : decode cX11_begins 78 = .ok (.iastore, 1) := by decide +kernel
theorem dX11_begins_79 : decode cX11_begins 79 = .ok (.aload_n 0, 1) := by decide +kernel
theorem dX11_begins_80 : decode cX11_begins 80 = .ok (.getfield 69, 3) := by decide +kernel
theorem dX11_begins_83 : decode cX11_begins 83 = .ok (.iload_n 2, 1) := by decide +kernel
theorem dX11_begins_84 : decode cX11_begins 84 = .ok (.iconst 2, 1) := by decide +kernel
theorem dX11_begins_85 : decode cX11_begins 85 = .ok (.iadd, 1) := by decide +kernel
theorem dX11_begins_86 : decode cX11_begins 86 = .ok (.aload_n 0, 1) := by decide +kernel
theorem dX11_begins_87 : decode cX11_begins 87 = .ok (.iload_n 1, 1) := by decide +kernel
theorem dX11_begins_88 : decode cX11_begins 88 = .ok (.invokevirtual 374, 3) := by decide +kernel
theorem dX11_begins_91 : decode cX11_begins 91 = .ok (.iastore, 1) := by decide +kernel
theorem dX11_begins_92 : decode cX11_begins 92 = .ok (.aload_n 0, 1) := by decide +kernel
theorem dX11_begins_93 : decode cX11_begins 93 = .ok (.getfield 69, 3) := by decide +kernel
theorem dX11_begins_96 : decode cX11_begins 96 = .ok (.iload_n 2, 1) := by decide +kernel
theorem dX11_begins_97 : decode cX11_begins 97 = .ok (.bipush 11, 2) := by decide +kernel
theorem dX11_begins_99 : decode cX11_begins 99 = .ok (.iadd, 1) := by decide +kernel
theorem dX11_begins_100 : decode cX11_begins 100 = .ok (.iload_n 3, 1) := by decide +kernel
theorem dX11_begins_101 : decode cX11_begins 101 = .ok (.sipush 3599, 3) := by decide +kernel
theorem dX11_begins_104 : decode cX11_begins 104 = .ok (.if_icmp .le 9, 3) := by decide +kernel
theorem dX11_begins_107 : decode cX11_begins 107 = .ok (.sipush 3599, 3) := by decide +kernel
theorem dX11_begins_110 : decode cX11_begins 110 = .ok (.goto 4, 3) := by decide +kernel
theorem dX11_begins_113 : decode cX11_begins 113 = .ok (.iload_n 3, 1) := by decide +kernel
theorem dX11_begins_114 : decode cX11_begins 114 = .ok (.iastore, 1) := by decide +kernel
theorem dX11_begins_115 : decode cX11_begins 115 = .ok (.aload_n 0, 1) := by decide +kernel
theorem dX11_begins_116 : decode cX11_begins 116 = .ok (.getfield 69, 3) := by decide +kernel
theorem dX11_begins_119 : decode cX11_begins 119 = .ok (.iload_n 2, 1) := by decide +kernel
theorem dX11_begins_120 : decode cX11_begins 120 = .ok (.bipush 12, 2) := by decide +kernel
theorem dX11_begins_122 : decode cX11_begins 122 = .ok (.iadd, 1) := by decide +kernel
theorem dX11_begins_123 : decode cX11_begins 123 = .ok (.aload_n 0, 1) := by decide +kernel
theorem dX11_begins_124 : decode cX11_begins 124 = .ok (.getfield 69, 3) := by decide +kernel
theorem dX11_begins_127 : decode cX11_begins 127 = .ok (.iload_n 2, 1) := by decide +kernel
theorem dX11_begins_128 : decode cX11_begins 128 = .ok (.bipush 11, 2) := by decide +kernel
theorem dX11_begins_130 : decode cX11_begins 130 = .ok (.iadd, 1) := by decide +kernel
theorem dX11_begins_131 : decode cX11_begins 131 = .ok (.iaload, 1) := by decide +kernel
theorem dX11_begins_132 : decode cX11_begins 132 = .ok (.iastore, 1) := by decide +kernel
theorem dX11_begins_133 : decode cX11_begins 133 = .ok (.iconst 0, 1) := by decide +kernel
theorem dX11_begins_134 : decode cX11_begins 134 = .ok (.istore 4, 2) := by decide +kernel
theorem dX11_begins_136 : decode cX11_begins 136 = .ok (.iload 4, 2) := by decide +kernel
theorem dX11_begins_138 : decode cX11_begins 138 = .ok (.iconst 5, 1) := by decide +kernel
theorem dX11_begins_139 : decode cX11_begins 139 = .ok (.if_icmp .ge 32, 3) := by decide +kernel
theorem dX11_begins_142 : decode cX11_begins 142 = .ok (.aload_n 0, 1) := by decide +kernel
theorem dX11_begins_143 : decode cX11_begins 143 = .ok (.getfield 69, 3) := by decide +kernel
theorem dX11_begins_146 : decode cX11_begins 146 = .ok (.iload_n 2, 1) := by decide +kernel
theorem dX11_begins_147 : decode cX11_begins 147 = .ok (.bipush 14, 2) := by decide +kernel
theorem dX11_begins_149 : decode cX11_begins 149 = .ok (.iadd, 1) := by decide +kernel
theorem dX11_begins_150 : decode cX11_begins 150 = .ok (.iload 4, 2) := by decide +kernel
theorem dX11_begins_152 : decode cX11_begins 152 = .ok (.iadd, 1) := by decide +kernel
theorem dX11_begins_153 : decode cX11_begins 153 = .ok (.aload_n 0, 1) := by decide +kernel
theorem dX11_begins_154 : decode cX11_begins 154 = .ok (.getfield 35, 3) := by decide +kernel
theorem dX11_begins_157 : decode cX11_begins 157 = .ok (.iconst 5, 1) := by decide +kernel
theorem dX11_begins_158 : decode cX11_begins 158 = .ok (.iload_n 1, 1) := by decide +kernel
theorem dX11_begins_159 : decode cX11_begins 159 = .ok (.imul, 1) := by decide +kernel
theorem dX11_begins_160 : decode cX11_begins 160 = .ok (.iload 4, 2) := by decide +kernel
theorem dX11_begins_162 : decode cX11_begins 162 = .ok (.iadd, 1) := by decide +kernel
theorem dX11_begins_163 : decode cX11_begins 163 = .ok (.iaload, 1) := by decide +kernel
theorem dX11_begins_164 : decode cX11_begins 164 = .ok (.iastore, 1) := by decide +kernel
theorem dX11_begins_165 : decode cX11_begins 165 = .ok (.iinc 4 1, 3) := by decide +kernel
theorem dX11_begins_168 : decode cX11_begins 168 = .ok (.goto (-32), 3) := by decide +kernel
theorem dX11_begins_171 : decode cX11_begins 171 = .ok (.iinc 1 1, 3) := by decide +kernel
theorem dX11_begins_174 : decode cX11_begins 174 = .ok (.goto (-150), 3) := by decide +kernel
theorem dX11_begins_177 : decode cX11_begins 177 = .ok (.iconst 0, 1) := by decide +kernel
theorem dX11_begins_178 : decode cX11_begins 178 = .ok (.istore_n 1, 1) := by decide +kernel
theorem dX11_begins_179 : decode cX11_begins 179 = .ok (.iload_n 1, 1) := by decide +kernel
theorem dX11_begins_180 : decode cX11_begins 180 = .ok (.aload_n 0, 1) := by decide +kernel
theorem dX11_begins_181 : decode cX11_begins 181 = .ok (.getfield 209, 3) := by decide +kernel
theorem dX11_begins_184 : decode cX11_begins 184 = .ok (.if_icmp .ge 48, 3) := by decide +kernel
theorem dX11_begins_187 : decode cX11_begins 187 = .ok (.aload_n 0, 1) := by decide +kernel
theorem dX11_begins_188 : decode cX11_begins 188 = .ok (.getfield 69, 3) := by decide +kernel
theorem dX11_begins_191 : decode cX11_begins 191 = .ok (.iload_n 1, 1) := by decide +kernel
theorem dX11_begins_192 : decode cX11_begins 192 = .ok (.invokestatic 377, 3) := by decide +kernel
theorem dX11_begins_195 : decode cX11_begins 195 = .ok (.aload_n 0, 1) := by decide +kernel
theorem dX11_begins_196 : decode cX11_begins 196 = .ok (.iload_n 1, 1) := by decide +kernel
theorem dX11_begins_197 : decode cX11_begins 197 = .ok (.iconst 2, 1) := by decide +kernel
theorem dX11_begins_198 : decode cX11_begins 198 = .ok (.invokevirtual 366, 3) := by decide +kernel
theorem dX11_begins_201 : decode cX11_begins 201 = .ok (.ifCond .ge 7, 3) := by decide +kernel
theorem dX11_begins_204 : decode cX11_begins 204 = .ok (.iconst 0, 1) := by decide +kernel
theorem dX11_begins_205 : decode cX11_begins 205 = .ok (.goto 8, 3) := by decide +kernel
theorem dX11_begins_208 : decode cX11_begins 208 = .ok (.aload_n 0, 1) := by decide +kernel
theorem dX11_begins_209 : decode cX11_begins 209 = .ok (.iload_n 1, 1) := by decide +kernel
theorem dX11_begins_210 : decode cX11_begins 210 = .ok (.invokevirtual 380, 3) := by decide +kernel
theorem dX11_begins_213 : decode cX11_begins 213 = .ok (.iastore, 1) := by decide +kernel
theorem dX11_begins_214 : decode cX11_begins 214 = .ok (.aload_n 0, 1) := by decide +kernel
theorem dX11_begins_215 : decode cX11_begins 215 = .ok (.getfield 69, 3) := by decide +kernel
theorem dX11_begins_218 : decode cX11_begins 218 = .ok (.iload_n 1, 1) := by decide +kernel
theorem dX11_begins_219 : decode cX11_begins 219 = .ok (.invokestatic 377, 3) := by decide +kernel
theorem dX11_begins_222 : decode cX11_begins 222 = .ok (.iconst 2, 1) := by decide +kernel
theorem dX11_begins_223 : decode cX11_begins 223 = .ok (.iadd, 1) := by decide +kernel
theorem dX11_begins_224 : decode cX11_begins 224 = .ok (.iconst (-1), 1) := by decide +kernel
theorem dX11_begins_225 : decode cX11_begins 225 = .ok (.iastore, 1) := by decide +kernel
theorem dX11_begins_226 : decode cX11_begins 226 = .ok (.iinc 1 1, 3) := by decide +kernel
theorem dX11_begins_229 : decode cX11_begins 229 = .ok (.goto (-50), 3) := by decide +kernel
theorem dX11_begins_232 : decode cX11_begins 232 = .ok (.iconst 0, 1) := by decide +kernel
theorem dX11_begins_233 : decode cX11_begins 233 = .ok (.istore_n 1, 1) := by decide +kernel
theorem dX11_begins_234 : decode cX11_begins 234 = .ok (.iload_n 1, 1) := by decide +kernel
theorem dX11_begins_235 : decode cX11_begins 235 = .ok (.iconst 5, 1) := by decide +kernel
theorem dX11_begins_236 : decode cX11_begins 236 = .ok (.if_icmp .ge 25, 3) := by decide +kernel
theorem dX11_begins_239 : decode cX11_begins 239 = .ok (.aload_n 0, 1) := by decide +kernel
theorem dX11_begins_240 : decode cX11_begins 240 = .ok (.getfield 69, 3) := by decide +kernel
theorem dX11_begins_243 : decode cX11_begins 243 = .ok (.sipush 360, 3) := by decide +kernel
theorem dX11_begins_246 : decode cX11_begins 246 = .ok (.iload_n 1, 1) := by decide +kernel
theorem dX11_begins_247 : decode cX11_begins 247 = .ok (.iadd, 1) := by decide +kernel
theorem dX11_begins_248 : decode cX11_begins 248 = .ok (.aload_n 0, 1) := by decide +kernel
theorem dX11_begins_249 : decode cX11_begins 249 = .ok (.getfield 81, 3) := by decide +kernel
theorem dX11_begins_252 : decode cX11_begins 252 = .ok (.iload_n 1, 1) := by decide +kernel
theorem dX11_begins_253 : decode cX11_begins 253 = .ok (.iaload, 1) := by decide +kernel
theorem dX11_begins_254 : decode cX11_begins 254 = .ok (.iastore, 1) := by decide +kernel
theorem dX11_begins_255 : decode cX11_begins 255 = .ok (.iinc 1 1, 3) := by decide +kernel
theorem dX11_begins_258 : decode cX11_begins 258 = .ok (.goto (-24), 3) := by decide +kernel
theorem dX11_begins_261 : decode cX11_begins 261 = .ok (.return_, 1) := by decide +kernel
set_option maxRecDepth 10000 in
theorem vX11_begins_0 {κ : eg_K} {d : Nat} {post : eg_H → Prop} (M : eg_H)  (h : eg_W κ gM mtX11_begins d (eQV κ gM post) 2 [(0, vR (60, 0)), (1, vI (0 : Int32))] [] M) : eg_W κ gM mtX11_begins d (eQV κ gM post) 0 [(0, vR (60, 0))] [] M := by
  refine eg_iconst dX11_begins_0 ic_0 ?_
  refine eg_istore_n dX11_begins_1 rfl (by decide) (ls1 := [(1, vI (0 : Int32)), (0, vR (60, 0))]) rfl ?_
  refine eg_sub [1, 0] rfl ?_
  exact h
set_option maxRecDepth 10000 in
theorem vX11_begins_2 {κ : eg_K} {d : Nat} {post : eg_H → Prop} (M : eg_H) (l1 : Int32) (h : ((366 : Int32) ≤ l1 → eg_W κ gM mtX11_begins d (eQV κ gM post) 24 [(0, vR (60, 0)), (1, vI (0 : Int32))] [] M) ∧ ((¬ (366 : Int32) ≤ l1) → (vp_in l1 366 ∧ (∀ M3 : eg_H, M3 = (sI M (110, 0) l1.toNatClampNeg (0 : Int32)) → (∀ x4 : Int32, x4 = (l1 + (1 : Int32)) → eg_W κ gM mtX11_begins d (eQV κ gM post) 2 [(0, vR (60, 0)), (1, vI x4)] [] M3))))) : eg_W κ gM mtX11_begins d (eQV κ gM post) 2 [(0, vR (60, 0)), (1, vI l1)] [] M := by
  refine eg_iload_n 1 dX11_begins_2 rfl rfl ?_
  refine eg_sipush dX11_begins_3 sp_366 ?_
  refine eg_icmp_ge (tgt := 22) dX11_begins_6 rfl (fun c1 => ?_) (fun c1 => ?_)
  · have h := h.1 c1
    refine eg_iconst dX11_begins_22 ic_0 ?_
    refine eg_istore_n dX11_begins_23 rfl (by decide) (ls1 := [(1, vI (0 : Int32)), (0, vR (60, 0))]) rfl ?_
    refine eg_sub [1, 0] rfl ?_
    exact h
  · have h := h.2 c1
    refine eg_aload_n 0 dX11_begins_9 rfl rfl ?_
    refine eg_getR dX11_begins_10 fl_11_69 rfl rfl (obM_60 z1) ?_
    show eg_W κ gM mtX11_begins d (eQV κ gM post) 13 [(0, vR (60, 0)), (1, vI l1)] [vR (110, 0)] M
    refine eg_iload_n 1 dX11_begins_13 rfl rfl ?_
    refine eg_iconst dX11_begins_14 ic_0 ?_
    obtain ⟨g2, h⟩ := h
    refine en_iastore dX11_begins_15 (arM_110 z1 g2) (fun M3 eM3 => ?_)
    have h := h M3 eM3
    refine en_iinc (f := fun x4 => [(1, vI x4), (0, vR (60, 0))]) 1 dX11_begins_16 rfl rfl (by decide) rfl (fun x4 ex4 => ?_)
    have h := h x4 ex4
    refine eg_goto (tgt := 2) dX11_begins_19 rfl ?_
    refine eg_sub [1, 0] rfl ?_
    exact h
set_option maxRecDepth 10000 in
theorem vX11_begins_24 {κ : eg_K} {d : Nat} (hd : 1 ≤ d) {post : eg_H → Prop} (M : eg_H) (l1 : Int32) (h : eCI κ gM mtX11_everybody d [vR (60, 0)] M (fun x1 M2 => (x1 ≤ l1 → eg_W κ gM mtX11_begins d (eQV κ gM post) 179 [(0, vR (60, 0)), (1, vI (0 : Int32))] [] M2) ∧ ((¬ x1 ≤ l1) → eCI κ gM mtX11_at d [vI l1] M2 (fun x5 M6 => (vp_in l1 24 ∧ (vp_in l1 15 ∧ (∀ x10 : Int32, x10 = ((M6.1 (91, 0) l1.toNatClampNeg) + (M6.1 (125, 0) l1.toNatClampNeg)) → (∀ x11 : Int32, x11 = ((if (¬ l1 = (M6.1 (60, 0) 52)) then (0 : Int32) else (3 : Int32))) → (vp_in x5 366 ∧ (∀ M13 : eg_H, M13 = (sI M6 (110, 0) x5.toNatClampNeg x11) → (vp_in (x5 + (1 : Int32)) 366 ∧ (∀ M15 : eg_H, M15 = (sI M13 (110, 0) (x5 + (1 : Int32)).toNatClampNeg (-1 : Int32)) → eCI κ gM mtX11_sizeOf d [vR (60, 0), vI l1] M15 (fun x16 M17 => (vp_in (x5 + (2 : Int32)) 366 ∧ (∀ M20 : eg_H, M20 = (sI M17 (110, 0) (x5 + (2 : Int32)).toNatClampNeg x16) → (∀ x21 : Int32, x21 = ((if x10 ≤ (3599 : Int32) then x10 else (3599 : Int32))) → (vp_in (x5 + (11 : Int32)) 366 ∧ (∀ M23 : eg_H, M23 = (sI M20 (110, 0) (x5 + (11 : Int32)).toNatClampNeg x21) → (vp_in (x5 + (12 : Int32)) 366 ∧ (∀ M25 : eg_H, M25 = (sI M23 (110, 0) (x5 + (12 : Int32)).toNatClampNeg (M23.1 (110, 0) (x5 + (11 : Int32)).toNatClampNeg)) → eg_W κ gM mtX11_begins d (eQV κ gM post) 136 [(0, vR (60, 0)), (1, vI l1), (2, vI x5), (4, vI (0 : Int32))] [] M25)))))))))))))))))))) : eg_W κ gM mtX11_begins d (eQV κ gM post) 24 [(0, vR (60, 0)), (1, vI l1)] [] M := by
  refine eg_iload_n 1 dX11_begins_24 rfl rfl ?_
  refine eg_aload_n 0 dX11_begins_25 rfl rfl ?_
  obtain ⟨q3, hq3, h⟩ := h
  refine eg_callVI (av := []) (st := [vI l1]) dX11_begins_26 ml_11_369 rfl rfl (obM_60 z1) (by decide) rfl (Nat.le_of_ble_eq_true rfl) (eg_dd hd) hq3 (fun x1 M2 hp => ?_)
  have h := h x1 M2 hp
  refine eg_icmp_ge (tgt := 177) dX11_begins_29 rfl (fun c4 => ?_) (fun c4 => ?_)
  · have h := h.1 c4
    refine eg_iconst dX11_begins_177 ic_0 ?_
    refine eg_istore_n dX11_begins_178 rfl (by decide) (ls1 := [(1, vI (0 : Int32)), (0, vR (60, 0))]) rfl ?_
    refine eg_sub [1, 0] rfl ?_
    exact h
  · have h := h.2 c4
    refine eg_iload_n 1 dX11_begins_32 rfl rfl ?_
    obtain ⟨q7, hq7, h⟩ := h
    refine eg_callSI (av := [vI l1]) (st := []) dX11_begins_33 ml_11_372 rfl rfl (Nat.le_of_ble_eq_true rfl) (eg_dd hd) hq7 (fun x5 M6 hp => ?_)
    have h := h x5 M6 hp
    refine eg_istore_n dX11_begins_36 rfl (by decide) (ls1 := [(2, vI x5), (0, vR (60, 0)), (1, vI l1)]) rfl ?_
    refine eg_aload_n 1 dX11_begins_37 rfl rfl ?_
    refine eg_getR dX11_begins_38 fl_11_29 rfl rfl (obM_60 z1) ?_
    show eg_W κ gM mtX11_begins d (eQV κ gM post) 41 [(2, vI x5), (0, vR (60, 0)), (1, vI l1)] [vR (91, 0)] M6
    refine eg_iload_n 2 dX11_begins_41 rfl rfl ?_
    obtain ⟨g8, h⟩ := h
    refine eg_iaload dX11_begins_42 (arM_91 z1 g8) ?_
    refine eg_aload_n 1 dX11_begins_43 rfl rfl ?_
    refine eg_getR dX11_begins_44 fl_11_78 rfl rfl (obM_60 z1) ?_
    show eg_W κ gM mtX11_begins d (eQV κ gM post) 47 [(2, vI x5), (0, vR (60, 0)), (1, vI l1)] [vR (125, 0), vI (M6.1 (91, 0) l1.toNatClampNeg)] M6
    refine eg_iload_n 2 dX11_begins_47 rfl rfl ?_
    obtain ⟨g9, h⟩ := h
    refine eg_iaload dX11_begins_48 (arM_125 z1 g9) ?_
    refine eg_iadd dX11_begins_49 ?_
    refine en_istore_n (f := fun x10 => [(3, vI x10), (2, vI x5), (0, vR (60, 0)), (1, vI l1)]) dX11_begins_50 rfl (by decide) rfl (fun x10 ex10 => ?_)
    have h := h x10 ex10
    refine eg_aload_n 2 dX11_begins_51 rfl rfl ?_
    refine eg_getR dX11_begins_52 fl_11_69 rfl rfl (obM_60 z1) ?_
    show eg_W κ gM mtX11_begins d (eQV κ gM post) 55 [(3, vI x10), (2, vI x5), (0, vR (60, 0)), (1, vI l1)] [vR (110, 0)] M6
    refine eg_iload_n 1 dX11_begins_55 rfl rfl ?_
    refine eg_iload_n 3 dX11_begins_56 rfl rfl ?_
    refine eg_aload_n 2 dX11_begins_57 rfl rfl ?_
    refine eg_getI dX11_begins_58 fl_11_339 rfl trivial (obM_60 z1) ?_
    have J : ∀ x11 : Int32, x11 = (if (¬ l1 = (M6.1 (60, 0) 52)) then (0 : Int32) else (3 : Int32)) → eg_W κ gM mtX11_begins d (eQV κ gM post) 69 [(3, vI x10), (2, vI x5), (0, vR (60, 0)), (1, vI l1)] [vI x11, vI x5, vR (110, 0)] M6 := by
      intro x11 ex11
      have h := h x11 ex11
      obtain ⟨g12, h⟩ := h
      refine en_iastore dX11_begins_69 (arM_110 z1 g12) (fun M13 eM13 => ?_)
      have h := h M13 eM13
      refine eg_aload_n 2 dX11_begins_70 rfl rfl ?_
      refine eg_getR dX11_begins_71 fl_11_69 rfl rfl (obM_60 z1) ?_
      show eg_W κ gM mtX11_begins d (eQV κ gM post) 74 [(3, vI x10), (2, vI x5), (0, vR (60, 0)), (1, vI l1)] [vR (110, 0)] M13
      refine eg_iload_n 1 dX11_begins_74 rfl rfl ?_
      refine eg_iconst dX11_begins_75 ic_1 ?_
      refine eg_iadd dX11_begins_76 ?_
      refine eg_iconst dX11_begins_77 ic_m1 ?_
      obtain ⟨g14, h⟩ := h
      refine en_iastore dX11_begins_78 (arM_110 z1 g14) (fun M15 eM15 => ?_)
      have h := h M15 eM15
      refine eg_aload_n 2 dX11_begins_79 rfl rfl ?_
      refine eg_getR dX11_begins_80 fl_11_69 rfl rfl (obM_60 z1) ?_
      show eg_W κ gM mtX11_begins d (eQV κ gM post) 83 [(3, vI x10), (2, vI x5), (0, vR (60, 0)), (1, vI l1)] [vR (110, 0)] M15
      refine eg_iload_n 1 dX11_begins_83 rfl rfl ?_
      refine eg_iconst dX11_begins_84 ic_2 ?_
      refine eg_iadd dX11_begins_85 ?_
      refine eg_aload_n 2 dX11_begins_86 rfl rfl ?_
      refine eg_iload_n 3 dX11_begins_87 rfl rfl ?_
      obtain ⟨q18, hq18, h⟩ := h
      refine eg_callVI (av := [vI l1]) (st := [vI (x5 + (2 : Int32)), vR (110, 0)]) dX11_begins_88 ml_11_374 rfl rfl (obM_60 z1) (by decide) rfl (Nat.le_of_ble_eq_true rfl) (eg_dd hd) hq18 (fun x16 M17 hp => ?_)
      have h := h x16 M17 hp
      obtain ⟨g19, h⟩ := h
      refine en_iastore dX11_begins_91 (arM_110 z1 g19) (fun M20 eM20 => ?_)
      have h := h M20 eM20
      refine eg_aload_n 2 dX11_begins_92 rfl rfl ?_
      refine eg_getR dX11_begins_93 fl_11_69 rfl rfl (obM_60 z1) ?_
      show eg_W κ gM mtX11_begins d (eQV κ gM post) 96 [(3, vI x10), (2, vI x5), (0, vR (60, 0)), (1, vI l1)] [vR (110, 0)] M20
      refine eg_iload_n 1 dX11_begins_96 rfl rfl ?_
      refine eg_bipush dX11_begins_97 bp_11 ?_
      refine eg_iadd dX11_begins_99 ?_
      refine eg_iload_n 0 dX11_begins_100 rfl rfl ?_
      refine eg_sipush dX11_begins_101 sp_3599 ?_
      have J : ∀ x21 : Int32, x21 = (if x10 ≤ (3599 : Int32) then x10 else (3599 : Int32)) → eg_W κ gM mtX11_begins d (eQV κ gM post) 114 [(3, vI x10), (2, vI x5), (0, vR (60, 0)), (1, vI l1)] [vI x21, vI (x5 + (11 : Int32)), vR (110, 0)] M20 := by
        intro x21 ex21
        have h := h x21 ex21
        obtain ⟨g22, h⟩ := h
        refine en_iastore dX11_begins_114 (arM_110 z1 g22) (fun M23 eM23 => ?_)
        have h := h M23 eM23
        refine eg_aload_n 2 dX11_begins_115 rfl rfl ?_
        refine eg_getR dX11_begins_116 fl_11_69 rfl rfl (obM_60 z1) ?_
        show eg_W κ gM mtX11_begins d (eQV κ gM post) 119 [(3, vI x10), (2, vI x5), (0, vR (60, 0)), (1, vI l1)] [vR (110, 0)] M23
        refine eg_iload_n 1 dX11_begins_119 rfl rfl ?_
        refine eg_bipush dX11_begins_120 bp_12 ?_
        refine eg_iadd dX11_begins_122 ?_
        refine eg_aload_n 2 dX11_begins_123 rfl rfl ?_
        refine eg_getR dX11_begins_124 fl_11_69 rfl rfl (obM_60 z1) ?_
        show eg_W κ gM mtX11_begins d (eQV κ gM post) 127 [(3, vI x10), (2, vI x5), (0, vR (60, 0)), (1, vI l1)] [vR (110, 0), vI (x5 + (12 : Int32)), vR (110, 0)] M23
        refine eg_iload_n 1 dX11_begins_127 rfl rfl ?_
        refine eg_bipush dX11_begins_128 bp_11 ?_
        refine eg_iadd dX11_begins_130 ?_
        refine eg_iaload dX11_begins_131 (arM_110 z1 g22) ?_
        obtain ⟨g24, h⟩ := h
        refine en_iastore dX11_begins_132 (arM_110 z1 g24) (fun M25 eM25 => ?_)
        have h := h M25 eM25
        refine eg_iconst dX11_begins_133 ic_0 ?_
        refine eg_istore dX11_begins_134 (by decide) (ls1 := [(4, vI (0 : Int32)), (3, vI x10), (2, vI x5), (0, vR (60, 0)), (1, vI l1)]) rfl ?_
        refine eg_sub [3, 4, 2, 0] rfl ?_
        exact h
      clear h
      refine eg_icmp_le (tgt := 113) dX11_begins_104 rfl (fun c26 => ?_) (fun c26 => ?_)
      · refine eg_iload_n 0 dX11_begins_113 rfl rfl ?_
        exact J _ (by rw [if_pos c26])
      · refine eg_sipush dX11_begins_107 sp_3599 ?_
        refine eg_goto (tgt := 114) dX11_begins_110 rfl ?_
        exact J _ (by rw [if_neg c26])
    clear h
    refine eg_icmp_ne (tgt := 68) dX11_begins_61 rfl (fun c27 => ?_) (fun c27 => ?_)
    · refine eg_iconst dX11_begins_68 ic_0 ?_
      exact J _ (by rw [if_pos c27])
    · have c28 : ¬ (¬ l1 = (M6.1 (60, 0) 52)) := fun z => z c27
      refine eg_iconst dX11_begins_64 ic_3 ?_
      refine eg_goto (tgt := 69) dX11_begins_65 rfl ?_
      exact J _ (by rw [if_neg c28])
set_option maxRecDepth 10000 in
theorem vX11_begins_136 {κ : eg_K} {d : Nat} {post : eg_H → Prop} (M : eg_H) (l1 : Int32) (l2 : Int32) (l4 : Int32) (h : ((5 : Int32) ≤ l4 → (∀ x2 : Int32, x2 = (l1 + (1 : Int32)) → eg_W κ gM mtX11_begins d (eQV κ gM post) 24 [(0, vR (60, 0)), (1, vI x2)] [] M)) ∧ ((¬ (5 : Int32) ≤ l4) → (vp_in (((5 : Int32) * l1) + l4) 120 ∧ (vp_in ((l2 + (14 : Int32)) + l4) 366 ∧ (∀ M5 : eg_H, M5 = (sI M (110, 0) ((l2 + (14 : Int32)) + l4).toNatClampNeg (M.1 (93, 0) (((5 : Int32) * l1) + l4).toNatClampNeg)) → (∀ x6 : Int32, x6 = (l4 + (1 : Int32)) → eg_W κ gM mtX11_begins d (eQV κ gM post) 136 [(0, vR (60, 0)), (1, vI l1), (2, vI l2), (4, vI x6)] [] M5)))))) : eg_W κ gM mtX11_begins d (eQV κ gM post) 136 [(0, vR (60, 0)), (1, vI l1), (2, vI l2), (4, vI l4)] [] M := by
  refine eg_iload 3 dX11_begins_136 rfl ?_
  refine eg_iconst dX11_begins_138 ic_5 ?_
  refine eg_icmp_ge (tgt := 171) dX11_begins_139 rfl (fun c1 => ?_) (fun c1 => ?_)
  · have h := h.1 c1
    refine en_iinc (f := fun x2 => [(1, vI x2), (0, vR (60, 0)), (2, vI l2), (4, vI l4)]) 1 dX11_begins_171 rfl rfl (by decide) rfl (fun x2 ex2 => ?_)
    have h := h x2 ex2
    refine eg_goto (tgt := 24) dX11_begins_174 rfl ?_
    refine eg_sub [1, 0] rfl ?_
    exact h
  · have h := h.2 c1
    refine eg_aload_n 0 dX11_begins_142 rfl rfl ?_
    refine eg_getR dX11_begins_143 fl_11_69 rfl rfl (obM_60 z1) ?_
    show eg_W κ gM mtX11_begins d (eQV κ gM post) 146 [(0, vR (60, 0)), (1, vI l1), (2, vI l2), (4, vI l4)] [vR (110, 0)] M
    refine eg_iload_n 2 dX11_begins_146 rfl rfl ?_
    refine eg_bipush dX11_begins_147 bp_14 ?_
    refine eg_iadd dX11_begins_149 ?_
    refine eg_iload 3 dX11_begins_150 rfl ?_
    refine eg_iadd dX11_begins_152 ?_
    refine eg_aload_n 0 dX11_begins_153 rfl rfl ?_
    refine eg_getR dX11_begins_154 fl_11_35 rfl rfl (obM_60 z1) ?_
    show eg_W κ gM mtX11_begins d (eQV κ gM post) 157 [(0, vR (60, 0)), (1, vI l1), (2, vI l2), (4, vI l4)] [vR (93, 0), vI ((l2 + (14 : Int32)) + l4), vR (110, 0)] M
    refine eg_iconst dX11_begins_157 ic_5 ?_
    refine eg_iload_n 1 dX11_begins_158 rfl rfl ?_
    refine eg_imul dX11_begins_159 ?_
    refine eg_iload 3 dX11_begins_160 rfl ?_
    refine eg_iadd dX11_begins_162 ?_
    obtain ⟨g3, h⟩ := h
    refine eg_iaload dX11_begins_163 (arM_93 z1 g3) ?_
    obtain ⟨g4, h⟩ := h
    refine en_iastore dX11_begins_164 (arM_110 z1 g4) (fun M5 eM5 => ?_)
    have h := h M5 eM5
    refine en_iinc (f := fun x6 => [(4, vI x6), (0, vR (60, 0)), (1, vI l1), (2, vI l2)]) 3 dX11_begins_165 rfl rfl (by decide) rfl (fun x6 ex6 => ?_)
    have h := h x6 ex6
    refine eg_goto (tgt := 136) dX11_begins_168 rfl ?_
    refine eg_sub [1, 2, 3, 0] rfl ?_
    exact h
set_option maxRecDepth 10000 in
theorem vX11_begins_179 {κ : eg_K} {d : Nat} (hd : 1 ≤ d) {post : eg_H → Prop} (M : eg_H) (l1 : Int32) (h : ((M.1 (60, 0) 12) ≤ l1 → eg_W κ gM mtX11_begins d (eQV κ gM post) 234 [(0, vR (60, 0)), (1, vI (0 : Int32))] [] M) ∧ ((¬ (M.1 (60, 0) 12) ≤ l1) → eCI κ gM mtX11_pan d [vI l1] M (fun x2 M3 => eCI κ gM mtX11_has d [vR (60, 0), vI l1, vI (2 : Int32)] M3 (fun x5 M6 => (0 ≤ x5 → eCI κ gM mtX11_portionsOf d [vR (60, 0), vI l1] M6 (fun x9 M10 => eg_W κ gM mtX11_begins d (eQV κ gM post) 213 [(0, vR (60, 0)), (1, vI l1)] [vI x9, vI x2, vR (110, 0)] M10)) ∧ ((¬ 0 ≤ x5) → eg_W κ gM mtX11_begins d (eQV κ gM post) 213 [(0, vR (60, 0)), (1, vI l1)] [vI (0 : Int32), vI x2, vR (110, 0)] M6))))) : eg_W κ gM mtX11_begins d (eQV κ gM post) 179 [(0, vR (60, 0)), (1, vI l1)] [] M := by
  refine eg_iload_n 1 dX11_begins_179 rfl rfl ?_
  refine eg_aload_n 0 dX11_begins_180 rfl rfl ?_
  refine eg_getI dX11_begins_181 fl_11_209 rfl trivial (obM_60 z1) ?_
  refine eg_icmp_ge (tgt := 232) dX11_begins_184 rfl (fun c1 => ?_) (fun c1 => ?_)
  · have h := h.1 c1
    refine eg_iconst dX11_begins_232 ic_0 ?_
    refine eg_istore_n dX11_begins_233 rfl (by decide) (ls1 := [(1, vI (0 : Int32)), (0, vR (60, 0))]) rfl ?_
    refine eg_sub [1, 0] rfl ?_
    exact h
  · have h := h.2 c1
    refine eg_aload_n 0 dX11_begins_187 rfl rfl ?_
    refine eg_getR dX11_begins_188 fl_11_69 rfl rfl (obM_60 z1) ?_
    show eg_W κ gM mtX11_begins d (eQV κ gM post) 191 [(0, vR (60, 0)), (1, vI l1)] [vR (110, 0)] M
    refine eg_iload_n 1 dX11_begins_191 rfl rfl ?_
    obtain ⟨q4, hq4, h⟩ := h
    refine eg_callSI (av := [vI l1]) (st := [vR (110, 0)]) dX11_begins_192 ml_11_377 rfl rfl (Nat.le_of_ble_eq_true rfl) (eg_dd hd) hq4 (fun x2 M3 hp => ?_)
    have h := h x2 M3 hp
    refine eg_aload_n 0 dX11_begins_195 rfl rfl ?_
    refine eg_iload_n 1 dX11_begins_196 rfl rfl ?_
    refine eg_iconst dX11_begins_197 ic_2 ?_
    obtain ⟨q7, hq7, h⟩ := h
    refine eg_callVI (av := [vI l1, vI (2 : Int32)]) (st := [vI x2, vR (110, 0)]) dX11_begins_198 ml_11_366 rfl rfl (obM_60 z1) (by decide) rfl (Nat.le_of_ble_eq_true rfl) (eg_dd hd) hq7 (fun x5 M6 hp => ?_)
    have h := h x5 M6 hp
    refine eg_if_ge (tgt := 208) dX11_begins_201 rfl (fun c8 => ?_) (fun c8 => ?_)
    · have h := h.1 c8
      refine eg_aload_n 0 dX11_begins_208 rfl rfl ?_
      refine eg_iload_n 1 dX11_begins_209 rfl rfl ?_
      obtain ⟨q11, hq11, h⟩ := h
      refine eg_callVI (av := [vI l1]) (st := [vI x2, vR (110, 0)]) dX11_begins_210 ml_11_380 rfl rfl (obM_60 z1) (by decide) rfl (Nat.le_of_ble_eq_true rfl) (eg_dd hd) hq11 (fun x9 M10 hp => ?_)
      have h := h x9 M10 hp
      exact h
    · have h := h.2 c8
      refine eg_iconst dX11_begins_204 ic_0 ?_
      refine eg_goto (tgt := 213) dX11_begins_205 rfl ?_
      exact h
set_option maxRecDepth 10000 in
theorem vX11_begins_213 {κ : eg_K} {d : Nat} (hd : 1 ≤ d) {post : eg_H → Prop} (M : eg_H) (l1 : Int32) (s0 : Int32) (s1 : Int32) (h : (vp_in s1 366 ∧ (∀ M2 : eg_H, M2 = (sI M (110, 0) s1.toNatClampNeg s0) → eCI κ gM mtX11_pan d [vI l1] M2 (fun x3 M4 => (vp_in (x3 + (2 : Int32)) 366 ∧ (∀ M7 : eg_H, M7 = (sI M4 (110, 0) (x3 + (2 : Int32)).toNatClampNeg (-1 : Int32)) → (∀ x8 : Int32, x8 = (l1 + (1 : Int32)) → eg_W κ gM mtX11_begins d (eQV κ gM post) 179 [(0, vR (60, 0)), (1, vI x8)] [] M7))))))) : eg_W κ gM mtX11_begins d (eQV κ gM post) 213 [(0, vR (60, 0)), (1, vI l1)] [vI s0, vI s1, vR (110, 0)] M := by
  obtain ⟨g1, h⟩ := h
  refine en_iastore dX11_begins_213 (arM_110 z1 g1) (fun M2 eM2 => ?_)
  have h := h M2 eM2
  refine eg_aload_n 0 dX11_begins_214 rfl rfl ?_
  refine eg_getR dX11_begins_215 fl_11_69 rfl rfl (obM_60 z1) ?_
  show eg_W κ gM mtX11_begins d (eQV κ gM post) 218 [(0, vR (60, 0)), (1, vI l1)] [vR (110, 0)] M2
  refine eg_iload_n 1 dX11_begins_218 rfl rfl ?_
  obtain ⟨q5, hq5, h⟩ := h
  refine eg_callSI (av := [vI l1]) (st := [vR (110, 0)]) dX11_begins_219 ml_11_377 rfl rfl (Nat.le_of_ble_eq_true rfl) (eg_dd hd) hq5 (fun x3 M4 hp => ?_)
  have h := h x3 M4 hp
  refine eg_iconst dX11_begins_222 ic_2 ?_
  refine eg_iadd dX11_begins_223 ?_
  refine eg_iconst dX11_begins_224 ic_m1 ?_
  obtain ⟨g6, h⟩ := h
  refine en_iastore dX11_begins_225 (arM_110 z1 g6) (fun M7 eM7 => ?_)
  have h := h M7 eM7
  refine en_iinc (f := fun x8 => [(1, vI x8), (0, vR (60, 0))]) 1 dX11_begins_226 rfl rfl (by decide) rfl (fun x8 ex8 => ?_)
  have h := h x8 ex8
  refine eg_goto (tgt := 179) dX11_begins_229 rfl ?_
  refine eg_sub [1, 0] rfl ?_
  exact h
set_option maxRecDepth 10000 in
theorem vX11_begins_234 {κ : eg_K} {d : Nat} {post : eg_H → Prop} (M : eg_H) (l1 : Int32) (h : ((5 : Int32) ≤ l1 → post M) ∧ ((¬ (5 : Int32) ≤ l1) → (vp_in l1 5 ∧ (vp_in ((360 : Int32) + l1) 366 ∧ (∀ M4 : eg_H, M4 = (sI M (110, 0) ((360 : Int32) + l1).toNatClampNeg (M.1 (126, 0) l1.toNatClampNeg)) → (∀ x5 : Int32, x5 = (l1 + (1 : Int32)) → eg_W κ gM mtX11_begins d (eQV κ gM post) 234 [(0, vR (60, 0)), (1, vI x5)] [] M4)))))) : eg_W κ gM mtX11_begins d (eQV κ gM post) 234 [(0, vR (60, 0)), (1, vI l1)] [] M := by
  refine eg_iload_n 1 dX11_begins_234 rfl rfl ?_
  refine eg_iconst dX11_begins_235 ic_5 ?_
  refine eg_icmp_ge (tgt := 261) dX11_begins_236 rfl (fun c1 => ?_) (fun c1 => ?_)
  · have h := h.1 c1
    exact eg_vreturn dX11_begins_261 rfl h
  · have h := h.2 c1
    refine eg_aload_n 0 dX11_begins_239 rfl rfl ?_
    refine eg_getR dX11_begins_240 fl_11_69 rfl rfl (obM_60 z1) ?_
    show eg_W κ gM mtX11_begins d (eQV κ gM post) 243 [(0, vR (60, 0)), (1, vI l1)] [vR (110, 0)] M
    refine eg_sipush dX11_begins_243 sp_360 ?_
    refine eg_iload_n 1 dX11_begins_246 rfl rfl ?_
    refine eg_iadd dX11_begins_247 ?_
    refine eg_aload_n 0 dX11_begins_248 rfl rfl ?_
    refine eg_getR dX11_begins_249 fl_11_81 rfl rfl (obM_60 z1) ?_
    show eg_W κ gM mtX11_begins d (eQV κ gM post) 252 [(0, vR (60, 0)), (1, vI l1)] [vR (126, 0), vI ((360 : Int32) + l1), vR (110, 0)] M
    refine eg_iload_n 1 dX11_begins_252 rfl rfl ?_
    obtain ⟨g2, h⟩ := h
    refine eg_iaload dX11_begins_253 (arM_126 z1 g2) ?_
    obtain ⟨g3, h⟩ := h
    refine en_iastore dX11_begins_254 (arM_110 z1 g3) (fun M4 eM4 => ?_)
    have h := h M4 eM4
    refine en_iinc (f := fun x5 => [(1, vI x5), (0, vR (60, 0))]) 1 dX11_begins_255 rfl rfl (by decide) rfl (fun x5 ex5 => ?_)
    have h := h x5 ex5
    refine eg_goto (tgt := 234) dX11_begins_258 rfl ?_
    refine eg_sub [1, 0] rfl ?_
    exact h
theorem dX11_bounded_0 : decode cX11_bounded 0 = .ok (.aload_n 0, 1) := by decide +kernel
theorem dX11_bounded_1 : decode cX11_bounded 1 = .ok (.aload_n 0, 1) := by decide +kernel
theorem dX11_bounded_2 : decode cX11_bounded 2 = .ok (.getfield 383, 3) := by decide +kernel
theorem dX11_bounded_5 : decode cX11_bounded 5 = .ok (.ifCond .ne 19, 3) := by decide +kernel
theorem dX11_bounded_8 : decode cX11_bounded 8 = .ok (.lload_n 1, 1) := by decide +kernel
theorem dX11_bounded_9 : decode cX11_bounded 9 = .ok (.ldc2_w 386, 3) := by decide +kernel
theorem dX11_bounded_12 : decode cX11_bounded 12 = .ok (.lcmp, 1) := by decide +kernel
theorem dX11_bounded_13 : decode cX11_bounded 13 = .ok (.ifCond .gt 11, 3) := by decide +kernel
theorem dX11_bounded_16 : decode cX11_bounded 16 = .ok (.lload_n 1, 1) := by decide +kernel
theorem dX11_bounded_17 : decode cX11_bounded 17 = .ok (.ldc2_w 388, 3) := by decide +kernel
theorem dX11_bounded_20 : decode cX11_bounded 20 = .ok (.lcmp, 1) := by decide +kernel
theorem dX11_bounded_21 : decode cX11_bounded 21 = .ok (.ifCond .ge 7, 3) := by decide +kernel
theorem dX11_bounded_24 : decode cX11_bounded 24 = .ok (.iconst 1, 1) := by decide +kernel
theorem dX11_bounded_25 : decode cX11_bounded 25 = .ok (.goto 4, 3) := by decide +kernel
theorem dX11_bounded_28 : decode cX11_bounded 28 = .ok (.iconst 0, 1) := by decide +kernel
theorem dX11_bounded_29 : decode cX11_bounded 29 = .ok (.putfield 383, 3) := by decide +kernel
theorem dX11_bounded_32 : decode cX11_bounded 32 = .ok (.aload_n 0, 1) := by decide +kernel
theorem dX11_bounded_33 : decode cX11_bounded 33 = .ok (.getfield 383, 3) := by decide +kernel
theorem dX11_bounded_36 : decode cX11_bounded 36 = .ok (.ifCond .eq 7, 3) := by decide +kernel
theorem dX11_bounded_39 : decode cX11_bounded 39 = .ok (.lconst 0, 1) := by decide +kernel
theorem dX11_bounded_40 : decode cX11_bounded 40 = .ok (.goto 4, 3) := by decide +kernel
theorem dX11_bounded_43 : decode cX11_bounded 43 = .ok (.lload_n 1, 1) := by decide +kernel
theorem dX11_bounded_44 : decode cX11_bounded 44 = .ok (.lreturn, 1) := by decide +kernel
set_option maxRecDepth 10000 in
theorem vX11_bounded_0 {κ : eg_K} {d : Nat} {post : Int64 → eg_H → Prop} (M : eg_H) (l1 : Int64) (h : (∀ x1 : Int32, x1 = ((if (¬ (M.1 (60, 0) 68) = 0) then (1 : Int32) else (if 0 < (lg_cmp l1 (1000000000000 : Int64)) then (1 : Int32) else (if 0 ≤ (lg_cmp l1 (-1000000000000 : Int64)) then (0 : Int32) else (1 : Int32))))) → ((x1 = 0 ∨ x1 = 1) ∧ (∀ M2 : eg_H, M2 = (sI M (60, 0) 68 x1) → (∀ x4 : Int64, x4 = ((if (M2.1 (60, 0) 68) = 0 then l1 else (0 : Int64))) → post x4 M2))))) : eg_W κ gM mtX11_bounded d (eQL κ gM post) 0 [(0, vR (60, 0)), (1, vL l1)] [] M := by
  refine eg_aload_n 0 dX11_bounded_0 rfl rfl ?_
  refine eg_aload_n 0 dX11_bounded_1 rfl rfl ?_
  refine eg_getI dX11_bounded_2 fl_11_383 rfl trivial (obM_60 z1) ?_
  have J : ∀ x1 : Int32, x1 = (if (¬ (M.1 (60, 0) 68) = 0) then (1 : Int32) else (if 0 < (lg_cmp l1 (1000000000000 : Int64)) then (1 : Int32) else (if 0 ≤ (lg_cmp l1 (-1000000000000 : Int64)) then (0 : Int32) else (1 : Int32)))) → eg_W κ gM mtX11_bounded d (eQL κ gM post) 29 [(0, vR (60, 0)), (1, vL l1)] [vI x1, vR (60, 0)] M := by
    intro x1 ex1
    have h := h x1 ex1
    obtain ⟨g3, h⟩ := h
    refine en_putZ dX11_bounded_29 fl_11_383 rfl rfl g3 (obM_60 z1) (fun M2 eM2 => ?_)
    have h := h M2 eM2
    refine eg_aload_n 0 dX11_bounded_32 rfl rfl ?_
    refine eg_getI dX11_bounded_33 fl_11_383 rfl trivial (obM_60 z1) ?_
    have J : ∀ x4 : Int64, x4 = (if (M2.1 (60, 0) 68) = 0 then l1 else (0 : Int64)) → eg_W κ gM mtX11_bounded d (eQL κ gM post) 44 [(0, vR (60, 0)), (1, vL l1)] [vL x4] M2 := by
      intro x4 ex4
      have h := h x4 ex4
      exact eg_lreturn dX11_bounded_44 rfl h
    clear h
    refine eg_if_eq (tgt := 43) dX11_bounded_36 rfl (fun c5 => ?_) (fun c5 => ?_)
    · refine eg_lload_n 1 dX11_bounded_43 rfl rfl ?_
      exact J _ (by rw [if_pos c5])
    · refine eg_lconst dX11_bounded_39 lc_0 ?_
      refine eg_goto (tgt := 44) dX11_bounded_40 rfl ?_
      exact J _ (by rw [if_neg c5])
  clear h
  refine eg_if_ne (tgt := 24) dX11_bounded_5 rfl (fun c6 => ?_) (fun c6 => ?_)
  · refine eg_iconst dX11_bounded_24 ic_1 ?_
    refine eg_goto (tgt := 29) dX11_bounded_25 rfl ?_
    exact J _ (by rw [if_pos c6])
  · have c7 : ¬ (¬ (M.1 (60, 0) 68) = 0) := fun z => z c6
    refine eg_lload_n 1 dX11_bounded_8 rfl rfl ?_
    refine eg_ldc2 dX11_bounded_9 kc_11_386 ?_
    refine eg_lcmp dX11_bounded_12 ?_
    refine eg_if_gt (tgt := 24) dX11_bounded_13 rfl (fun c8 => ?_) (fun c8 => ?_)
    · refine eg_iconst dX11_bounded_24 ic_1 ?_
      refine eg_goto (tgt := 29) dX11_bounded_25 rfl ?_
      exact J _ (by rw [if_neg c7, if_pos c8])
    · refine eg_lload_n 1 dX11_bounded_16 rfl rfl ?_
      refine eg_ldc2 dX11_bounded_17 kc_11_388 ?_
      refine eg_lcmp dX11_bounded_20 ?_
      refine eg_if_ge (tgt := 28) dX11_bounded_21 rfl (fun c9 => ?_) (fun c9 => ?_)
      · refine eg_iconst dX11_bounded_28 ic_0 ?_
        exact J _ (by rw [if_neg c7, if_neg c8, if_pos c9])
      · refine eg_iconst dX11_bounded_24 ic_1 ?_
        refine eg_goto (tgt := 29) dX11_bounded_25 rfl ?_
        exact J _ (by rw [if_neg c7, if_neg c8, if_neg c9])
theorem dX11_compares_0 : decode cX11_compares 0 = .ok (.iload_n 0, 1) := by decide +kernel
theorem dX11_compares_1 : decode cX11_compares 1 = .ok (.tableswitch 95 5 9 #[35, 47, 59, 71, 83], 35) := by decide +kernel
theorem dX11_compares_36 : decode cX11_compares 36 = .ok (.lload_n 1, 1) := by decide +kernel
theorem dX11_compares_37 : decode cX11_compares 37 = .ok (.lload_n 3, 1) := by decide +kernel
theorem dX11_compares_38 : decode cX11_compares 38 = .ok (.lcmp, 1) := by decide +kernel
theorem dX11_compares_39 : decode cX11_compares 39 = .ok (.ifCond .ge 7, 3) := by decide +kernel
theorem dX11_compares_42 : decode cX11_compares 42 = .ok (.iconst 1, 1) := by decide +kernel
theorem dX11_compares_43 : decode cX11_compares 43 = .ok (.goto 4, 3) := by decide +kernel
theorem dX11_compares_46 : decode cX11_compares 46 = .ok (.iconst 0, 1) := by decide +kernel
theorem dX11_compares_47 : decode cX11_compares 47 = .ok (.ireturn, 1) := by decide +kernel
theorem dX11_compares_48 : decode cX11_compares 48 = .ok (.lload_n 1, 1) := by decide +kernel
theorem dX11_compares_49 : decode cX11_compares 49 = .ok (.lload_n 3, 1) := by decide +kernel
theorem dX11_compares_50 : decode cX11_compares 50 = .ok (.lcmp, 1) := by decide +kernel
theorem dX11_compares_51 : decode cX11_compares 51 = .ok (.ifCond .gt 7, 3) := by decide +kernel
theorem dX11_compares_54 : decode cX11_compares 54 = .ok (.iconst 1, 1) := by decide +kernel
theorem dX11_compares_55 : decode cX11_compares 55 = .ok (.goto 4, 3) := by decide +kernel
theorem dX11_compares_58 : decode cX11_compares 58 = .ok (.iconst 0, 1) := by decide +kernel
theorem dX11_compares_59 : decode cX11_compares 59 = .ok (.ireturn, 1) := by decide +kernel
theorem dX11_compares_60 : decode cX11_compares 60 = .ok (.lload_n 1, 1) := by decide +kernel
theorem dX11_compares_61 : decode cX11_compares 61 = .ok (.lload_n 3, 1) := by decide +kernel
theorem dX11_compares_62 : decode cX11_compares 62 = .ok (.lcmp, 1) := by decide +kernel
theorem dX11_compares_63 : decode cX11_compares 63 = .ok (.ifCond .ne 7, 3) := by decide +kernel
theorem dX11_compares_66 : decode cX11_compares 66 = .ok (.iconst 1, 1) := by decide +kernel
theorem dX11_compares_67 : decode cX11_compares 67 = .ok (.goto 4, 3) := by decide +kernel
theorem dX11_compares_70 : decode cX11_compares 70 = .ok (.iconst 0, 1) := by decide +kernel
theorem dX11_compares_71 : decode cX11_compares 71 = .ok (.ireturn, 1) := by decide +kernel
theorem dX11_compares_72 : decode cX11_compares 72 = .ok (.lload_n 1, 1) := by decide +kernel
theorem dX11_compares_73 : decode cX11_compares 73 = .ok (.lload_n 3, 1) := by decide +kernel
theorem dX11_compares_74 : decode cX11_compares 74 = .ok (.lcmp, 1) := by decide +kernel
theorem dX11_compares_75 : decode cX11_compares 75 = .ok (.ifCond .eq 7, 3) := by decide +kernel
theorem dX11_compares_78 : decode cX11_compares 78 = .ok (.iconst 1, 1) := by decide +kernel
theorem dX11_compares_79 : decode cX11_compares 79 = .ok (.goto 4, 3) := by decide +kernel
theorem dX11_compares_82 : decode cX11_compares 82 = .ok (.iconst 0, 1) := by decide +kernel
theorem dX11_compares_83 : decode cX11_compares 83 = .ok (.ireturn, 1) := by decide +kernel
theorem dX11_compares_84 : decode cX11_compares 84 = .ok (.lload_n 1, 1) := by decide +kernel
theorem dX11_compares_85 : decode cX11_compares 85 = .ok (.lload_n 3, 1) := by decide +kernel
theorem dX11_compares_86 : decode cX11_compares 86 = .ok (.lcmp, 1) := by decide +kernel
theorem dX11_compares_87 : decode cX11_compares 87 = .ok (.ifCond .lt 7, 3) := by decide +kernel
theorem dX11_compares_90 : decode cX11_compares 90 = .ok (.iconst 1, 1) := by decide +kernel
theorem dX11_compares_91 : decode cX11_compares 91 = .ok (.goto 4, 3) := by decide +kernel
theorem dX11_compares_94 : decode cX11_compares 94 = .ok (.iconst 0, 1) := by decide +kernel
theorem dX11_compares_95 : decode cX11_compares 95 = .ok (.ireturn, 1) := by decide +kernel
theorem dX11_compares_96 : decode cX11_compares 96 = .ok (.lload_n 1, 1) := by decide +kernel
theorem dX11_compares_97 : decode cX11_compares 97 = .ok (.lload_n 3, 1) := by decide +kernel
theorem dX11_compares_98 : decode cX11_compares 98 = .ok (.lcmp, 1) := by decide +kernel
theorem dX11_compares_99 : decode cX11_compares 99 = .ok (.ifCond .le 7, 3) := by decide +kernel
theorem dX11_compares_102 : decode cX11_compares 102 = .ok (.iconst 1, 1) := by decide +kernel
theorem dX11_compares_103 : decode cX11_compares 103 = .ok (.goto 4, 3) := by decide +kernel
theorem dX11_compares_106 : decode cX11_compares 106 = .ok (.iconst 0, 1) := by decide +kernel
theorem dX11_compares_107 : decode cX11_compares 107 = .ok (.ireturn, 1) := by decide +kernel
set_option maxRecDepth 10000 in
theorem vX11_compares_0 {κ : eg_K} {d : Nat} {post : Int32 → eg_H → Prop} (M : eg_H) (l0 : Int32) (l1 : Int64) (l3 : Int64) (h : ((¬ l0 = (5 : Int32)) → (¬ l0 = (6 : Int32)) → (¬ l0 = (7 : Int32)) → (¬ l0 = (8 : Int32)) → (¬ l0 = (9 : Int32)) → (∀ x1 : Int32, x1 = ((if (lg_cmp l1 l3) ≤ 0 then (0 : Int32) else (1 : Int32))) → ((x1 = 0 ∨ x1 = 1) ∧ post x1 M))) ∧ (l0 = (5 : Int32) → (∀ x4 : Int32, x4 = ((if 0 ≤ (lg_cmp l1 l3) then (0 : Int32) else (1 : Int32))) → ((x4 = 0 ∨ x4 = 1) ∧ post x4 M))) ∧ (l0 = (6 : Int32) → (∀ x7 : Int32, x7 = ((if 0 < (lg_cmp l1 l3) then (0 : Int32) else (1 : Int32))) → ((x7 = 0 ∨ x7 = 1) ∧ post x7 M))) ∧ (l0 = (7 : Int32) → (∀ x10 : Int32, x10 = ((if (¬ (lg_cmp l1 l3) = 0) then (0 : Int32) else (1 : Int32))) → ((x10 = 0 ∨ x10 = 1) ∧ post x10 M))) ∧ (l0 = (8 : Int32) → (∀ x14 : Int32, x14 = ((if (lg_cmp l1 l3) = 0 then (0 : Int32) else (1 : Int32))) → ((x14 = 0 ∨ x14 = 1) ∧ post x14 M))) ∧ (l0 = (9 : Int32) → (∀ x17 : Int32, x17 = ((if (lg_cmp l1 l3) < 0 then (0 : Int32) else (1 : Int32))) → ((x17 = 0 ∨ x17 = 1) ∧ post x17 M)))) : eg_W κ gM mtX11_compares d (eQI κ gM post) 0 [(0, vI l0), (1, vL l1), (3, vL l3)] [] M := by
  refine eg_iload_n 0 dX11_compares_0 rfl rfl ?_
  have J : (¬ l0 = (5 : Int32)) → (¬ l0 = (6 : Int32)) → (¬ l0 = (7 : Int32)) → (¬ l0 = (8 : Int32)) → (¬ l0 = (9 : Int32)) → eg_W κ gM mtX11_compares d (eQI κ gM post) 96 [(0, vI l0), (1, vL l1), (3, vL l3)] [] M := by
    intro c0_ c1_ c2_ c3_ c4_
    have h := h.1 c0_ c1_ c2_ c3_ c4_
    refine eg_lload_n 1 dX11_compares_96 rfl rfl ?_
    refine eg_lload_n 2 dX11_compares_97 rfl rfl ?_
    refine eg_lcmp dX11_compares_98 ?_
    have J : ∀ x1 : Int32, x1 = (if (lg_cmp l1 l3) ≤ 0 then (0 : Int32) else (1 : Int32)) → eg_W κ gM mtX11_compares d (eQI κ gM post) 107 [(0, vI l0), (1, vL l1), (3, vL l3)] [vI x1] M := by
      intro x1 ex1
      have h := h x1 ex1
      obtain ⟨g2, h⟩ := h
      exact eg_zreturn dX11_compares_107 rfl g2 h
    clear h
    refine eg_if_le (tgt := 106) dX11_compares_99 rfl (fun c3 => ?_) (fun c3 => ?_)
    · refine eg_iconst dX11_compares_106 ic_0 ?_
      exact J _ (by rw [if_pos c3])
    · refine eg_iconst dX11_compares_102 ic_1 ?_
      refine eg_goto (tgt := 107) dX11_compares_103 rfl ?_
      exact J _ (by rw [if_neg c3])
  by_cases c0_ : l0 = (5 : Int32)
  · refine eg_tabI (tgt := 36) dX11_compares_1 (by rw [c0_]; decide) (by rw [c0_]; decide) (off := 35) (by rw [c0_]; rfl) rfl ?_
    have h := h.2.1 c0_
    refine eg_lload_n 1 dX11_compares_36 rfl rfl ?_
    refine eg_lload_n 2 dX11_compares_37 rfl rfl ?_
    refine eg_lcmp dX11_compares_38 ?_
    have J : ∀ x4 : Int32, x4 = (if 0 ≤ (lg_cmp l1 l3) then (0 : Int32) else (1 : Int32)) → eg_W κ gM mtX11_compares d (eQI κ gM post) 47 [(0, vI l0), (1, vL l1), (3, vL l3)] [vI x4] M := by
      intro x4 ex4
      have h := h x4 ex4
      obtain ⟨g5, h⟩ := h
      exact eg_zreturn dX11_compares_47 rfl g5 h
    clear h
    refine eg_if_ge (tgt := 46) dX11_compares_39 rfl (fun c6 => ?_) (fun c6 => ?_)
    · refine eg_iconst dX11_compares_46 ic_0 ?_
      exact J _ (by rw [if_pos c6])
    · refine eg_iconst dX11_compares_42 ic_1 ?_
      refine eg_goto (tgt := 47) dX11_compares_43 rfl ?_
      exact J _ (by rw [if_neg c6])
  by_cases c1_ : l0 = (6 : Int32)
  · refine eg_tabI (tgt := 48) dX11_compares_1 (by rw [c1_]; decide) (by rw [c1_]; decide) (off := 47) (by rw [c1_]; rfl) rfl ?_
    have h := h.2.2.1 c1_
    refine eg_lload_n 1 dX11_compares_48 rfl rfl ?_
    refine eg_lload_n 2 dX11_compares_49 rfl rfl ?_
    refine eg_lcmp dX11_compares_50 ?_
    have J : ∀ x7 : Int32, x7 = (if 0 < (lg_cmp l1 l3) then (0 : Int32) else (1 : Int32)) → eg_W κ gM mtX11_compares d (eQI κ gM post) 59 [(0, vI l0), (1, vL l1), (3, vL l3)] [vI x7] M := by
      intro x7 ex7
      have h := h x7 ex7
      obtain ⟨g8, h⟩ := h
      exact eg_zreturn dX11_compares_59 rfl g8 h
    clear h
    refine eg_if_gt (tgt := 58) dX11_compares_51 rfl (fun c9 => ?_) (fun c9 => ?_)
    · refine eg_iconst dX11_compares_58 ic_0 ?_
      exact J _ (by rw [if_pos c9])
    · refine eg_iconst dX11_compares_54 ic_1 ?_
      refine eg_goto (tgt := 59) dX11_compares_55 rfl ?_
      exact J _ (by rw [if_neg c9])
  by_cases c2_ : l0 = (7 : Int32)
  · refine eg_tabI (tgt := 60) dX11_compares_1 (by rw [c2_]; decide) (by rw [c2_]; decide) (off := 59) (by rw [c2_]; rfl) rfl ?_
    have h := h.2.2.2.1 c2_
    refine eg_lload_n 1 dX11_compares_60 rfl rfl ?_
    refine eg_lload_n 2 dX11_compares_61 rfl rfl ?_
    refine eg_lcmp dX11_compares_62 ?_
    have J : ∀ x10 : Int32, x10 = (if (¬ (lg_cmp l1 l3) = 0) then (0 : Int32) else (1 : Int32)) → eg_W κ gM mtX11_compares d (eQI κ gM post) 71 [(0, vI l0), (1, vL l1), (3, vL l3)] [vI x10] M := by
      intro x10 ex10
      have h := h x10 ex10
      obtain ⟨g11, h⟩ := h
      exact eg_zreturn dX11_compares_71 rfl g11 h
    clear h
    refine eg_if_ne (tgt := 70) dX11_compares_63 rfl (fun c12 => ?_) (fun c12 => ?_)
    · refine eg_iconst dX11_compares_70 ic_0 ?_
      exact J _ (by rw [if_pos c12])
    · have c13 : ¬ (¬ (lg_cmp l1 l3) = 0) := fun z => z c12
      refine eg_iconst dX11_compares_66 ic_1 ?_
      refine eg_goto (tgt := 71) dX11_compares_67 rfl ?_
      exact J _ (by rw [if_neg c13])
  by_cases c3_ : l0 = (8 : Int32)
  · refine eg_tabI (tgt := 72) dX11_compares_1 (by rw [c3_]; decide) (by rw [c3_]; decide) (off := 71) (by rw [c3_]; rfl) rfl ?_
    have h := h.2.2.2.2.1 c3_
    refine eg_lload_n 1 dX11_compares_72 rfl rfl ?_
    refine eg_lload_n 2 dX11_compares_73 rfl rfl ?_
    refine eg_lcmp dX11_compares_74 ?_
    have J : ∀ x14 : Int32, x14 = (if (lg_cmp l1 l3) = 0 then (0 : Int32) else (1 : Int32)) → eg_W κ gM mtX11_compares d (eQI κ gM post) 83 [(0, vI l0), (1, vL l1), (3, vL l3)] [vI x14] M := by
      intro x14 ex14
      have h := h x14 ex14
      obtain ⟨g15, h⟩ := h
      exact eg_zreturn dX11_compares_83 rfl g15 h
    clear h
    refine eg_if_eq (tgt := 82) dX11_compares_75 rfl (fun c16 => ?_) (fun c16 => ?_)
    · refine eg_iconst dX11_compares_82 ic_0 ?_
      exact J _ (by rw [if_pos c16])
    · refine eg_iconst dX11_compares_78 ic_1 ?_
      refine eg_goto (tgt := 83) dX11_compares_79 rfl ?_
      exact J _ (by rw [if_neg c16])
  by_cases c4_ : l0 = (9 : Int32)
  · refine eg_tabI (tgt := 84) dX11_compares_1 (by rw [c4_]; decide) (by rw [c4_]; decide) (off := 83) (by rw [c4_]; rfl) rfl ?_
    have h := h.2.2.2.2.2 c4_
    refine eg_lload_n 1 dX11_compares_84 rfl rfl ?_
    refine eg_lload_n 2 dX11_compares_85 rfl rfl ?_
    refine eg_lcmp dX11_compares_86 ?_
    have J : ∀ x17 : Int32, x17 = (if (lg_cmp l1 l3) < 0 then (0 : Int32) else (1 : Int32)) → eg_W κ gM mtX11_compares d (eQI κ gM post) 95 [(0, vI l0), (1, vL l1), (3, vL l3)] [vI x17] M := by
      intro x17 ex17
      have h := h x17 ex17
      obtain ⟨g18, h⟩ := h
      exact eg_zreturn dX11_compares_95 rfl g18 h
    clear h
    refine eg_if_lt (tgt := 94) dX11_compares_87 rfl (fun c19 => ?_) (fun c19 => ?_)
    · refine eg_iconst dX11_compares_94 ic_0 ?_
      exact J _ (by rw [if_pos c19])
    · refine eg_iconst dX11_compares_90 ic_1 ?_
      refine eg_goto (tgt := 95) dX11_compares_91 rfl ?_
      exact J _ (by rw [if_neg c19])
  refine eg_tabO (tgt := 96) dX11_compares_1 ?_ rfl (J c0_ c1_ c2_ c3_ c4_)
  have t0_ := eg_ti 5 (by decide) c0_
  have t1_ := eg_ti 6 (by decide) c1_
  have t2_ := eg_ti 7 (by decide) c2_
  have t3_ := eg_ti 8 (by decide) c3_
  have t4_ := eg_ti 9 (by decide) c4_
  omega
theorem dX11_times_0 : decode cX11_times 0 = .ok (.lload_n 1, 1) := by decide +kernel
theorem dX11_times_1 : decode cX11_times 1 = .ok (.lconst 0, 1) := by decide +kernel
theorem dX11_times_2 : decode cX11_times 2 = .ok (.lcmp, 1) := by decide +kernel
theorem dX11_times_3 : decode cX11_times 3 = .ok (.ifCond .eq 45, 3) := by decide +kernel
theorem dX11_times_6 : decode cX11_times 6 = .ok (.lload_n 3, 1) := by decide +kernel
theorem dX11_times_7 : decode cX11_times 7 = .ok (.lconst 0, 1) := by decide +kernel
theorem dX11_times_8 : decode cX11_times 8 = .ok (.lcmp, 1) := by decide +kernel
theorem dX11_times_9 : decode cX11_times 9 = .ok (.ifCond .eq 39, 3) := by decide +kernel
theorem dX11_times_12 : decode cX11_times 12 = .ok (.lload_n 3, 1) := by decide +kernel
theorem dX11_times_13 : decode cX11_times 13 = .ok (.lconst 0, 1) := by decide +kernel
theorem dX11_times_14 : decode cX11_times 14 = .ok (.lcmp, 1) := by decide +kernel
theorem dX11_times_15 : decode cX11_times 15 = .ok (.ifCond .ge 8, 3) := by decide +kernel
theorem dX11_times_18 : decode cX11_times 18 = .ok (.lload_n 3, 1) := by decide +kernel
theorem dX11_times_19 : decode cX11_times 19 = .ok (.lneg, 1) := by decide +kernel
theorem dX11_times_20 : decode cX11_times 20 = .ok (.goto 4, 3) := by decide +kernel
theorem dX11_times_23 : decode cX11_times 23 = .ok (.lload_n 3, 1) := by decide +kernel
theorem dX11_times_24 : decode cX11_times 24 = .ok (.ldc2_w 386, 3) := by decide +kernel
theorem dX11_times_27 : decode cX11_times 27 = .ok (.lload_n 1, 1) := by decide +kernel
theorem dX11_times_28 : decode cX11_times 28 = .ok (.lconst 0, 1) := by decide +kernel
theorem dX11_times_29 : decode cX11_times 29 = .ok (.lcmp, 1) := by decide +kernel
theorem dX11_times_30 : decode cX11_times 30 = .ok (.ifCond .ge 8, 3) := by decide +kernel
theorem dX11_times_33 : decode cX11_times 33 = .ok (.lload_n 1, 1) := by decide +kernel
theorem dX11_times_34 : decode cX11_times 34 = .ok (.lneg, 1) := by decide +kernel
theorem dX11_times_35 : decode cX11_times 35 = .ok (.goto 4, 3) := by decide +kernel
theorem dX11_times_38 : decode cX11_times 38 = .ok (.lload_n 1, 1) := by decide +kernel
theorem dX11_times_39 : decode cX11_times 39 = .ok (.ldiv, 1) := by decide +kernel
theorem dX11_times_40 : decode cX11_times 40 = .ok (.lcmp, 1) := by decide +kernel
theorem dX11_times_41 : decode cX11_times 41 = .ok (.ifCond .le 7, 3) := by decide +kernel
theorem dX11_times_44 : decode cX11_times 44 = .ok (.iconst 1, 1) := by decide +kernel
theorem dX11_times_45 : decode cX11_times 45 = .ok (.goto 4, 3) := by decide +kernel
theorem dX11_times_48 : decode cX11_times 48 = .ok (.iconst 0, 1) := by decide +kernel
theorem dX11_times_49 : decode cX11_times 49 = .ok (.istore 5, 2) := by decide +kernel
theorem dX11_times_51 : decode cX11_times 51 = .ok (.aload_n 0, 1) := by decide +kernel
theorem dX11_times_52 : decode cX11_times 52 = .ok (.aload_n 0, 1) := by decide +kernel
theorem dX11_times_53 : decode cX11_times 53 = .ok (.getfield 383, 3) := by decide +kernel
theorem dX11_times_56 : decode cX11_times 56 = .ok (.ifCond .ne 8, 3) := by decide +kernel
theorem dX11_times_59 : decode cX11_times 59 = .ok (.iload 5, 2) := by decide +kernel
theorem dX11_times_61 : decode cX11_times 61 = .ok (.ifCond .eq 7, 3) := by decide +kernel
theorem dX11_times_64 : decode cX11_times 64 = .ok (.iconst 1, 1) := by decide +kernel
theorem dX11_times_65 : decode cX11_times 65 = .ok (.goto 4, 3) := by decide +kernel
theorem dX11_times_68 : decode cX11_times 68 = .ok (.iconst 0, 1) := by decide +kernel
theorem dX11_times_69 : decode cX11_times 69 = .ok (.putfield 383, 3) := by decide +kernel
theorem dX11_times_72 : decode cX11_times 72 = .ok (.aload_n 0, 1) := by decide +kernel
theorem dX11_times_73 : decode cX11_times 73 = .ok (.getfield 383, 3) := by decide +kernel
theorem dX11_times_76 : decode cX11_times 76 = .ok (.ifCond .eq 7, 3) := by decide +kernel
theorem dX11_times_79 : decode cX11_times 79 = .ok (.lconst 0, 1) := by decide +kernel
theorem dX11_times_80 : decode cX11_times 80 = .ok (.goto 6, 3) := by decide +kernel
theorem dX11_times_83 : decode cX11_times 83 = .ok (.lload_n 1, 1) := by decide +kernel
theorem dX11_times_84 : decode cX11_times 84 = .ok (.lload_n 3, 1) := by decide +kernel
theorem dX11_times_85 : decode cX11_times 85 = .ok (.lmul, 1) := by decide +kernel
theorem dX11_times_86 : decode cX11_times 86 = .ok (.lreturn, 1) := by decide +kernel
set_option maxRecDepth 10000 in
theorem vX11_times_0 {κ : eg_K} {d : Nat} {post : Int64 → eg_H → Prop} (M : eg_H) (l1 : Int64) (l3 : Int64) (h : ((lg_cmp l1 (0 : Int64)) = 0 → eg_W κ gM mtX11_times d (eQL κ gM post) 48 [(0, vR (60, 0)), (1, vL l1), (3, vL l3)] [] M) ∧ ((¬ (lg_cmp l1 (0 : Int64)) = 0) → ((lg_cmp l3 (0 : Int64)) = 0 → eg_W κ gM mtX11_times d (eQL κ gM post) 48 [(0, vR (60, 0)), (1, vL l1), (3, vL l3)] [] M) ∧ ((¬ (lg_cmp l3 (0 : Int64)) = 0) → (∀ x3 : Int64, x3 = ((if 0 ≤ (lg_cmp l3 (0 : Int64)) then l3 else (-l3))) → (∀ x4 : Int64, x4 = ((if 0 ≤ (lg_cmp l1 (0 : Int64)) then l1 else (-l1))) → ((¬ x4 = 0) ∧ (∀ x6 : Int32, x6 = ((if (lg_cmp x3 ((1000000000000 : Int64) / x4)) ≤ 0 then (0 : Int32) else (1 : Int32))) → (∀ x7 : Int32, x7 = ((if (¬ (M.1 (60, 0) 68) = 0) then (1 : Int32) else (if x6 = 0 then (0 : Int32) else (1 : Int32)))) → ((x7 = 0 ∨ x7 = 1) ∧ (∀ M8 : eg_H, M8 = (sI M (60, 0) 68 x7) → (∀ x10 : Int64, x10 = ((if (M8.1 (60, 0) 68) = 0 then (l1 * l3) else (0 : Int64))) → post x10 M8))))))))))) : eg_W κ gM mtX11_times d (eQL κ gM post) 0 [(0, vR (60, 0)), (1, vL l1), (3, vL l3)] [] M := by
  refine eg_lload_n 1 dX11_times_0 rfl rfl ?_
  refine eg_lconst dX11_times_1 lc_0 ?_
  refine eg_lcmp dX11_times_2 ?_
  refine eg_if_eq (tgt := 48) dX11_times_3 rfl (fun c1 => ?_) (fun c1 => ?_)
  · have h := h.1 c1
    exact h
  · have h := h.2 c1
    refine eg_lload_n 2 dX11_times_6 rfl rfl ?_
    refine eg_lconst dX11_times_7 lc_0 ?_
    refine eg_lcmp dX11_times_8 ?_
    refine eg_if_eq (tgt := 48) dX11_times_9 rfl (fun c2 => ?_) (fun c2 => ?_)
    · have h := h.1 c2
      exact h
    · have h := h.2 c2
      refine eg_lload_n 2 dX11_times_12 rfl rfl ?_
      refine eg_lconst dX11_times_13 lc_0 ?_
      refine eg_lcmp dX11_times_14 ?_
      have J : ∀ x3 : Int64, x3 = (if 0 ≤ (lg_cmp l3 (0 : Int64)) then l3 else (-l3)) → eg_W κ gM mtX11_times d (eQL κ gM post) 24 [(0, vR (60, 0)), (1, vL l1), (3, vL l3)] [vL x3] M := by
        intro x3 ex3
        have h := h x3 ex3
        refine eg_ldc2 dX11_times_24 kc_11_386 ?_
        refine eg_lload_n 1 dX11_times_27 rfl rfl ?_
        refine eg_lconst dX11_times_28 lc_0 ?_
        refine eg_lcmp dX11_times_29 ?_
        have J : ∀ x4 : Int64, x4 = (if 0 ≤ (lg_cmp l1 (0 : Int64)) then l1 else (-l1)) → eg_W κ gM mtX11_times d (eQL κ gM post) 39 [(0, vR (60, 0)), (1, vL l1), (3, vL l3)] [vL x4, vL (1000000000000 : Int64), vL x3] M := by
          intro x4 ex4
          have h := h x4 ex4
          obtain ⟨g5, h⟩ := h
          refine eg_ldiv dX11_times_39 g5 ?_
          refine eg_lcmp dX11_times_40 ?_
          have J : ∀ x6 : Int32, x6 = (if (lg_cmp x3 ((1000000000000 : Int64) / x4)) ≤ 0 then (0 : Int32) else (1 : Int32)) → eg_W κ gM mtX11_times d (eQL κ gM post) 49 [(0, vR (60, 0)), (1, vL l1), (3, vL l3)] [vI x6] M := by
            intro x6 ex6
            have h := h x6 ex6
            refine eg_istore dX11_times_49 (by decide) (ls1 := [(5, vI x6), (0, vR (60, 0)), (1, vL l1), (3, vL l3)]) rfl ?_
            refine eg_aload_n 1 dX11_times_51 rfl rfl ?_
            refine eg_aload_n 1 dX11_times_52 rfl rfl ?_
            refine eg_getI dX11_times_53 fl_11_383 rfl trivial (obM_60 z1) ?_
            have J : ∀ x7 : Int32, x7 = (if (¬ (M.1 (60, 0) 68) = 0) then (1 : Int32) else (if x6 = 0 then (0 : Int32) else (1 : Int32))) → eg_W κ gM mtX11_times d (eQL κ gM post) 69 [(5, vI x6), (0, vR (60, 0)), (1, vL l1), (3, vL l3)] [vI x7, vR (60, 0)] M := by
              intro x7 ex7
              have h := h x7 ex7
              obtain ⟨g9, h⟩ := h
              refine en_putZ dX11_times_69 fl_11_383 rfl rfl g9 (obM_60 z1) (fun M8 eM8 => ?_)
              have h := h M8 eM8
              refine eg_aload_n 1 dX11_times_72 rfl rfl ?_
              refine eg_getI dX11_times_73 fl_11_383 rfl trivial (obM_60 z1) ?_
              have J : ∀ x10 : Int64, x10 = (if (M8.1 (60, 0) 68) = 0 then (l1 * l3) else (0 : Int64)) → eg_W κ gM mtX11_times d (eQL κ gM post) 86 [(5, vI x6), (0, vR (60, 0)), (1, vL l1), (3, vL l3)] [vL x10] M8 := by
                intro x10 ex10
                have h := h x10 ex10
                exact eg_lreturn dX11_times_86 rfl h
              clear h
              refine eg_if_eq (tgt := 83) dX11_times_76 rfl (fun c11 => ?_) (fun c11 => ?_)
              · refine eg_lload_n 2 dX11_times_83 rfl rfl ?_
                refine eg_lload_n 3 dX11_times_84 rfl rfl ?_
                refine eg_lmul dX11_times_85 ?_
                exact J _ (by rw [if_pos c11])
              · refine eg_lconst dX11_times_79 lc_0 ?_
                refine eg_goto (tgt := 86) dX11_times_80 rfl ?_
                exact J _ (by rw [if_neg c11])
            clear h
            refine eg_if_ne (tgt := 64) dX11_times_56 rfl (fun c12 => ?_) (fun c12 => ?_)
            · refine eg_iconst dX11_times_64 ic_1 ?_
              refine eg_goto (tgt := 69) dX11_times_65 rfl ?_
              exact J _ (by rw [if_pos c12])
            · have c13 : ¬ (¬ (M.1 (60, 0) 68) = 0) := fun z => z c12
              refine eg_iload 0 dX11_times_59 rfl ?_
              refine eg_if_eq (tgt := 68) dX11_times_61 rfl (fun c14 => ?_) (fun c14 => ?_)
              · refine eg_iconst dX11_times_68 ic_0 ?_
                exact J _ (by rw [if_neg c13, if_pos c14])
              · refine eg_iconst dX11_times_64 ic_1 ?_
                refine eg_goto (tgt := 69) dX11_times_65 rfl ?_
                exact J _ (by rw [if_neg c13, if_neg c14])
          clear h
          refine eg_if_le (tgt := 48) dX11_times_41 rfl (fun c15 => ?_) (fun c15 => ?_)
          · refine eg_iconst dX11_times_48 ic_0 ?_
            exact J _ (by rw [if_pos c15])
          · refine eg_iconst dX11_times_44 ic_1 ?_
            refine eg_goto (tgt := 49) dX11_times_45 rfl ?_
            exact J _ (by rw [if_neg c15])
        clear h
        refine eg_if_ge (tgt := 38) dX11_times_30 rfl (fun c16 => ?_) (fun c16 => ?_)
        · refine eg_lload_n 1 dX11_times_38 rfl rfl ?_
          exact J _ (by rw [if_pos c16])
        · refine eg_lload_n 1 dX11_times_33 rfl rfl ?_
          refine eg_lneg dX11_times_34 ?_
          refine eg_goto (tgt := 39) dX11_times_35 rfl ?_
          exact J _ (by rw [if_neg c16])
      clear h
      refine eg_if_ge (tgt := 23) dX11_times_15 rfl (fun c17 => ?_) (fun c17 => ?_)
      · refine eg_lload_n 2 dX11_times_23 rfl rfl ?_
        exact J _ (by rw [if_pos c17])
      · refine eg_lload_n 2 dX11_times_18 rfl rfl ?_
        refine eg_lneg dX11_times_19 ?_
        refine eg_goto (tgt := 24) dX11_times_20 rfl ?_
        exact J _ (by rw [if_neg c17])
set_option maxRecDepth 10000 in
theorem vX11_times_48 {κ : eg_K} {d : Nat} {post : Int64 → eg_H → Prop} (M : eg_H) (l1 : Int64) (l3 : Int64) (h : (∀ x1 : Int32, x1 = ((if (¬ (M.1 (60, 0) 68) = 0) then (1 : Int32) else (if (0 : Int32) = 0 then (0 : Int32) else (1 : Int32)))) → ((x1 = 0 ∨ x1 = 1) ∧ (∀ M2 : eg_H, M2 = (sI M (60, 0) 68 x1) → (∀ x4 : Int64, x4 = ((if (M2.1 (60, 0) 68) = 0 then (l1 * l3) else (0 : Int64))) → post x4 M2))))) : eg_W κ gM mtX11_times d (eQL κ gM post) 48 [(0, vR (60, 0)), (1, vL l1), (3, vL l3)] [] M := by
  refine eg_iconst dX11_times_48 ic_0 ?_
  refine eg_istore dX11_times_49 (by decide) (ls1 := [(5, vI (0 : Int32)), (0, vR (60, 0)), (1, vL l1), (3, vL l3)]) rfl ?_
  refine eg_aload_n 1 dX11_times_51 rfl rfl ?_
  refine eg_aload_n 1 dX11_times_52 rfl rfl ?_
  refine eg_getI dX11_times_53 fl_11_383 rfl trivial (obM_60 z1) ?_
  have J : ∀ x1 : Int32, x1 = (if (¬ (M.1 (60, 0) 68) = 0) then (1 : Int32) else (if (0 : Int32) = 0 then (0 : Int32) else (1 : Int32))) → eg_W κ gM mtX11_times d (eQL κ gM post) 69 [(5, vI (0 : Int32)), (0, vR (60, 0)), (1, vL l1), (3, vL l3)] [vI x1, vR (60, 0)] M := by
    intro x1 ex1
    have h := h x1 ex1
    obtain ⟨g3, h⟩ := h
    refine en_putZ dX11_times_69 fl_11_383 rfl rfl g3 (obM_60 z1) (fun M2 eM2 => ?_)
    have h := h M2 eM2
    refine eg_aload_n 1 dX11_times_72 rfl rfl ?_
    refine eg_getI dX11_times_73 fl_11_383 rfl trivial (obM_60 z1) ?_
    have J : ∀ x4 : Int64, x4 = (if (M2.1 (60, 0) 68) = 0 then (l1 * l3) else (0 : Int64)) → eg_W κ gM mtX11_times d (eQL κ gM post) 86 [(5, vI (0 : Int32)), (0, vR (60, 0)), (1, vL l1), (3, vL l3)] [vL x4] M2 := by
      intro x4 ex4
      have h := h x4 ex4
      exact eg_lreturn dX11_times_86 rfl h
    clear h
    refine eg_if_eq (tgt := 83) dX11_times_76 rfl (fun c5 => ?_) (fun c5 => ?_)
    · refine eg_lload_n 2 dX11_times_83 rfl rfl ?_
      refine eg_lload_n 3 dX11_times_84 rfl rfl ?_
      refine eg_lmul dX11_times_85 ?_
      exact J _ (by rw [if_pos c5])
    · refine eg_lconst dX11_times_79 lc_0 ?_
      refine eg_goto (tgt := 86) dX11_times_80 rfl ?_
      exact J _ (by rw [if_neg c5])
  clear h
  refine eg_if_ne (tgt := 64) dX11_times_56 rfl (fun c6 => ?_) (fun c6 => ?_)
  · refine eg_iconst dX11_times_64 ic_1 ?_
    refine eg_goto (tgt := 69) dX11_times_65 rfl ?_
    exact J _ (by rw [if_pos c6])
  · have c7 : ¬ (¬ (M.1 (60, 0) 68) = 0) := fun z => z c6
    refine eg_iload 0 dX11_times_59 rfl ?_
    refine eg_if_eq (tgt := 68) dX11_times_61 rfl (fun c8 => ?_) (fun c8 => ?_)
    · refine eg_iconst dX11_times_68 ic_0 ?_
      exact J _ (by rw [if_neg c7, if_pos c8])
    · refine eg_iconst dX11_times_64 ic_1 ?_
      refine eg_goto (tgt := 69) dX11_times_65 rfl ?_
      exact J _ (by rw [if_neg c7, if_neg c8])
theorem dX11_valueOf_0 : decode cX11_valueOf 0 = .ok (.aload_n 0, 1) := by decide +kernel
theorem dX11_valueOf_1 : decode cX11_valueOf 1 = .ok (.getfield 54, 3) := by decide +kernel
theorem dX11_valueOf_4 : decode cX11_valueOf 4 = .ok (.iload_n 1, 1) := by decide +kernel
theorem dX11_valueOf_5 : decode cX11_valueOf 5 = .ok (.iaload, 1) := by decide +kernel
theorem dX11_valueOf_6 : decode cX11_valueOf 6 = .ok (.ifCond .ne 11, 3) := by decide +kernel
theorem dX11_valueOf_9 : decode cX11_valueOf 9 = .ok (.aload_n 0, 1) := by decide +kernel
theorem dX11_valueOf_10 : decode cX11_valueOf 10 = .ok (.getfield 57, 3) := by decide +kernel
theorem dX11_valueOf_13 : decode cX11_valueOf 13 = .ok (.iload_n 1, 1) := by decide +kernel
theorem dX11_valueOf_14 : decode cX11_valueOf 14 = .ok (.iaload, 1) := by decide +kernel
theorem dX11_valueOf_15 : decode cX11_valueOf 15 = .ok (.i2l, 1) := by decide +kernel
theorem dX11_valueOf_16 : decode cX11_valueOf 16 = .ok (.lreturn, 1) := by decide +kernel
theorem dX11_valueOf_17 : decode cX11_valueOf 17 = .ok (.aload_n 0, 1) := by decide +kernel
theorem dX11_valueOf_18 : decode cX11_valueOf 18 = .ok (.getfield 54, 3) := by decide +kernel
theorem dX11_valueOf_21 : decode cX11_valueOf 21 = .ok (.iload_n 1, 1) := by decide +kernel
theorem dX11_valueOf_22 : decode cX11_valueOf 22 = .ok (.iaload, 1) := by decide +kernel
theorem dX11_valueOf_23 : decode cX11_valueOf 23 = .ok (.iconst 1, 1) := by decide +kernel
theorem dX11_valueOf_24 : decode cX11_valueOf 24 = .ok (.if_icmp .ne 15, 3) := by decide +kernel
theorem dX11_valueOf_27 : decode cX11_valueOf 27 = .ok (.aload_n 0, 1) := by decide +kernel
theorem dX11_valueOf_28 : decode cX11_valueOf 28 = .ok (.getfield 84, 3) := by decide +kernel
theorem dX11_valueOf_31 : decode cX11_valueOf 31 = .ok (.aload_n 0, 1) := by decide +kernel
theorem dX11_valueOf_32 : decode cX11_valueOf 32 = .ok (.getfield 57, 3) := by decide +kernel
theorem dX11_valueOf_35 : decode cX11_valueOf 35 = .ok (.iload_n 1, 1) := by decide +kernel
theorem dX11_valueOf_36 : decode cX11_valueOf 36 = .ok (.iaload, 1) := by decide +kernel
theorem dX11_valueOf_37 : decode cX11_valueOf 37 = .ok (.laload, 1) := by decide +kernel
theorem dX11_valueOf_38 : decode cX11_valueOf 38 = .ok (.lreturn, 1) := by decide +kernel
theorem dX11_valueOf_39 : decode cX11_valueOf 39 = .ok (.aload_n 0, 1) := by decide +kernel
theorem dX11_valueOf_40 : decode cX11_valueOf 40 = .ok (.getfield 88, 3) := by decide +kernel
theorem dX11_valueOf_43 : decode cX11_valueOf 43 = .ok (.aload_n 0, 1) := by decide +kernel
theorem dX11_valueOf_44 : decode cX11_valueOf 44 = .ok (.getfield 57, 3) := by decide +kernel
theorem dX11_valueOf_47 : decode cX11_valueOf 47 = .ok (.iload_n 1, 1) := by decide +kernel
theorem dX11_valueOf_48 : decode cX11_valueOf 48 = .ok (.iaload, 1) := by decide +kernel
theorem dX11_valueOf_49 : decode cX11_valueOf 49 = .ok (.laload, 1) := by decide +kernel
theorem dX11_valueOf_50 : decode cX11_valueOf 50 = .ok (.lstore_n 2, 1) := by decide +kernel
theorem dX11_valueOf_51 : decode cX11_valueOf 51 = .ok (.aload_n 0, 1) := by decide +kernel
theorem dX11_valueOf_52 : decode cX11_valueOf 52 = .ok (.getfield 54, 3) := by decide +kernel
theorem dX11_valueOf_55 : decode cX11_valueOf 55 = .ok (.iload_n 1, 1) := by decide +kernel
theorem dX11_valueOf_56 : decode cX11_valueOf 56 = .ok (.iaload, 1) := by decide +kernel
theorem dX11_valueOf_57 : decode cX11_valueOf 57 = .ok (.iconst 2, 1) := by decide +kernel
theorem dX11_valueOf_58 : decode cX11_valueOf 58 = .ok (.if_icmp .ne 15, 3) := by decide +kernel
theorem dX11_valueOf_61 : decode cX11_valueOf 61 = .ok (.lload_n 2, 1) := by decide +kernel
theorem dX11_valueOf_62 : decode cX11_valueOf 62 = .ok (.lconst 0, 1) := by decide +kernel
theorem dX11_valueOf_63 : decode cX11_valueOf 63 = .ok (.lcmp, 1) := by decide +kernel
theorem dX11_valueOf_64 : decode cX11_valueOf 64 = .ok (.ifCond .ne 7, 3) := by decide +kernel
theorem dX11_valueOf_67 : decode cX11_valueOf 67 = .ok (.lconst 1, 1) := by decide +kernel
theorem dX11_valueOf_68 : decode cX11_valueOf 68 = .ok (.goto 4, 3) := by decide +kernel
theorem dX11_valueOf_71 : decode cX11_valueOf 71 = .ok (.lconst 0, 1) := by decide +kernel
theorem dX11_valueOf_72 : decode cX11_valueOf 72 = .ok (.lreturn, 1) := by decide +kernel
theorem dX11_valueOf_73 : decode cX11_valueOf 73 = .ok (.aload_n 0, 1) := by decide +kernel
theorem dX11_valueOf_74 : decode cX11_valueOf 74 = .ok (.getfield 88, 3) := by decide +kernel
theorem dX11_valueOf_77 : decode cX11_valueOf 77 = .ok (.aload_n 0, 1) := by decide +kernel
theorem dX11_valueOf_78 : decode cX11_valueOf 78 = .ok (.getfield 60, 3) := by decide +kernel
theorem dX11_valueOf_81 : decode cX11_valueOf 81 = .ok (.iload_n 1, 1) := by decide +kernel
theorem dX11_valueOf_82 : decode cX11_valueOf 82 = .ok (.iaload, 1) := by decide +kernel
theorem dX11_valueOf_83 : decode cX11_valueOf 83 = .ok (.laload, 1) := by decide +kernel
theorem dX11_valueOf_84 : decode cX11_valueOf 84 = .ok (.lstore 4, 2) := by decide +kernel
theorem dX11_valueOf_86 : decode cX11_valueOf 86 = .ok (.aload_n 0, 1) := by decide +kernel
theorem dX11_valueOf_87 : decode cX11_valueOf 87 = .ok (.getfield 54, 3) := by decide +kernel
theorem dX11_valueOf_90 : decode cX11_valueOf 90 = .ok (.iload_n 1, 1) := by decide +kernel
theorem dX11_valueOf_91 : decode cX11_valueOf 91 = .ok (.iaload, 1) := by decide +kernel
theorem dX11_valueOf_92 : decode cX11_valueOf 92 = .ok (.tableswitch 167 3 14 #[64, 83, 167, 167, 167, 167, 167, 167, 102, 111, 120, 128], 64) := by decide +kernel
theorem dX11_valueOf_156 : decode cX11_valueOf 156 = .ok (.lload_n 2, 1) := by decide +kernel
theorem dX11_valueOf_157 : decode cX11_valueOf 157 = .ok (.lconst 0, 1) := by decide +kernel
theorem dX11_valueOf_158 : decode cX11_valueOf 158 = .ok (.lcmp, 1) := by decide +kernel
theorem dX11_valueOf_159 : decode cX11_valueOf 159 = .ok (.ifCond .eq 14, 3) := by decide +kernel
theorem dX11_valueOf_162 : decode cX11_valueOf 162 = .ok (.lload 4, 2) := by decide +kernel
theorem dX11_valueOf_164 : decode cX11_valueOf 164 = .ok (.lconst 0, 1) := by decide +kernel
theorem dX11_valueOf_165 : decode cX11_valueOf 165 = .ok (.lcmp, 1) := by decide +kernel
theorem dX11_valueOf_166 : decode cX11_valueOf 166 = .ok (.ifCond .eq 7, 3) := by decide +kernel
theorem dX11_valueOf_169 : decode cX11_valueOf 169 = .ok (.lconst 1, 1) := by decide +kernel
theorem dX11_valueOf_170 : decode cX11_valueOf 170 = .ok (.goto 4, 3) := by decide +kernel
theorem dX11_valueOf_173 : decode cX11_valueOf 173 = .ok (.lconst 0, 1) := by decide +kernel
theorem dX11_valueOf_174 : decode cX11_valueOf 174 = .ok (.lreturn, 1) := by decide +kernel
theorem dX11_valueOf_175 : decode cX11_valueOf 175 = .ok (.lload_n 2, 1) := by decide +kernel
theorem dX11_valueOf_176 : decode cX11_valueOf 176 = .ok (.lconst 0, 1) := by decide +kernel
theorem dX11_valueOf_177 : decode cX11_valueOf 177 = .ok (.lcmp, 1) := by decide +kernel
theorem dX11_valueOf_178 : decode cX11_valueOf 178 = .ok (.ifCond .ne 10, 3) := by decide +kernel
theorem dX11_valueOf_181 : decode cX11_valueOf 181 = .ok (.lload 4, 2) := by decide +kernel
theorem dX11_valueOf_183 : decode cX11_valueOf 183 = .ok (.lconst 0, 1) := by decide +kernel
theorem dX11_valueOf_184 : decode cX11_valueOf 184 = .ok (.lcmp, 1) := by decide +kernel
theorem dX11_valueOf_185 : decode cX11_valueOf 185 = .ok (.ifCond .eq 7, 3) := by decide +kernel
theorem dX11_valueOf_188 : decode cX11_valueOf 188 = .ok (.lconst 1, 1) := by decide +kernel
theorem dX11_valueOf_189 : decode cX11_valueOf 189 = .ok (.goto 4, 3) := by decide +kernel
theorem dX11_valueOf_192 : decode cX11_valueOf 192 = .ok (.lconst 0, 1) := by decide +kernel
theorem dX11_valueOf_193 : decode cX11_valueOf 193 = .ok (.lreturn, 1) := by decide +kernel
theorem dX11_valueOf_194 : decode cX11_valueOf 194 = .ok (.aload_n 0, 1) := by decide +kernel
theorem dX11_valueOf_195 : decode cX11_valueOf 195 = .ok (.lload_n 2, 1) := by decide +kernel
theorem dX11_valueOf_196 : decode cX11_valueOf 196 = .ok (.lload 4, 2) := by decide +kernel
theorem dX11_valueOf_198 : decode cX11_valueOf 198 = .ok (.ladd, 1) := by decide +kernel
theorem dX11_valueOf_199 : decode cX11_valueOf 199 = .ok (.invokevirtual 390, 3) := by decide +kernel
theorem dX11_valueOf_202 : decode cX11_valueOf 202 = .ok (.lreturn, 1) := by decide +kernel
theorem dX11_valueOf_203 : decode cX11_valueOf 203 = .ok (.aload_n 0, 1) := by decide +kernel
theorem dX11_valueOf_204 : decode cX11_valueOf 204 = .ok (.lload_n 2, 1) := by decide +kernel
theorem dX11_valueOf_205 : decode cX11_valueOf 205 = .ok (.lload 4, 2) := by decide +kernel
theorem dX11_valueOf_207 : decode cX11_valueOf 207 = .ok (.lsub, 1) := by decide +kernel
theorem dX11_valueOf_208 : decode cX11_valueOf 208 = .ok (.invokevirtual 390, 3) := by decide +kernel
theorem dX11_valueOf_211 : decode cX11_valueOf 211 = .ok (.lreturn, 1) := by decide +kernel
theorem dX11_valueOf_212 : decode cX11_valueOf 212 = .ok (.aload_n 0, 1) := by decide +kernel
theorem dX11_valueOf_213 : decode cX11_valueOf 213 = .ok (.lload_n 2, 1) := by decide +kernel
theorem dX11_valueOf_214 : decode cX11_valueOf 214 = .ok (.lload 4, 2) := by decide +kernel
theorem dX11_valueOf_216 : decode cX11_valueOf 216 = .ok (.invokevirtual 394, 3) := by decide +kernel
theorem dX11_valueOf_219 : decode cX11_valueOf 219 = .ok (.lreturn, 1) := by decide +kernel
theorem dX11_valueOf_220 : decode cX11_valueOf 220 = .ok (.aload_n 0, 1) := by decide +kernel
theorem dX11_valueOf_221 : decode cX11_valueOf 221 = .ok (.aload_n 0, 1) := by decide +kernel
theorem dX11_valueOf_222 : decode cX11_valueOf 222 = .ok (.getfield 383, 3) := by decide +kernel
theorem dX11_valueOf_225 : decode cX11_valueOf 225 = .ok (.ifCond .ne 10, 3) := by decide +kernel
theorem dX11_valueOf_228 : decode cX11_valueOf 228 = .ok (.lload 4, 2) := by decide +kernel
theorem dX11_valueOf_230 : decode cX11_valueOf 230 = .ok (.lconst 0, 1) := by decide +kernel
theorem dX11_valueOf_231 : decode cX11_valueOf 231 = .ok (.lcmp, 1) := by decide +kernel
theorem dX11_valueOf_232 : decode cX11_valueOf 232 = .ok (.ifCond .ne 7, 3) := by decide +kernel
theorem dX11_valueOf_235 : decode cX11_valueOf 235 = .ok (.iconst 1, 1) := by decide +kernel
theorem dX11_valueOf_236 : decode cX11_valueOf 236 = .ok (.goto 4, 3) := by decide +kernel
theorem dX11_valueOf_239 : decode cX11_valueOf 239 = .ok (.iconst 0, 1) := by decide +kernel
theorem dX11_valueOf_240 : decode cX11_valueOf 240 = .ok (.putfield 383, 3) := by decide +kernel
theorem dX11_valueOf_243 : decode cX11_valueOf 243 = .ok (.aload_n 0, 1) := by decide +kernel
theorem dX11_valueOf_244 : decode cX11_valueOf 244 = .ok (.getfield 383, 3) := by decide +kernel
theorem dX11_valueOf_247 : decode cX11_valueOf 247 = .ok (.ifCond .eq 7, 3) := by decide +kernel
theorem dX11_valueOf_250 : decode cX11_valueOf 250 = .ok (.lconst 0, 1) := by decide +kernel
theorem dX11_valueOf_251 : decode cX11_valueOf 251 = .ok (.goto 7, 3) := by decide +kernel
theorem dX11_valueOf_254 : decode cX11_valueOf 254 = .ok (.lload_n 2, 1) := by decide +kernel
theorem dX11_valueOf_255 : decode cX11_valueOf 255 = .ok (.lload 4, 2) := by decide +kernel
theorem dX11_valueOf_257 : decode cX11_valueOf 257 = .ok (.ldiv, 1) := by decide +kernel
theorem dX11_valueOf_258 : decode cX11_valueOf 258 = .ok (.lreturn, 1) := by decide +kernel
theorem dX11_valueOf_259 : decode cX11_valueOf 259 = .ok (.aload_n 0, 1) := by decide +kernel
theorem dX11_valueOf_260 : decode cX11_valueOf 260 = .ok (.getfield 54, 3) := by decide +kernel
theorem dX11_valueOf_263 : decode cX11_valueOf 263 = .ok (.iload_n 1, 1) := by decide +kernel
theorem dX11_valueOf_264 : decode cX11_valueOf 264 = .ok (.iaload, 1) := by decide +kernel
theorem dX11_valueOf_265 : decode cX11_valueOf 265 = .ok (.lload_n 2, 1) := by decide +kernel
theorem dX11_valueOf_266 : decode cX11_valueOf 266 = .ok (.lload 4, 2) := by decide +kernel
theorem dX11_valueOf_268 : decode cX11_valueOf 268 = .ok (.invokestatic 398, 3) := by decide +kernel
theorem dX11_valueOf_271 : decode cX11_valueOf 271 = .ok (.ifCond .eq 7, 3) := by decide +kernel
theorem dX11_valueOf_274 : decode cX11_valueOf 274 = .ok (.lconst 1, 1) := by decide +kernel
theorem dX11_valueOf_275 : decode cX11_valueOf 275 = .ok (.goto 4, 3) := by decide +kernel
theorem dX11_valueOf_278 : decode cX11_valueOf 278 = .ok (.lconst 0, 1) := by decide +kernel
theorem dX11_valueOf_279 : decode cX11_valueOf 279 = .ok (.lreturn, 1) := by decide +kernel
set_option maxRecDepth 10000 in
theorem vX11_valueOf_0 {κ : eg_K} {d : Nat} (hd : 1 ≤ d) {post : Int64 → eg_H → Prop} (M : eg_H) (l1 : Int32) (h : (vp_in l1 128 ∧ ((¬ (M.1 (99, 0) l1.toNatClampNeg) = 0) → ((¬ (M.1 (99, 0) l1.toNatClampNeg) = (1 : Int32)) → (vp_in (M.1 (100, 0) l1.toNatClampNeg) 64 ∧ (∀ x5 : Int64, x5 = (M.2.1 (128, 0) (M.1 (100, 0) l1.toNatClampNeg).toNatClampNeg) → ((¬ (M.1 (99, 0) l1.toNatClampNeg) = (2 : Int32)) → (vp_in (M.1 (101, 0) l1.toNatClampNeg) 64 ∧ (∀ x8 : Int64, x8 = (M.2.1 (128, 0) (M.1 (101, 0) l1.toNatClampNeg).toNatClampNeg) → ((¬ (M.1 (99, 0) l1.toNatClampNeg) = (3 : Int32)) → (¬ (M.1 (99, 0) l1.toNatClampNeg) = (4 : Int32)) → (¬ (M.1 (99, 0) l1.toNatClampNeg) = (11 : Int32)) → (¬ (M.1 (99, 0) l1.toNatClampNeg) = (12 : Int32)) → (¬ (M.1 (99, 0) l1.toNatClampNeg) = (13 : Int32)) → (¬ (M.1 (99, 0) l1.toNatClampNeg) = (14 : Int32)) → eg_W κ gM mtX11_valueOf d (eQL κ gM post) 259 [(0, vR (60, 0)), (1, vI l1), (2, vL x5), (4, vL x8)] [] M) ∧ ((M.1 (99, 0) l1.toNatClampNeg) = (3 : Int32) → (∀ x9 : Int64, x9 = ((if (lg_cmp x5 (0 : Int64)) = 0 then (0 : Int64) else (if (lg_cmp x8 (0 : Int64)) = 0 then (0 : Int64) else (1 : Int64)))) → post x9 M)) ∧ ((M.1 (99, 0) l1.toNatClampNeg) = (4 : Int32) → (∀ x12 : Int64, x12 = ((if (¬ (lg_cmp x5 (0 : Int64)) = 0) then (1 : Int64) else (if (lg_cmp x8 (0 : Int64)) = 0 then (0 : Int64) else (1 : Int64)))) → post x12 M)) ∧ ((M.1 (99, 0) l1.toNatClampNeg) = (11 : Int32) → eCL κ gM mtX11_bounded d [vR (60, 0), vL (x5 + x8)] M (fun x16 M17 => post x16 M17)) ∧ ((M.1 (99, 0) l1.toNatClampNeg) = (12 : Int32) → eCL κ gM mtX11_bounded d [vR (60, 0), vL (x5 - x8)] M (fun x19 M20 => post x19 M20)) ∧ ((M.1 (99, 0) l1.toNatClampNeg) = (13 : Int32) → eCL κ gM mtX11_times d [vR (60, 0), vL x5, vL x8] M (fun x22 M23 => post x22 M23)) ∧ ((M.1 (99, 0) l1.toNatClampNeg) = (14 : Int32) → (∀ x25 : Int32, x25 = ((if (¬ (M.1 (60, 0) 68) = 0) then (1 : Int32) else (if (¬ (lg_cmp x8 (0 : Int64)) = 0) then (0 : Int32) else (1 : Int32)))) → ((x25 = 0 ∨ x25 = 1) ∧ (∀ M26 : eg_H, M26 = (sI M (60, 0) 68 x25) → ((M26.1 (60, 0) 68) = 0 → ((¬ x8 = 0) ∧ post (x5 / x8) M26)) ∧ ((¬ (M26.1 (60, 0) 68) = 0) → post (0 : Int64) M26)))))))) ∧ ((M.1 (99, 0) l1.toNatClampNeg) = (2 : Int32) → (∀ x34 : Int64, x34 = ((if (¬ (lg_cmp x5 (0 : Int64)) = 0) then (0 : Int64) else (1 : Int64))) → post x34 M))))) ∧ ((M.1 (99, 0) l1.toNatClampNeg) = (1 : Int32) → (vp_in (M.1 (100, 0) l1.toNatClampNeg) 8 ∧ post (M.2.1 (127, 0) (M.1 (100, 0) l1.toNatClampNeg).toNatClampNeg) M))) ∧ ((M.1 (99, 0) l1.toNatClampNeg) = 0 → post ((M.1 (100, 0) l1.toNatClampNeg).toInt64) M))) : eg_W κ gM mtX11_valueOf d (eQL κ gM post) 0 [(0, vR (60, 0)), (1, vI l1)] [] M := by
  refine eg_aload_n 0 dX11_valueOf_0 rfl rfl ?_
  refine eg_getR dX11_valueOf_1 fl_11_54 rfl rfl (obM_60 z1) ?_
  show eg_W κ gM mtX11_valueOf d (eQL κ gM post) 4 [(0, vR (60, 0)), (1, vI l1)] [vR (99, 0)] M
  refine eg_iload_n 1 dX11_valueOf_4 rfl rfl ?_
  obtain ⟨g1, h⟩ := h
  refine eg_iaload dX11_valueOf_5 (arM_99 z1 g1) ?_
  refine eg_if_ne (tgt := 17) dX11_valueOf_6 rfl (fun c2 => ?_) (fun c2 => ?_)
  · have h := h.1 c2
    refine eg_aload_n 0 dX11_valueOf_17 rfl rfl ?_
    refine eg_getR dX11_valueOf_18 fl_11_54 rfl rfl (obM_60 z1) ?_
    show eg_W κ gM mtX11_valueOf d (eQL κ gM post) 21 [(0, vR (60, 0)), (1, vI l1)] [vR (99, 0)] M
    refine eg_iload_n 1 dX11_valueOf_21 rfl rfl ?_
    refine eg_iaload dX11_valueOf_22 (arM_99 z1 g1) ?_
    refine eg_iconst dX11_valueOf_23 ic_1 ?_
    refine eg_icmp_ne (tgt := 39) dX11_valueOf_24 rfl (fun c3 => ?_) (fun c3 => ?_)
    · have h := h.1 c3
      refine eg_aload_n 0 dX11_valueOf_39 rfl rfl ?_
      refine eg_getR dX11_valueOf_40 fl_11_88 rfl rfl (obM_60 z1) ?_
      show eg_W κ gM mtX11_valueOf d (eQL κ gM post) 43 [(0, vR (60, 0)), (1, vI l1)] [vR (128, 0)] M
      refine eg_aload_n 0 dX11_valueOf_43 rfl rfl ?_
      refine eg_getR dX11_valueOf_44 fl_11_57 rfl rfl (obM_60 z1) ?_
      show eg_W κ gM mtX11_valueOf d (eQL κ gM post) 47 [(0, vR (60, 0)), (1, vI l1)] [vR (100, 0), vR (128, 0)] M
      refine eg_iload_n 1 dX11_valueOf_47 rfl rfl ?_
      refine eg_iaload dX11_valueOf_48 (arM_100 z1 g1) ?_
      obtain ⟨g4, h⟩ := h
      refine eg_laload dX11_valueOf_49 (arM_128 z1 g4) ?_
      refine en_lstore_n (f := fun x5 => [(2, vL x5), (0, vR (60, 0)), (1, vI l1)]) dX11_valueOf_50 rfl (by decide) rfl (fun x5 ex5 => ?_)
      have h := h x5 ex5
      refine eg_aload_n 1 dX11_valueOf_51 rfl rfl ?_
      refine eg_getR dX11_valueOf_52 fl_11_54 rfl rfl (obM_60 z1) ?_
      show eg_W κ gM mtX11_valueOf d (eQL κ gM post) 55 [(2, vL x5), (0, vR (60, 0)), (1, vI l1)] [vR (99, 0)] M
      refine eg_iload_n 2 dX11_valueOf_55 rfl rfl ?_
      refine eg_iaload dX11_valueOf_56 (arM_99 z1 g1) ?_
      refine eg_iconst dX11_valueOf_57 ic_2 ?_
      refine eg_icmp_ne (tgt := 73) dX11_valueOf_58 rfl (fun c6 => ?_) (fun c6 => ?_)
      · have h := h.1 c6
        refine eg_aload_n 1 dX11_valueOf_73 rfl rfl ?_
        refine eg_getR dX11_valueOf_74 fl_11_88 rfl rfl (obM_60 z1) ?_
        show eg_W κ gM mtX11_valueOf d (eQL κ gM post) 77 [(2, vL x5), (0, vR (60, 0)), (1, vI l1)] [vR (128, 0)] M
        refine eg_aload_n 1 dX11_valueOf_77 rfl rfl ?_
        refine eg_getR dX11_valueOf_78 fl_11_60 rfl rfl (obM_60 z1) ?_
        show eg_W κ gM mtX11_valueOf d (eQL κ gM post) 81 [(2, vL x5), (0, vR (60, 0)), (1, vI l1)] [vR (101, 0), vR (128, 0)] M
        refine eg_iload_n 2 dX11_valueOf_81 rfl rfl ?_
        refine eg_iaload dX11_valueOf_82 (arM_101 z1 g1) ?_
        obtain ⟨g7, h⟩ := h
        refine eg_laload dX11_valueOf_83 (arM_128 z1 g7) ?_
        refine en_lstore (f := fun x8 => [(4, vL x8), (2, vL x5), (0, vR (60, 0)), (1, vI l1)]) dX11_valueOf_84 (by decide) rfl (fun x8 ex8 => ?_)
        have h := h x8 ex8
        refine eg_aload_n 2 dX11_valueOf_86 rfl rfl ?_
        refine eg_getR dX11_valueOf_87 fl_11_54 rfl rfl (obM_60 z1) ?_
        show eg_W κ gM mtX11_valueOf d (eQL κ gM post) 90 [(4, vL x8), (2, vL x5), (0, vR (60, 0)), (1, vI l1)] [vR (99, 0)] M
        refine eg_iload_n 3 dX11_valueOf_90 rfl rfl ?_
        refine eg_iaload dX11_valueOf_91 (arM_99 z1 g1) ?_
        have J : (¬ (M.1 (99, 0) l1.toNatClampNeg) = (3 : Int32)) → (¬ (M.1 (99, 0) l1.toNatClampNeg) = (4 : Int32)) → (¬ (M.1 (99, 0) l1.toNatClampNeg) = (11 : Int32)) → (¬ (M.1 (99, 0) l1.toNatClampNeg) = (12 : Int32)) → (¬ (M.1 (99, 0) l1.toNatClampNeg) = (13 : Int32)) → (¬ (M.1 (99, 0) l1.toNatClampNeg) = (14 : Int32)) → eg_W κ gM mtX11_valueOf d (eQL κ gM post) 259 [(4, vL x8), (2, vL x5), (0, vR (60, 0)), (1, vI l1)] [] M := by
          intro c0_ c1_ c8_ c9_ c10_ c11_
          have h := h.1 c0_ c1_ c8_ c9_ c10_ c11_
          refine eg_sub [2, 3, 1, 0] rfl ?_
          exact h
        by_cases c0_ : (M.1 (99, 0) l1.toNatClampNeg) = (3 : Int32)
        · refine eg_tabI (tgt := 156) dX11_valueOf_92 (by rw [c0_]; decide) (by rw [c0_]; decide) (off := 64) (by rw [c0_]; rfl) rfl ?_
          have h := h.2.1 c0_
          refine eg_lload_n 1 dX11_valueOf_156 rfl rfl ?_
          refine eg_lconst dX11_valueOf_157 lc_0 ?_
          refine eg_lcmp dX11_valueOf_158 ?_
          have J : ∀ x9 : Int64, x9 = (if (lg_cmp x5 (0 : Int64)) = 0 then (0 : Int64) else (if (lg_cmp x8 (0 : Int64)) = 0 then (0 : Int64) else (1 : Int64))) → eg_W κ gM mtX11_valueOf d (eQL κ gM post) 174 [(4, vL x8), (2, vL x5), (0, vR (60, 0)), (1, vI l1)] [vL x9] M := by
            intro x9 ex9
            have h := h x9 ex9
            exact eg_lreturn dX11_valueOf_174 rfl h
          clear h
          refine eg_if_eq (tgt := 173) dX11_valueOf_159 rfl (fun c10 => ?_) (fun c10 => ?_)
          · refine eg_lconst dX11_valueOf_173 lc_0 ?_
            exact J _ (by rw [if_pos c10])
          · refine eg_lload 0 dX11_valueOf_162 rfl ?_
            refine eg_lconst dX11_valueOf_164 lc_0 ?_
            refine eg_lcmp dX11_valueOf_165 ?_
            refine eg_if_eq (tgt := 173) dX11_valueOf_166 rfl (fun c11 => ?_) (fun c11 => ?_)
            · refine eg_lconst dX11_valueOf_173 lc_0 ?_
              exact J _ (by rw [if_neg c10, if_pos c11])
            · refine eg_lconst dX11_valueOf_169 lc_1 ?_
              refine eg_goto (tgt := 174) dX11_valueOf_170 rfl ?_
              exact J _ (by rw [if_neg c10, if_neg c11])
        by_cases c1_ : (M.1 (99, 0) l1.toNatClampNeg) = (4 : Int32)
        · refine eg_tabI (tgt := 175) dX11_valueOf_92 (by rw [c1_]; decide) (by rw [c1_]; decide) (off := 83) (by rw [c1_]; rfl) rfl ?_
          have h := h.2.2.1 c1_
          refine eg_lload_n 1 dX11_valueOf_175 rfl rfl ?_
          refine eg_lconst dX11_valueOf_176 lc_0 ?_
          refine eg_lcmp dX11_valueOf_177 ?_
          have J : ∀ x12 : Int64, x12 = (if (¬ (lg_cmp x5 (0 : Int64)) = 0) then (1 : Int64) else (if (lg_cmp x8 (0 : Int64)) = 0 then (0 : Int64) else (1 : Int64))) → eg_W κ gM mtX11_valueOf d (eQL κ gM post) 193 [(4, vL x8), (2, vL x5), (0, vR (60, 0)), (1, vI l1)] [vL x12] M := by
            intro x12 ex12
            have h := h x12 ex12
            exact eg_lreturn dX11_valueOf_193 rfl h
          clear h
          refine eg_if_ne (tgt := 188) dX11_valueOf_178 rfl (fun c13 => ?_) (fun c13 => ?_)
          · refine eg_lconst dX11_valueOf_188 lc_1 ?_
            refine eg_goto (tgt := 193) dX11_valueOf_189 rfl ?_
            exact J _ (by rw [if_pos c13])
          · have c14 : ¬ (¬ (lg_cmp x5 (0 : Int64)) = 0) := fun z => z c13
            refine eg_lload 0 dX11_valueOf_181 rfl ?_
            refine eg_lconst dX11_valueOf_183 lc_0 ?_
            refine eg_lcmp dX11_valueOf_184 ?_
            refine eg_if_eq (tgt := 192) dX11_valueOf_185 rfl (fun c15 => ?_) (fun c15 => ?_)
            · refine eg_lconst dX11_valueOf_192 lc_0 ?_
              exact J _ (by rw [if_neg c14, if_pos c15])
            · refine eg_lconst dX11_valueOf_188 lc_1 ?_
              refine eg_goto (tgt := 193) dX11_valueOf_189 rfl ?_
              exact J _ (by rw [if_neg c14, if_neg c15])
        by_cases c2_ : (M.1 (99, 0) l1.toNatClampNeg) = (5 : Int32)
        · refine eg_tabI (tgt := 259) dX11_valueOf_92 (by rw [c2_]; decide) (by rw [c2_]; decide) (off := 167) (by rw [c2_]; rfl) rfl ?_
          exact J (by rw [c2_]; decide) (by rw [c2_]; decide) (by rw [c2_]; decide) (by rw [c2_]; decide) (by rw [c2_]; decide) (by rw [c2_]; decide)
        by_cases c3_ : (M.1 (99, 0) l1.toNatClampNeg) = (6 : Int32)
        · refine eg_tabI (tgt := 259) dX11_valueOf_92 (by rw [c3_]; decide) (by rw [c3_]; decide) (off := 167) (by rw [c3_]; rfl) rfl ?_
          exact J (by rw [c3_]; decide) (by rw [c3_]; decide) (by rw [c3_]; decide) (by rw [c3_]; decide) (by rw [c3_]; decide) (by rw [c3_]; decide)
        by_cases c4_ : (M.1 (99, 0) l1.toNatClampNeg) = (7 : Int32)
        · refine eg_tabI (tgt := 259) dX11_valueOf_92 (by rw [c4_]; decide) (by rw [c4_]; decide) (off := 167) (by rw [c4_]; rfl) rfl ?_
          exact J (by rw [c4_]; decide) (by rw [c4_]; decide) (by rw [c4_]; decide) (by rw [c4_]; decide) (by rw [c4_]; decide) (by rw [c4_]; decide)
        by_cases c5_ : (M.1 (99, 0) l1.toNatClampNeg) = (8 : Int32)
        · refine eg_tabI (tgt := 259) dX11_valueOf_92 (by rw [c5_]; decide) (by rw [c5_]; decide) (off := 167) (by rw [c5_]; rfl) rfl ?_
          exact J (by rw [c5_]; decide) (by rw [c5_]; decide) (by rw [c5_]; decide) (by rw [c5_]; decide) (by rw [c5_]; decide) (by rw [c5_]; decide)
        by_cases c6_ : (M.1 (99, 0) l1.toNatClampNeg) = (9 : Int32)
        · refine eg_tabI (tgt := 259) dX11_valueOf_92 (by rw [c6_]; decide) (by rw [c6_]; decide) (off := 167) (by rw [c6_]; rfl) rfl ?_
          exact J (by rw [c6_]; decide) (by rw [c6_]; decide) (by rw [c6_]; decide) (by rw [c6_]; decide) (by rw [c6_]; decide) (by rw [c6_]; decide)
        by_cases c7_ : (M.1 (99, 0) l1.toNatClampNeg) = (10 : Int32)
        · refine eg_tabI (tgt := 259) dX11_valueOf_92 (by rw [c7_]; decide) (by rw [c7_]; decide) (off := 167) (by rw [c7_]; rfl) rfl ?_
          exact J (by rw [c7_]; decide) (by rw [c7_]; decide) (by rw [c7_]; decide) (by rw [c7_]; decide) (by rw [c7_]; decide) (by rw [c7_]; decide)
        by_cases c8_ : (M.1 (99, 0) l1.toNatClampNeg) = (11 : Int32)
        · refine eg_tabI (tgt := 194) dX11_valueOf_92 (by rw [c8_]; decide) (by rw [c8_]; decide) (off := 102) (by rw [c8_]; rfl) rfl ?_
          have h := h.2.2.2.1 c8_
          refine eg_aload_n 2 dX11_valueOf_194 rfl rfl ?_
          refine eg_lload_n 1 dX11_valueOf_195 rfl rfl ?_
          refine eg_lload 0 dX11_valueOf_196 rfl ?_
          refine eg_ladd dX11_valueOf_198 ?_
          obtain ⟨q18, hq18, h⟩ := h
          refine eg_callVL (av := [vL (x5 + x8)]) (st := []) dX11_valueOf_199 ml_11_390 rfl rfl (obM_60 z1) (by decide) rfl (Nat.le_of_ble_eq_true rfl) (eg_dd hd) hq18 (fun x16 M17 hp => ?_)
          have h := h x16 M17 hp
          exact eg_lreturn dX11_valueOf_202 rfl h
        by_cases c9_ : (M.1 (99, 0) l1.toNatClampNeg) = (12 : Int32)
        · refine eg_tabI (tgt := 203) dX11_valueOf_92 (by rw [c9_]; decide) (by rw [c9_]; decide) (off := 111) (by rw [c9_]; rfl) rfl ?_
          have h := h.2.2.2.2.1 c9_
          refine eg_aload_n 2 dX11_valueOf_203 rfl rfl ?_
          refine eg_lload_n 1 dX11_valueOf_204 rfl rfl ?_
          refine eg_lload 0 dX11_valueOf_205 rfl ?_
          refine eg_lsub dX11_valueOf_207 ?_
          obtain ⟨q21, hq21, h⟩ := h
          refine eg_callVL (av := [vL (x5 - x8)]) (st := []) dX11_valueOf_208 ml_11_390 rfl rfl (obM_60 z1) (by decide) rfl (Nat.le_of_ble_eq_true rfl) (eg_dd hd) hq21 (fun x19 M20 hp => ?_)
          have h := h x19 M20 hp
          exact eg_lreturn dX11_valueOf_211 rfl h
        by_cases c10_ : (M.1 (99, 0) l1.toNatClampNeg) = (13 : Int32)
        · refine eg_tabI (tgt := 212) dX11_valueOf_92 (by rw [c10_]; decide) (by rw [c10_]; decide) (off := 120) (by rw [c10_]; rfl) rfl ?_
          have h := h.2.2.2.2.2.1 c10_
          refine eg_aload_n 2 dX11_valueOf_212 rfl rfl ?_
          refine eg_lload_n 1 dX11_valueOf_213 rfl rfl ?_
          refine eg_lload 0 dX11_valueOf_214 rfl ?_
          obtain ⟨q24, hq24, h⟩ := h
          refine eg_callVL (av := [vL x5, vL x8]) (st := []) dX11_valueOf_216 ml_11_394 rfl rfl (obM_60 z1) (by decide) rfl (Nat.le_of_ble_eq_true rfl) (eg_dd hd) hq24 (fun x22 M23 hp => ?_)
          have h := h x22 M23 hp
          exact eg_lreturn dX11_valueOf_219 rfl h
        by_cases c11_ : (M.1 (99, 0) l1.toNatClampNeg) = (14 : Int32)
        · refine eg_tabI (tgt := 220) dX11_valueOf_92 (by rw [c11_]; decide) (by rw [c11_]; decide) (off := 128) (by rw [c11_]; rfl) rfl ?_
          have h := h.2.2.2.2.2.2 c11_
          refine eg_aload_n 2 dX11_valueOf_220 rfl rfl ?_
          refine eg_aload_n 2 dX11_valueOf_221 rfl rfl ?_
          refine eg_getI dX11_valueOf_222 fl_11_383 rfl trivial (obM_60 z1) ?_
          have J : ∀ x25 : Int32, x25 = (if (¬ (M.1 (60, 0) 68) = 0) then (1 : Int32) else (if (¬ (lg_cmp x8 (0 : Int64)) = 0) then (0 : Int32) else (1 : Int32))) → eg_W κ gM mtX11_valueOf d (eQL κ gM post) 240 [(4, vL x8), (2, vL x5), (0, vR (60, 0)), (1, vI l1)] [vI x25, vR (60, 0)] M := by
            intro x25 ex25
            have h := h x25 ex25
            obtain ⟨g27, h⟩ := h
            refine en_putZ dX11_valueOf_240 fl_11_383 rfl rfl g27 (obM_60 z1) (fun M26 eM26 => ?_)
            have h := h M26 eM26
            refine eg_aload_n 2 dX11_valueOf_243 rfl rfl ?_
            refine eg_getI dX11_valueOf_244 fl_11_383 rfl trivial (obM_60 z1) ?_
            refine eg_if_eq (tgt := 254) dX11_valueOf_247 rfl (fun c28 => ?_) (fun c28 => ?_)
            · have h := h.1 c28
              refine eg_lload_n 1 dX11_valueOf_254 rfl rfl ?_
              refine eg_lload 0 dX11_valueOf_255 rfl ?_
              obtain ⟨g29, h⟩ := h
              refine eg_ldiv dX11_valueOf_257 g29 ?_
              exact eg_lreturn dX11_valueOf_258 rfl h
            · have h := h.2 c28
              refine eg_lconst dX11_valueOf_250 lc_0 ?_
              refine eg_goto (tgt := 258) dX11_valueOf_251 rfl ?_
              exact eg_lreturn dX11_valueOf_258 rfl h
          clear h
          refine eg_if_ne (tgt := 235) dX11_valueOf_225 rfl (fun c30 => ?_) (fun c30 => ?_)
          · refine eg_iconst dX11_valueOf_235 ic_1 ?_
            refine eg_goto (tgt := 240) dX11_valueOf_236 rfl ?_
            exact J _ (by rw [if_pos c30])
          · have c31 : ¬ (¬ (M.1 (60, 0) 68) = 0) := fun z => z c30
            refine eg_lload 0 dX11_valueOf_228 rfl ?_
            refine eg_lconst dX11_valueOf_230 lc_0 ?_
            refine eg_lcmp dX11_valueOf_231 ?_
            refine eg_if_ne (tgt := 239) dX11_valueOf_232 rfl (fun c32 => ?_) (fun c32 => ?_)
            · refine eg_iconst dX11_valueOf_239 ic_0 ?_
              exact J _ (by rw [if_neg c31, if_pos c32])
            · have c33 : ¬ (¬ (lg_cmp x8 (0 : Int64)) = 0) := fun z => z c32
              refine eg_iconst dX11_valueOf_235 ic_1 ?_
              refine eg_goto (tgt := 240) dX11_valueOf_236 rfl ?_
              exact J _ (by rw [if_neg c31, if_neg c33])
        refine eg_tabO (tgt := 259) dX11_valueOf_92 ?_ rfl (J c0_ c1_ c8_ c9_ c10_ c11_)
        have t0_ := eg_ti 3 (by decide) c0_
        have t1_ := eg_ti 4 (by decide) c1_
        have t2_ := eg_ti 5 (by decide) c2_
        have t3_ := eg_ti 6 (by decide) c3_
        have t4_ := eg_ti 7 (by decide) c4_
        have t5_ := eg_ti 8 (by decide) c5_
        have t6_ := eg_ti 9 (by decide) c6_
        have t7_ := eg_ti 10 (by decide) c7_
        have t8_ := eg_ti 11 (by decide) c8_
        have t9_ := eg_ti 12 (by decide) c9_
        have t10_ := eg_ti 13 (by decide) c10_
        have t11_ := eg_ti 14 (by decide) c11_
        omega
      · have h := h.2 c6
        refine eg_lload_n 0 dX11_valueOf_61 rfl rfl ?_
        refine eg_lconst dX11_valueOf_62 lc_0 ?_
        refine eg_lcmp dX11_valueOf_63 ?_
        have J : ∀ x34 : Int64, x34 = (if (¬ (lg_cmp x5 (0 : Int64)) = 0) then (0 : Int64) else (1 : Int64)) → eg_W κ gM mtX11_valueOf d (eQL κ gM post) 72 [(2, vL x5), (0, vR (60, 0)), (1, vI l1)] [vL x34] M := by
          intro x34 ex34
          have h := h x34 ex34
          exact eg_lreturn dX11_valueOf_72 rfl h
        clear h
        refine eg_if_ne (tgt := 71) dX11_valueOf_64 rfl (fun c35 => ?_) (fun c35 => ?_)
        · refine eg_lconst dX11_valueOf_71 lc_0 ?_
          exact J _ (by rw [if_pos c35])
        · have c36 : ¬ (¬ (lg_cmp x5 (0 : Int64)) = 0) := fun z => z c35
          refine eg_lconst dX11_valueOf_67 lc_1 ?_
          refine eg_goto (tgt := 72) dX11_valueOf_68 rfl ?_
          exact J _ (by rw [if_neg c36])
    · have h := h.2 c3
      refine eg_aload_n 0 dX11_valueOf_27 rfl rfl ?_
      refine eg_getR dX11_valueOf_28 fl_11_84 rfl rfl (obM_60 z1) ?_
      show eg_W κ gM mtX11_valueOf d (eQL κ gM post) 31 [(0, vR (60, 0)), (1, vI l1)] [vR (127, 0)] M
      refine eg_aload_n 0 dX11_valueOf_31 rfl rfl ?_
      refine eg_getR dX11_valueOf_32 fl_11_57 rfl rfl (obM_60 z1) ?_
      show eg_W κ gM mtX11_valueOf d (eQL κ gM post) 35 [(0, vR (60, 0)), (1, vI l1)] [vR (100, 0), vR (127, 0)] M
      refine eg_iload_n 1 dX11_valueOf_35 rfl rfl ?_
      refine eg_iaload dX11_valueOf_36 (arM_100 z1 g1) ?_
      obtain ⟨g37, h⟩ := h
      refine eg_laload dX11_valueOf_37 (arM_127 z1 g37) ?_
      exact eg_lreturn dX11_valueOf_38 rfl h
  · have h := h.2 c2
    refine eg_aload_n 0 dX11_valueOf_9 rfl rfl ?_
    refine eg_getR dX11_valueOf_10 fl_11_57 rfl rfl (obM_60 z1) ?_
    show eg_W κ gM mtX11_valueOf d (eQL κ gM post) 13 [(0, vR (60, 0)), (1, vI l1)] [vR (100, 0)] M
    refine eg_iload_n 1 dX11_valueOf_13 rfl rfl ?_
    refine eg_iaload dX11_valueOf_14 (arM_100 z1 g1) ?_
    refine eg_i2l dX11_valueOf_15 ?_
    exact eg_lreturn dX11_valueOf_16 rfl h
set_option maxRecDepth 10000 in
theorem vX11_valueOf_259 {κ : eg_K} {d : Nat} (hd : 1 ≤ d) {post : Int64 → eg_H → Prop} (M : eg_H) (l1 : Int32) (l2 : Int64) (l4 : Int64) (h : (vp_in l1 128 ∧ eCI κ gM mtX11_compares d [vI (M.1 (99, 0) l1.toNatClampNeg), vL l2, vL l4] M (fun x2 M3 => (∀ x5 : Int64, x5 = ((if x2 = 0 then (0 : Int64) else (1 : Int64))) → post x5 M3)))) : eg_W κ gM mtX11_valueOf d (eQL κ gM post) 259 [(0, vR (60, 0)), (1, vI l1), (2, vL l2), (4, vL l4)] [] M := by
  refine eg_aload_n 0 dX11_valueOf_259 rfl rfl ?_
  refine eg_getR dX11_valueOf_260 fl_11_54 rfl rfl (obM_60 z1) ?_
  show eg_W κ gM mtX11_valueOf d (eQL κ gM post) 263 [(0, vR (60, 0)), (1, vI l1), (2, vL l2), (4, vL l4)] [vR (99, 0)] M
  refine eg_iload_n 1 dX11_valueOf_263 rfl rfl ?_
  obtain ⟨g1, h⟩ := h
  refine eg_iaload dX11_valueOf_264 (arM_99 z1 g1) ?_
  refine eg_lload_n 2 dX11_valueOf_265 rfl rfl ?_
  refine eg_lload 3 dX11_valueOf_266 rfl ?_
  obtain ⟨q4, hq4, h⟩ := h
  refine eg_callSI (av := [vI (M.1 (99, 0) l1.toNatClampNeg), vL l2, vL l4]) (st := []) dX11_valueOf_268 ml_11_398 rfl rfl (Nat.le_of_ble_eq_true rfl) (eg_dd hd) hq4 (fun x2 M3 hp => ?_)
  have h := h x2 M3 hp
  have J : ∀ x5 : Int64, x5 = (if x2 = 0 then (0 : Int64) else (1 : Int64)) → eg_W κ gM mtX11_valueOf d (eQL κ gM post) 279 [(0, vR (60, 0)), (1, vI l1), (2, vL l2), (4, vL l4)] [vL x5] M3 := by
    intro x5 ex5
    have h := h x5 ex5
    exact eg_lreturn dX11_valueOf_279 rfl h
  clear h
  refine eg_if_eq (tgt := 278) dX11_valueOf_271 rfl (fun c6 => ?_) (fun c6 => ?_)
  · refine eg_lconst dX11_valueOf_278 lc_0 ?_
    exact J _ (by rw [if_pos c6])
  · refine eg_lconst dX11_valueOf_274 lc_1 ?_
    refine eg_goto (tgt := 279) dX11_valueOf_275 rfl ?_
    exact J _ (by rw [if_neg c6])
theorem dX11_sumOf_0 : decode cX11_sumOf 0 = .ok (.aload_n 0, 1) := by decide +kernel
theorem dX11_sumOf_1 : decode cX11_sumOf 1 = .ok (.iconst 0, 1) := by decide +kernel
theorem dX11_sumOf_2 : decode cX11_sumOf 2 = .ok (.putfield 383, 3) := by decide +kernel
theorem dX11_sumOf_5 : decode cX11_sumOf 5 = .ok (.aload_n 0, 1) := by decide +kernel
theorem dX11_sumOf_6 : decode cX11_sumOf 6 = .ok (.getfield 44, 3) := by decide +kernel
theorem dX11_sumOf_9 : decode cX11_sumOf 9 = .ok (.iload_n 1, 1) := by decide +kernel
theorem dX11_sumOf_10 : decode cX11_sumOf 10 = .ok (.iaload, 1) := by decide +kernel
theorem dX11_sumOf_11 : decode cX11_sumOf 11 = .ok (.istore_n 2, 1) := by decide +kernel
theorem dX11_sumOf_12 : decode cX11_sumOf 12 = .ok (.iload_n 2, 1) := by decide +kernel
theorem dX11_sumOf_13 : decode cX11_sumOf 13 = .ok (.aload_n 0, 1) := by decide +kernel
theorem dX11_sumOf_14 : decode cX11_sumOf 14 = .ok (.getfield 47, 3) := by decide +kernel
theorem dX11_sumOf_17 : decode cX11_sumOf 17 = .ok (.iload_n 1, 1) := by decide +kernel
theorem dX11_sumOf_18 : decode cX11_sumOf 18 = .ok (.iaload, 1) := by decide +kernel
theorem dX11_sumOf_19 : decode cX11_sumOf 19 = .ok (.if_icmp .ge 20, 3) := by decide +kernel
theorem dX11_sumOf_22 : decode cX11_sumOf 22 = .ok (.aload_n 0, 1) := by decide +kernel
theorem dX11_sumOf_23 : decode cX11_sumOf 23 = .ok (.getfield 88, 3) := by decide +kernel
theorem dX11_sumOf_26 : decode cX11_sumOf 26 = .ok (.iload_n 2, 1) := by decide +kernel
theorem dX11_sumOf_27 : decode cX11_sumOf 27 = .ok (.aload_n 0, 1) := by decide +kernel
theorem dX11_sumOf_28 : decode cX11_sumOf 28 = .ok (.iload_n 2, 1) := by decide +kernel
theorem dX11_sumOf_29 : decode cX11_sumOf 29 = .ok (.invokevirtual 402, 3) := by decide +kernel
theorem dX11_sumOf_32 : decode cX11_sumOf 32 = .ok (.lastore, 1) := by decide +kernel
theorem dX11_sumOf_33 : decode cX11_sumOf 33 = .ok (.iinc 2 1, 3) := by decide +kernel
theorem dX11_sumOf_36 : decode cX11_sumOf 36 = .ok (.goto (-24), 3) := by decide +kernel
theorem dX11_sumOf_39 : decode cX11_sumOf 39 = .ok (.aload_n 0, 1) := by decide +kernel
theorem dX11_sumOf_40 : decode cX11_sumOf 40 = .ok (.getfield 383, 3) := by decide +kernel
theorem dX11_sumOf_43 : decode cX11_sumOf 43 = .ok (.ifCond .eq 7, 3) := by decide +kernel
theorem dX11_sumOf_46 : decode cX11_sumOf 46 = .ok (.lconst 0, 1) := by decide +kernel
theorem dX11_sumOf_47 : decode cX11_sumOf 47 = .ok (.goto 16, 3) := by decide +kernel
theorem dX11_sumOf_50 : decode cX11_sumOf 50 = .ok (.aload_n 0, 1) := by decide +kernel
theorem dX11_sumOf_51 : decode cX11_sumOf 51 = .ok (.getfield 88, 3) := by decide +kernel
theorem dX11_sumOf_54 : decode cX11_sumOf 54 = .ok (.aload_n 0, 1) := by decide +kernel
theorem dX11_sumOf_55 : decode cX11_sumOf 55 = .ok (.getfield 47, 3) := by decide +kernel
theorem dX11_sumOf_58 : decode cX11_sumOf 58 = .ok (.iload_n 1, 1) := by decide +kernel
theorem dX11_sumOf_59 : decode cX11_sumOf 59 = .ok (.iaload, 1) := by decide +kernel
theorem dX11_sumOf_60 : decode cX11_sumOf 60 = .ok (.iconst 1, 1) := by decide +kernel
theorem dX11_sumOf_61 : decode cX11_sumOf 61 = .ok (.isub, 1) := by decide +kernel
theorem dX11_sumOf_62 : decode cX11_sumOf 62 = .ok (.laload, 1) := by decide +kernel
theorem dX11_sumOf_63 : decode cX11_sumOf 63 = .ok (.lreturn, 1) := by decide +kernel
set_option maxRecDepth 10000 in
theorem vX11_sumOf_0 {κ : eg_K} {d : Nat} {post : Int64 → eg_H → Prop} (M : eg_H) (l1 : Int32) (h : (∀ M1 : eg_H, M1 = (sI M (60, 0) 68 (0 : Int32)) → (vp_in l1 14 ∧ (∀ x3 : Int32, x3 = (M1.1 (96, 0) l1.toNatClampNeg) → eg_W κ gM mtX11_sumOf d (eQL κ gM post) 12 [(0, vR (60, 0)), (1, vI l1), (2, vI x3)] [] M1)))) : eg_W κ gM mtX11_sumOf d (eQL κ gM post) 0 [(0, vR (60, 0)), (1, vI l1)] [] M := by
  refine eg_aload_n 0 dX11_sumOf_0 rfl rfl ?_
  refine eg_iconst dX11_sumOf_1 ic_0 ?_
  refine en_putZ dX11_sumOf_2 fl_11_383 rfl rfl (Or.inl rfl) (obM_60 z1) (fun M1 eM1 => ?_)
  have h := h M1 eM1
  refine eg_aload_n 0 dX11_sumOf_5 rfl rfl ?_
  refine eg_getR dX11_sumOf_6 fl_11_44 rfl rfl (obM_60 z1) ?_
  show eg_W κ gM mtX11_sumOf d (eQL κ gM post) 9 [(0, vR (60, 0)), (1, vI l1)] [vR (96, 0)] M1
  refine eg_iload_n 1 dX11_sumOf_9 rfl rfl ?_
  obtain ⟨g2, h⟩ := h
  refine eg_iaload dX11_sumOf_10 (arM_96 z1 g2) ?_
  refine en_istore_n (f := fun x3 => [(2, vI x3), (0, vR (60, 0)), (1, vI l1)]) dX11_sumOf_11 rfl (by decide) rfl (fun x3 ex3 => ?_)
  have h := h x3 ex3
  refine eg_sub [1, 2, 0] rfl ?_
  exact h
set_option maxRecDepth 10000 in
theorem vX11_sumOf_12 {κ : eg_K} {d : Nat} (hd : 1 ≤ d) {post : Int64 → eg_H → Prop} (M : eg_H) (l1 : Int32) (l2 : Int32) (h : (vp_in l1 14 ∧ ((M.1 (97, 0) l1.toNatClampNeg) ≤ l2 → (((M.1 (60, 0) 68) = 0 → vp_in ((M.1 (97, 0) l1.toNatClampNeg) - (1 : Int32)) 64) ∧ (∀ x4 : Int64, x4 = ((if (M.1 (60, 0) 68) = 0 then (M.2.1 (128, 0) ((M.1 (97, 0) l1.toNatClampNeg) - (1 : Int32)).toNatClampNeg) else (0 : Int64))) → post x4 M))) ∧ ((¬ (M.1 (97, 0) l1.toNatClampNeg) ≤ l2) → eCL κ gM mtX11_valueOf d [vR (60, 0), vI l2] M (fun x6 M7 => (vp_in l2 64 ∧ (∀ M10 : eg_H, M10 = (sL M7 (128, 0) l2.toNatClampNeg x6) → (∀ x11 : Int32, x11 = (l2 + (1 : Int32)) → eg_W κ gM mtX11_sumOf d (eQL κ gM post) 12 [(0, vR (60, 0)), (1, vI l1), (2, vI x11)] [] M10))))))) : eg_W κ gM mtX11_sumOf d (eQL κ gM post) 12 [(0, vR (60, 0)), (1, vI l1), (2, vI l2)] [] M := by
  refine eg_iload_n 2 dX11_sumOf_12 rfl rfl ?_
  refine eg_aload_n 0 dX11_sumOf_13 rfl rfl ?_
  refine eg_getR dX11_sumOf_14 fl_11_47 rfl rfl (obM_60 z1) ?_
  show eg_W κ gM mtX11_sumOf d (eQL κ gM post) 17 [(0, vR (60, 0)), (1, vI l1), (2, vI l2)] [vR (97, 0), vI l2] M
  refine eg_iload_n 1 dX11_sumOf_17 rfl rfl ?_
  obtain ⟨g1, h⟩ := h
  refine eg_iaload dX11_sumOf_18 (arM_97 z1 g1) ?_
  refine eg_icmp_ge (tgt := 39) dX11_sumOf_19 rfl (fun c2 => ?_) (fun c2 => ?_)
  · have h := h.1 c2
    refine eg_aload_n 0 dX11_sumOf_39 rfl rfl ?_
    refine eg_getI dX11_sumOf_40 fl_11_383 rfl trivial (obM_60 z1) ?_
    obtain ⟨g3, h⟩ := h
    have J : ∀ x4 : Int64, x4 = (if (M.1 (60, 0) 68) = 0 then (M.2.1 (128, 0) ((M.1 (97, 0) l1.toNatClampNeg) - (1 : Int32)).toNatClampNeg) else (0 : Int64)) → eg_W κ gM mtX11_sumOf d (eQL κ gM post) 63 [(0, vR (60, 0)), (1, vI l1), (2, vI l2)] [vL x4] M := by
      intro x4 ex4
      have h := h x4 ex4
      exact eg_lreturn dX11_sumOf_63 rfl h
    clear h
    refine eg_if_eq (tgt := 50) dX11_sumOf_43 rfl (fun c5 => ?_) (fun c5 => ?_)
    · refine eg_aload_n 0 dX11_sumOf_50 rfl rfl ?_
      refine eg_getR dX11_sumOf_51 fl_11_88 rfl rfl (obM_60 z1) ?_
      show eg_W κ gM mtX11_sumOf d (eQL κ gM post) 54 [(0, vR (60, 0)), (1, vI l1), (2, vI l2)] [vR (128, 0)] M
      refine eg_aload_n 0 dX11_sumOf_54 rfl rfl ?_
      refine eg_getR dX11_sumOf_55 fl_11_47 rfl rfl (obM_60 z1) ?_
      show eg_W κ gM mtX11_sumOf d (eQL κ gM post) 58 [(0, vR (60, 0)), (1, vI l1), (2, vI l2)] [vR (97, 0), vR (128, 0)] M
      refine eg_iload_n 1 dX11_sumOf_58 rfl rfl ?_
      refine eg_iaload dX11_sumOf_59 (arM_97 z1 g1) ?_
      refine eg_iconst dX11_sumOf_60 ic_1 ?_
      refine eg_isub dX11_sumOf_61 ?_
      refine eg_laload dX11_sumOf_62 (arM_128 z1 (g3 c5)) ?_
      exact J _ (by rw [if_pos c5])
    · refine eg_lconst dX11_sumOf_46 lc_0 ?_
      refine eg_goto (tgt := 63) dX11_sumOf_47 rfl ?_
      exact J _ (by rw [if_neg c5])
  · have h := h.2 c2
    refine eg_aload_n 0 dX11_sumOf_22 rfl rfl ?_
    refine eg_getR dX11_sumOf_23 fl_11_88 rfl rfl (obM_60 z1) ?_
    show eg_W κ gM mtX11_sumOf d (eQL κ gM post) 26 [(0, vR (60, 0)), (1, vI l1), (2, vI l2)] [vR (128, 0)] M
    refine eg_iload_n 2 dX11_sumOf_26 rfl rfl ?_
    refine eg_aload_n 0 dX11_sumOf_27 rfl rfl ?_
    refine eg_iload_n 2 dX11_sumOf_28 rfl rfl ?_
    obtain ⟨q8, hq8, h⟩ := h
    refine eg_callVL (av := [vI l2]) (st := [vI l2, vR (128, 0)]) dX11_sumOf_29 ml_11_402 rfl rfl (obM_60 z1) (by decide) rfl (Nat.le_of_ble_eq_true rfl) (eg_dd hd) hq8 (fun x6 M7 hp => ?_)
    have h := h x6 M7 hp
    obtain ⟨g9, h⟩ := h
    refine en_lastore dX11_sumOf_32 (arM_128 z1 g9) (fun M10 eM10 => ?_)
    have h := h M10 eM10
    refine en_iinc (f := fun x11 => [(2, vI x11), (0, vR (60, 0)), (1, vI l1)]) 2 dX11_sumOf_33 rfl rfl (by decide) rfl (fun x11 ex11 => ?_)
    have h := h x11 ex11
    refine eg_goto (tgt := 12) dX11_sumOf_36 rfl ?_
    refine eg_sub [1, 2, 0] rfl ?_
    exact h
theorem dX11_lawOf_0 : decode cX11_lawOf 0 = .ok (.iload_n 1, 1) := by decide +kernel
theorem dX11_lawOf_1 : decode cX11_lawOf 1 = .ok (.aload_n 0, 1) := by decide +kernel
theorem dX11_lawOf_2 : decode cX11_lawOf 2 = .ok (.getfield 360, 3) := by decide +kernel
theorem dX11_lawOf_5 : decode cX11_lawOf 5 = .ok (.if_icmp .eq 14, 3) := by decide +kernel
theorem dX11_lawOf_8 : decode cX11_lawOf 8 = .ok (.aload_n 0, 1) := by decide +kernel
theorem dX11_lawOf_9 : decode cX11_lawOf 9 = .ok (.getfield 50, 3) := by decide +kernel
theorem dX11_lawOf_12 : decode cX11_lawOf 12 = .ok (.iload_n 1, 1) := by decide +kernel
theorem dX11_lawOf_13 : decode cX11_lawOf 13 = .ok (.baload, 1) := by decide +kernel
theorem dX11_lawOf_14 : decode cX11_lawOf 14 = .ok (.ifCond .ne 5, 3) := by decide +kernel
theorem dX11_lawOf_17 : decode cX11_lawOf 17 = .ok (.lload_n 2, 1) := by decide +kernel
theorem dX11_lawOf_18 : decode cX11_lawOf 18 = .ok (.lreturn, 1) := by decide +kernel
theorem dX11_lawOf_19 : decode cX11_lawOf 19 = .ok (.aload_n 0, 1) := by decide +kernel
theorem dX11_lawOf_20 : decode cX11_lawOf 20 = .ok (.iload_n 1, 1) := by decide +kernel
theorem dX11_lawOf_21 : decode cX11_lawOf 21 = .ok (.aload_n 0, 1) := by decide +kernel
theorem dX11_lawOf_22 : decode cX11_lawOf 22 = .ok (.getfield 360, 3) := by decide +kernel
theorem dX11_lawOf_25 : decode cX11_lawOf 25 = .ok (.if_icmp .ne 10, 3) := by decide +kernel
theorem dX11_lawOf_28 : decode cX11_lawOf 28 = .ok (.aload_n 0, 1) := by decide +kernel
theorem dX11_lawOf_29 : decode cX11_lawOf 29 = .ok (.getfield 406, 3) := by decide +kernel
theorem dX11_lawOf_32 : decode cX11_lawOf 32 = .ok (.goto 4, 3) := by decide +kernel
theorem dX11_lawOf_35 : decode cX11_lawOf 35 = .ok (.iload_n 1, 1) := by decide +kernel
theorem dX11_lawOf_36 : decode cX11_lawOf 36 = .ok (.invokevirtual 409, 3) := by decide +kernel
theorem dX11_lawOf_39 : decode cX11_lawOf 39 = .ok (.lstore 4, 2) := by decide +kernel
theorem dX11_lawOf_41 : decode cX11_lawOf 41 = .ok (.aload_n 0, 1) := by decide +kernel
theorem dX11_lawOf_42 : decode cX11_lawOf 42 = .ok (.getfield 383, 3) := by decide +kernel
theorem dX11_lawOf_45 : decode cX11_lawOf 45 = .ok (.ifCond .eq 7, 3) := by decide +kernel
theorem dX11_lawOf_48 : decode cX11_lawOf 48 = .ok (.lload_n 2, 1) := by decide +kernel
theorem dX11_lawOf_49 : decode cX11_lawOf 49 = .ok (.goto 5, 3) := by decide +kernel
theorem dX11_lawOf_52 : decode cX11_lawOf 52 = .ok (.lload 4, 2) := by decide +kernel
theorem dX11_lawOf_54 : decode cX11_lawOf 54 = .ok (.lreturn, 1) := by decide +kernel
set_option maxRecDepth 10000 in
theorem vX11_lawOf_0 {κ : eg_K} {d : Nat} {post : Int64 → eg_H → Prop} (M : eg_H) (l1 : Int32) (l2 : Int64) (h : (l1 = (M.1 (60, 0) 62) → eg_W κ gM mtX11_lawOf d (eQL κ gM post) 19 [(0, vR (60, 0)), (1, vI l1), (2, vL l2)] [] M) ∧ ((¬ l1 = (M.1 (60, 0) 62)) → (vp_in l1 6 ∧ ((¬ (M.1 (98, 0) l1.toNatClampNeg) = 0) → eg_W κ gM mtX11_lawOf d (eQL κ gM post) 19 [(0, vR (60, 0)), (1, vI l1), (2, vL l2)] [] M) ∧ ((M.1 (98, 0) l1.toNatClampNeg) = 0 → post l2 M)))) : eg_W κ gM mtX11_lawOf d (eQL κ gM post) 0 [(0, vR (60, 0)), (1, vI l1), (2, vL l2)] [] M := by
  refine eg_iload_n 1 dX11_lawOf_0 rfl rfl ?_
  refine eg_aload_n 0 dX11_lawOf_1 rfl rfl ?_
  refine eg_getI dX11_lawOf_2 fl_11_360 rfl trivial (obM_60 z1) ?_
  refine eg_icmp_eq (tgt := 19) dX11_lawOf_5 rfl (fun c1 => ?_) (fun c1 => ?_)
  · have h := h.1 c1
    exact h
  · have h := h.2 c1
    refine eg_aload_n 0 dX11_lawOf_8 rfl rfl ?_
    refine eg_getR dX11_lawOf_9 fl_11_50 rfl rfl (obM_60 z1) ?_
    show eg_W κ gM mtX11_lawOf d (eQL κ gM post) 12 [(0, vR (60, 0)), (1, vI l1), (2, vL l2)] [vR (98, 0)] M
    refine eg_iload_n 1 dX11_lawOf_12 rfl rfl ?_
    obtain ⟨g2, h⟩ := h
    refine eg_zaload dX11_lawOf_13 (arM_98 z1 g2) ?_
    refine eg_if_ne (tgt := 19) dX11_lawOf_14 rfl (fun c3 => ?_) (fun c3 => ?_)
    · have h := h.1 c3
      exact h
    · have h := h.2 c3
      refine eg_lload_n 2 dX11_lawOf_17 rfl rfl ?_
      exact eg_lreturn dX11_lawOf_18 rfl h
set_option maxRecDepth 10000 in
theorem vX11_lawOf_19 {κ : eg_K} {d : Nat} (hd : 1 ≤ d) {post : Int64 → eg_H → Prop} (M : eg_H) (l1 : Int32) (l2 : Int64) (h : (∀ x1 : Int32, x1 = ((if (¬ l1 = (M.1 (60, 0) 62)) then l1 else (M.1 (60, 0) 63))) → eCL κ gM mtX11_sumOf d [vR (60, 0), vI x1] M (fun x2 M3 => (∀ x5 : Int64, x5 = ((if (M3.1 (60, 0) 68) = 0 then x2 else l2)) → post x5 M3)))) : eg_W κ gM mtX11_lawOf d (eQL κ gM post) 19 [(0, vR (60, 0)), (1, vI l1), (2, vL l2)] [] M := by
  refine eg_aload_n 0 dX11_lawOf_19 rfl rfl ?_
  refine eg_iload_n 1 dX11_lawOf_20 rfl rfl ?_
  refine eg_aload_n 0 dX11_lawOf_21 rfl rfl ?_
  refine eg_getI dX11_lawOf_22 fl_11_360 rfl trivial (obM_60 z1) ?_
  have J : ∀ x1 : Int32, x1 = (if (¬ l1 = (M.1 (60, 0) 62)) then l1 else (M.1 (60, 0) 63)) → eg_W κ gM mtX11_lawOf d (eQL κ gM post) 36 [(0, vR (60, 0)), (1, vI l1), (2, vL l2)] [vI x1, vR (60, 0)] M := by
    intro x1 ex1
    have h := h x1 ex1
    obtain ⟨q4, hq4, h⟩ := h
    refine eg_callVL (av := [vI x1]) (st := []) dX11_lawOf_36 ml_11_409 rfl rfl (obM_60 z1) (by decide) rfl (Nat.le_of_ble_eq_true rfl) (eg_dd hd) hq4 (fun x2 M3 hp => ?_)
    have h := h x2 M3 hp
    refine eg_lstore dX11_lawOf_39 (by decide) (ls1 := [(4, vL x2), (0, vR (60, 0)), (1, vI l1), (2, vL l2)]) rfl ?_
    refine eg_aload_n 1 dX11_lawOf_41 rfl rfl ?_
    refine eg_getI dX11_lawOf_42 fl_11_383 rfl trivial (obM_60 z1) ?_
    have J : ∀ x5 : Int64, x5 = (if (M3.1 (60, 0) 68) = 0 then x2 else l2) → eg_W κ gM mtX11_lawOf d (eQL κ gM post) 54 [(4, vL x2), (0, vR (60, 0)), (1, vI l1), (2, vL l2)] [vL x5] M3 := by
      intro x5 ex5
      have h := h x5 ex5
      exact eg_lreturn dX11_lawOf_54 rfl h
    clear h
    refine eg_if_eq (tgt := 52) dX11_lawOf_45 rfl (fun c6 => ?_) (fun c6 => ?_)
    · refine eg_lload 0 dX11_lawOf_52 rfl ?_
      exact J _ (by rw [if_pos c6])
    · refine eg_lload_n 3 dX11_lawOf_48 rfl rfl ?_
      refine eg_goto (tgt := 54) dX11_lawOf_49 rfl ?_
      exact J _ (by rw [if_neg c6])
  clear h
  refine eg_icmp_ne (tgt := 35) dX11_lawOf_25 rfl (fun c7 => ?_) (fun c7 => ?_)
  · refine eg_iload_n 1 dX11_lawOf_35 rfl rfl ?_
    exact J _ (by rw [if_pos c7])
  · have c8 : ¬ (¬ l1 = (M.1 (60, 0) 62)) := fun z => z c7
    refine eg_aload_n 0 dX11_lawOf_28 rfl rfl ?_
    refine eg_getI dX11_lawOf_29 fl_11_406 rfl trivial (obM_60 z1) ?_
    refine eg_goto (tgt := 36) dX11_lawOf_32 rfl ?_
    exact J _ (by rw [if_neg c8])
theorem dX11_plateOf_0 : decode cX11_plateOf 0 = .ok (.aload_n 0, 1) := by decide +kernel
theorem dX11_plateOf_1 : decode cX11_plateOf 1 = .ok (.iload_n 1, 1) := by decide +kernel
theorem dX11_plateOf_2 : decode cX11_plateOf 2 = .ok (.invokevirtual 374, 3) := by decide +kernel
theorem dX11_plateOf_5 : decode cX11_plateOf 5 = .ok (.aload_n 0, 1) := by decide +kernel
theorem dX11_plateOf_6 : decode cX11_plateOf 6 = .ok (.getfield 69, 3) := by decide +kernel
theorem dX11_plateOf_9 : decode cX11_plateOf 9 = .ok (.iload_n 1, 1) := by decide +kernel
theorem dX11_plateOf_10 : decode cX11_plateOf 10 = .ok (.invokestatic 372, 3) := by decide +kernel
theorem dX11_plateOf_13 : decode cX11_plateOf 13 = .ok (.iconst 2, 1) := by decide +kernel
theorem dX11_plateOf_14 : decode cX11_plateOf 14 = .ok (.iadd, 1) := by decide +kernel
theorem dX11_plateOf_15 : decode cX11_plateOf 15 = .ok (.iaload, 1) := by decide +kernel
theorem dX11_plateOf_16 : decode cX11_plateOf 16 = .ok (.isub, 1) := by decide +kernel
theorem dX11_plateOf_17 : decode cX11_plateOf 17 = .ok (.ireturn, 1) := by decide +kernel
set_option maxRecDepth 10000 in
theorem vX11_plateOf_0 {κ : eg_K} {d : Nat} (hd : 1 ≤ d) {post : Int32 → eg_H → Prop} (M : eg_H) (l1 : Int32) (h : eCI κ gM mtX11_sizeOf d [vR (60, 0), vI l1] M (fun x1 M2 => eCI κ gM mtX11_at d [vI l1] M2 (fun x4 M5 => (vp_in (x4 + (2 : Int32)) 366 ∧ post (x1 - (M5.1 (110, 0) (x4 + (2 : Int32)).toNatClampNeg)) M5)))) : eg_W κ gM mtX11_plateOf d (eQI κ gM post) 0 [(0, vR (60, 0)), (1, vI l1)] [] M := by
  refine eg_aload_n 0 dX11_plateOf_0 rfl rfl ?_
  refine eg_iload_n 1 dX11_plateOf_1 rfl rfl ?_
  obtain ⟨q3, hq3, h⟩ := h
  refine eg_callVI (av := [vI l1]) (st := []) dX11_plateOf_2 ml_11_374 rfl rfl (obM_60 z1) (by decide) rfl (Nat.le_of_ble_eq_true rfl) (eg_dd hd) hq3 (fun x1 M2 hp => ?_)
  have h := h x1 M2 hp
  refine eg_aload_n 0 dX11_plateOf_5 rfl rfl ?_
  refine eg_getR dX11_plateOf_6 fl_11_69 rfl rfl (obM_60 z1) ?_
  show eg_W κ gM mtX11_plateOf d (eQI κ gM post) 9 [(0, vR (60, 0)), (1, vI l1)] [vR (110, 0), vI x1] M2
  refine eg_iload_n 1 dX11_plateOf_9 rfl rfl ?_
  obtain ⟨q6, hq6, h⟩ := h
  refine eg_callSI (av := [vI l1]) (st := [vR (110, 0), vI x1]) dX11_plateOf_10 ml_11_372 rfl rfl (Nat.le_of_ble_eq_true rfl) (eg_dd hd) hq6 (fun x4 M5 hp => ?_)
  have h := h x4 M5 hp
  refine eg_iconst dX11_plateOf_13 ic_2 ?_
  refine eg_iadd dX11_plateOf_14 ?_
  obtain ⟨g7, h⟩ := h
  refine eg_iaload dX11_plateOf_15 (arM_110 z1 g7) ?_
  refine eg_isub dX11_plateOf_16 ?_
  exact eg_ireturn dX11_plateOf_17 rfl h
theorem dX11_layNames_0 : decode cX11_layNames 0 = .ok (.aload_n 0, 1) := by decide +kernel
theorem dX11_layNames_1 : decode cX11_layNames 1 = .ok (.getfield 84, 3) := by decide +kernel
theorem dX11_layNames_4 : decode cX11_layNames 4 = .ok (.iconst 0, 1) := by decide +kernel
theorem dX11_layNames_5 : decode cX11_layNames 5 = .ok (.lload_n 2, 1) := by decide +kernel
theorem dX11_layNames_6 : decode cX11_layNames 6 = .ok (.lastore, 1) := by decide +kernel
theorem dX11_layNames_7 : decode cX11_layNames 7 = .ok (.aload_n 0, 1) := by decide +kernel
theorem dX11_layNames_8 : decode cX11_layNames 8 = .ok (.getfield 84, 3) := by decide +kernel
theorem dX11_layNames_11 : decode cX11_layNames 11 = .ok (.iconst 1, 1) := by decide +kernel
theorem dX11_layNames_12 : decode cX11_layNames 12 = .ok (.aload_n 0, 1) := by decide +kernel
theorem dX11_layNames_13 : decode cX11_layNames 13 = .ok (.getfield 69, 3) := by decide +kernel
theorem dX11_layNames_16 : decode cX11_layNames 16 = .ok (.iload_n 1, 1) := by decide +kernel
theorem dX11_layNames_17 : decode cX11_layNames 17 = .ok (.invokestatic 372, 3) := by decide +kernel
theorem dX11_layNames_20 : decode cX11_layNames 20 = .ok (.iconst 2, 1) := by decide +kernel
theorem dX11_layNames_21 : decode cX11_layNames 21 = .ok (.iadd, 1) := by decide +kernel
theorem dX11_layNames_22 : decode cX11_layNames 22 = .ok (.iaload, 1) := by decide +kernel
theorem dX11_layNames_23 : decode cX11_layNames 23 = .ok (.i2l, 1) := by decide +kernel
theorem dX11_layNames_24 : decode cX11_layNames 24 = .ok (.lastore, 1) := by decide +kernel
theorem dX11_layNames_25 : decode cX11_layNames 25 = .ok (.aload_n 0, 1) := by decide +kernel
theorem dX11_layNames_26 : decode cX11_layNames 26 = .ok (.getfield 84, 3) := by decide +kernel
theorem dX11_layNames_29 : decode cX11_layNames 29 = .ok (.iconst 2, 1) := by decide +kernel
theorem dX11_layNames_30 : decode cX11_layNames 30 = .ok (.lload 4, 2) := by decide +kernel
theorem dX11_layNames_32 : decode cX11_layNames 32 = .ok (.lastore, 1) := by decide +kernel
theorem dX11_layNames_33 : decode cX11_layNames 33 = .ok (.aload_n 0, 1) := by decide +kernel
theorem dX11_layNames_34 : decode cX11_layNames 34 = .ok (.getfield 84, 3) := by decide +kernel
theorem dX11_layNames_37 : decode cX11_layNames 37 = .ok (.iconst 3, 1) := by decide +kernel
theorem dX11_layNames_38 : decode cX11_layNames 38 = .ok (.lload 6, 2) := by decide +kernel
theorem dX11_layNames_40 : decode cX11_layNames 40 = .ok (.lastore, 1) := by decide +kernel
theorem dX11_layNames_41 : decode cX11_layNames 41 = .ok (.aload_n 0, 1) := by decide +kernel
theorem dX11_layNames_42 : decode cX11_layNames 42 = .ok (.getfield 84, 3) := by decide +kernel
theorem dX11_layNames_45 : decode cX11_layNames 45 = .ok (.iconst 4, 1) := by decide +kernel
theorem dX11_layNames_46 : decode cX11_layNames 46 = .ok (.aload_n 0, 1) := by decide +kernel
theorem dX11_layNames_47 : decode cX11_layNames 47 = .ok (.getfield 69, 3) := by decide +kernel
theorem dX11_layNames_50 : decode cX11_layNames 50 = .ok (.iconst 1, 1) := by decide +kernel
theorem dX11_layNames_51 : decode cX11_layNames 51 = .ok (.iaload, 1) := by decide +kernel
theorem dX11_layNames_52 : decode cX11_layNames 52 = .ok (.i2l, 1) := by decide +kernel
theorem dX11_layNames_53 : decode cX11_layNames 53 = .ok (.lastore, 1) := by decide +kernel
theorem dX11_layNames_54 : decode cX11_layNames 54 = .ok (.aload_n 0, 1) := by decide +kernel
theorem dX11_layNames_55 : decode cX11_layNames 55 = .ok (.getfield 84, 3) := by decide +kernel
theorem dX11_layNames_58 : decode cX11_layNames 58 = .ok (.iconst 5, 1) := by decide +kernel
theorem dX11_layNames_59 : decode cX11_layNames 59 = .ok (.aload_n 0, 1) := by decide +kernel
theorem dX11_layNames_60 : decode cX11_layNames 60 = .ok (.getfield 69, 3) := by decide +kernel
theorem dX11_layNames_63 : decode cX11_layNames 63 = .ok (.iconst 0, 1) := by decide +kernel
theorem dX11_layNames_64 : decode cX11_layNames 64 = .ok (.iaload, 1) := by decide +kernel
theorem dX11_layNames_65 : decode cX11_layNames 65 = .ok (.aload_n 0, 1) := by decide +kernel
theorem dX11_layNames_66 : decode cX11_layNames 66 = .ok (.getfield 69, 3) := by decide +kernel
theorem dX11_layNames_69 : decode cX11_layNames 69 = .ok (.iload_n 1, 1) := by decide +kernel
theorem dX11_layNames_70 : decode cX11_layNames 70 = .ok (.invokestatic 372, 3) := by decide +kernel
theorem dX11_layNames_73 : decode cX11_layNames 73 = .ok (.bipush 12, 2) := by decide +kernel
theorem dX11_layNames_75 : decode cX11_layNames 75 = .ok (.iadd, 1) := by decide +kernel
theorem dX11_layNames_76 : decode cX11_layNames 76 = .ok (.iaload, 1) := by decide +kernel
theorem dX11_layNames_77 : decode cX11_layNames 77 = .ok (.isub, 1) := by decide +kernel
theorem dX11_layNames_78 : decode cX11_layNames 78 = .ok (.i2l, 1) := by decide +kernel
theorem dX11_layNames_79 : decode cX11_layNames 79 = .ok (.lastore, 1) := by decide +kernel
theorem dX11_layNames_80 : decode cX11_layNames 80 = .ok (.aload_n 0, 1) := by decide +kernel
theorem dX11_layNames_81 : decode cX11_layNames 81 = .ok (.getfield 84, 3) := by decide +kernel
theorem dX11_layNames_84 : decode cX11_layNames 84 = .ok (.bipush 6, 2) := by decide +kernel
theorem dX11_layNames_86 : decode cX11_layNames 86 = .ok (.aload_n 0, 1) := by decide +kernel
theorem dX11_layNames_87 : decode cX11_layNames 87 = .ok (.iload_n 1, 1) := by decide +kernel
theorem dX11_layNames_88 : decode cX11_layNames 88 = .ok (.invokevirtual 374, 3) := by decide +kernel
theorem dX11_layNames_91 : decode cX11_layNames 91 = .ok (.i2l, 1) := by decide +kernel
theorem dX11_layNames_92 : decode cX11_layNames 92 = .ok (.lastore, 1) := by decide +kernel
theorem dX11_layNames_93 : decode cX11_layNames 93 = .ok (.aload_n 0, 1) := by decide +kernel
theorem dX11_layNames_94 : decode cX11_layNames 94 = .ok (.getfield 84, 3) := by decide +kernel
theorem dX11_layNames_97 : decode cX11_layNames 97 = .ok (.bipush 7, 2) := by decide +kernel
theorem dX11_layNames_99 : decode cX11_layNames 99 = .ok (.aload_n 0, 1) := by decide +kernel
theorem dX11_layNames_100 : decode cX11_layNames 100 = .ok (.iload_n 1, 1) := by decide +kernel
theorem dX11_layNames_101 : decode cX11_layNames 101 = .ok (.invokevirtual 412, 3) := by decide +kernel
theorem dX11_layNames_104 : decode cX11_layNames 104 = .ok (.i2l, 1) := by decide +kernel
theorem dX11_layNames_105 : decode cX11_layNames 105 = .ok (.lastore, 1) := by decide +kernel
theorem dX11_layNames_106 : decode cX11_layNames 106 = .ok (.return_, 1) := by decide +kernel
set_option maxRecDepth 10000 in
theorem vX11_layNames_0 {κ : eg_K} {d : Nat} (hd : 1 ≤ d) {post : eg_H → Prop} (M : eg_H) (l1 : Int32) (l2 : Int64) (l4 : Int64) (l6 : Int64) (h : (vp_in (0 : Int32) 8 ∧ (∀ M2 : eg_H, M2 = (sL M (127, 0) (0 : Int32).toNatClampNeg l2) → eCI κ gM mtX11_at d [vI l1] M2 (fun x3 M4 => (vp_in (x3 + (2 : Int32)) 366 ∧ (vp_in (1 : Int32) 8 ∧ (∀ M8 : eg_H, M8 = (sL M4 (127, 0) (1 : Int32).toNatClampNeg ((M4.1 (110, 0) (x3 + (2 : Int32)).toNatClampNeg).toInt64)) → (vp_in (2 : Int32) 8 ∧ (∀ M10 : eg_H, M10 = (sL M8 (127, 0) (2 : Int32).toNatClampNeg l4) → (vp_in (3 : Int32) 8 ∧ (∀ M12 : eg_H, M12 = (sL M10 (127, 0) (3 : Int32).toNatClampNeg l6) → (vp_in (1 : Int32) 366 ∧ (vp_in (4 : Int32) 8 ∧ (∀ M15 : eg_H, M15 = (sL M12 (127, 0) (4 : Int32).toNatClampNeg ((M12.1 (110, 0) (1 : Int32).toNatClampNeg).toInt64)) → (vp_in (0 : Int32) 366 ∧ eCI κ gM mtX11_at d [vI l1] M15 (fun x17 M18 => (vp_in (x17 + (12 : Int32)) 366 ∧ (vp_in (5 : Int32) 8 ∧ (∀ M22 : eg_H, M22 = (sL M18 (127, 0) (5 : Int32).toNatClampNeg (((M15.1 (110, 0) (0 : Int32).toNatClampNeg) - (M18.1 (110, 0) (x17 + (12 : Int32)).toNatClampNeg)).toInt64)) → eCI κ gM mtX11_sizeOf d [vR (60, 0), vI l1] M22 (fun x23 M24 => (vp_in (6 : Int32) 8 ∧ (∀ M27 : eg_H, M27 = (sL M24 (127, 0) (6 : Int32).toNatClampNeg (x23.toInt64)) → eCI κ gM mtX11_plateOf d [vR (60, 0), vI l1] M27 (fun x28 M29 => (vp_in (7 : Int32) 8 ∧ (∀ M32 : eg_H, M32 = (sL M29 (127, 0) (7 : Int32).toNatClampNeg (x28.toInt64)) → post M32))))))))))))))))))))))))) : eg_W κ gM mtX11_layNames d (eQV κ gM post) 0 [(0, vR (60, 0)), (1, vI l1), (2, vL l2), (4, vL l4), (6, vL l6)] [] M := by
  refine eg_aload_n 0 dX11_layNames_0 rfl rfl ?_
  refine eg_getR dX11_layNames_1 fl_11_84 rfl rfl (obM_60 z1) ?_
  show eg_W κ gM mtX11_layNames d (eQV κ gM post) 4 [(0, vR (60, 0)), (1, vI l1), (2, vL l2), (4, vL l4), (6, vL l6)] [vR (127, 0)] M
  refine eg_iconst dX11_layNames_4 ic_0 ?_
  refine eg_lload_n 2 dX11_layNames_5 rfl rfl ?_
  obtain ⟨g1, h⟩ := h
  refine en_lastore dX11_layNames_6 (arM_127 z1 g1) (fun M2 eM2 => ?_)
  have h := h M2 eM2
  refine eg_aload_n 0 dX11_layNames_7 rfl rfl ?_
  refine eg_getR dX11_layNames_8 fl_11_84 rfl rfl (obM_60 z1) ?_
  show eg_W κ gM mtX11_layNames d (eQV κ gM post) 11 [(0, vR (60, 0)), (1, vI l1), (2, vL l2), (4, vL l4), (6, vL l6)] [vR (127, 0)] M2
  refine eg_iconst dX11_layNames_11 ic_1 ?_
  refine eg_aload_n 0 dX11_layNames_12 rfl rfl ?_
  refine eg_getR dX11_layNames_13 fl_11_69 rfl rfl (obM_60 z1) ?_
  show eg_W κ gM mtX11_layNames d (eQV κ gM post) 16 [(0, vR (60, 0)), (1, vI l1), (2, vL l2), (4, vL l4), (6, vL l6)] [vR (110, 0), vI (1 : Int32), vR (127, 0)] M2
  refine eg_iload_n 1 dX11_layNames_16 rfl rfl ?_
  obtain ⟨q5, hq5, h⟩ := h
  refine eg_callSI (av := [vI l1]) (st := [vR (110, 0), vI (1 : Int32), vR (127, 0)]) dX11_layNames_17 ml_11_372 rfl rfl (Nat.le_of_ble_eq_true rfl) (eg_dd hd) hq5 (fun x3 M4 hp => ?_)
  have h := h x3 M4 hp
  refine eg_iconst dX11_layNames_20 ic_2 ?_
  refine eg_iadd dX11_layNames_21 ?_
  obtain ⟨g6, h⟩ := h
  refine eg_iaload dX11_layNames_22 (arM_110 z1 g6) ?_
  refine eg_i2l dX11_layNames_23 ?_
  obtain ⟨g7, h⟩ := h
  refine en_lastore dX11_layNames_24 (arM_127 z1 g7) (fun M8 eM8 => ?_)
  have h := h M8 eM8
  refine eg_aload_n 0 dX11_layNames_25 rfl rfl ?_
  refine eg_getR dX11_layNames_26 fl_11_84 rfl rfl (obM_60 z1) ?_
  show eg_W κ gM mtX11_layNames d (eQV κ gM post) 29 [(0, vR (60, 0)), (1, vI l1), (2, vL l2), (4, vL l4), (6, vL l6)] [vR (127, 0)] M8
  refine eg_iconst dX11_layNames_29 ic_2 ?_
  refine eg_lload 3 dX11_layNames_30 rfl ?_
  obtain ⟨g9, h⟩ := h
  refine en_lastore dX11_layNames_32 (arM_127 z1 g9) (fun M10 eM10 => ?_)
  have h := h M10 eM10
  refine eg_aload_n 0 dX11_layNames_33 rfl rfl ?_
  refine eg_getR dX11_layNames_34 fl_11_84 rfl rfl (obM_60 z1) ?_
  show eg_W κ gM mtX11_layNames d (eQV κ gM post) 37 [(0, vR (60, 0)), (1, vI l1), (2, vL l2), (4, vL l4), (6, vL l6)] [vR (127, 0)] M10
  refine eg_iconst dX11_layNames_37 ic_3 ?_
  refine eg_lload 4 dX11_layNames_38 rfl ?_
  obtain ⟨g11, h⟩ := h
  refine en_lastore dX11_layNames_40 (arM_127 z1 g11) (fun M12 eM12 => ?_)
  have h := h M12 eM12
  refine eg_aload_n 0 dX11_layNames_41 rfl rfl ?_
  refine eg_getR dX11_layNames_42 fl_11_84 rfl rfl (obM_60 z1) ?_
  show eg_W κ gM mtX11_layNames d (eQV κ gM post) 45 [(0, vR (60, 0)), (1, vI l1), (2, vL l2), (4, vL l4), (6, vL l6)] [vR (127, 0)] M12
  refine eg_iconst dX11_layNames_45 ic_4 ?_
  refine eg_aload_n 0 dX11_layNames_46 rfl rfl ?_
  refine eg_getR dX11_layNames_47 fl_11_69 rfl rfl (obM_60 z1) ?_
  show eg_W κ gM mtX11_layNames d (eQV κ gM post) 50 [(0, vR (60, 0)), (1, vI l1), (2, vL l2), (4, vL l4), (6, vL l6)] [vR (110, 0), vI (4 : Int32), vR (127, 0)] M12
  refine eg_iconst dX11_layNames_50 ic_1 ?_
  obtain ⟨g13, h⟩ := h
  refine eg_iaload dX11_layNames_51 (arM_110 z1 g13) ?_
  refine eg_i2l dX11_layNames_52 ?_
  obtain ⟨g14, h⟩ := h
  refine en_lastore dX11_layNames_53 (arM_127 z1 g14) (fun M15 eM15 => ?_)
  have h := h M15 eM15
  refine eg_aload_n 0 dX11_layNames_54 rfl rfl ?_
  refine eg_getR dX11_layNames_55 fl_11_84 rfl rfl (obM_60 z1) ?_
  show eg_W κ gM mtX11_layNames d (eQV κ gM post) 58 [(0, vR (60, 0)), (1, vI l1), (2, vL l2), (4, vL l4), (6, vL l6)] [vR (127, 0)] M15
  refine eg_iconst dX11_layNames_58 ic_5 ?_
  refine eg_aload_n 0 dX11_layNames_59 rfl rfl ?_
  refine eg_getR dX11_layNames_60 fl_11_69 rfl rfl (obM_60 z1) ?_
  show eg_W κ gM mtX11_layNames d (eQV κ gM post) 63 [(0, vR (60, 0)), (1, vI l1), (2, vL l2), (4, vL l4), (6, vL l6)] [vR (110, 0), vI (5 : Int32), vR (127, 0)] M15
  refine eg_iconst dX11_layNames_63 ic_0 ?_
  obtain ⟨g16, h⟩ := h
  refine eg_iaload dX11_layNames_64 (arM_110 z1 g16) ?_
  refine eg_aload_n 0 dX11_layNames_65 rfl rfl ?_
  refine eg_getR dX11_layNames_66 fl_11_69 rfl rfl (obM_60 z1) ?_
  show eg_W κ gM mtX11_layNames d (eQV κ gM post) 69 [(0, vR (60, 0)), (1, vI l1), (2, vL l2), (4, vL l4), (6, vL l6)] [vR (110, 0), vI (M15.1 (110, 0) (0 : Int32).toNatClampNeg), vI (5 : Int32), vR (127, 0)] M15
  refine eg_iload_n 1 dX11_layNames_69 rfl rfl ?_
  obtain ⟨q19, hq19, h⟩ := h
  refine eg_callSI (av := [vI l1]) (st := [vR (110, 0), vI (M15.1 (110, 0) (0 : Int32).toNatClampNeg), vI (5 : Int32), vR (127, 0)]) dX11_layNames_70 ml_11_372 rfl rfl (Nat.le_of_ble_eq_true rfl) (eg_dd hd) hq19 (fun x17 M18 hp => ?_)
  have h := h x17 M18 hp
  refine eg_bipush dX11_layNames_73 bp_12 ?_
  refine eg_iadd dX11_layNames_75 ?_
  obtain ⟨g20, h⟩ := h
  refine eg_iaload dX11_layNames_76 (arM_110 z1 g20) ?_
  refine eg_isub dX11_layNames_77 ?_
  refine eg_i2l dX11_layNames_78 ?_
  obtain ⟨g21, h⟩ := h
  refine en_lastore dX11_layNames_79 (arM_127 z1 g21) (fun M22 eM22 => ?_)
  have h := h M22 eM22
  refine eg_aload_n 0 dX11_layNames_80 rfl rfl ?_
  refine eg_getR dX11_layNames_81 fl_11_84 rfl rfl (obM_60 z1) ?_
  show eg_W κ gM mtX11_layNames d (eQV κ gM post) 84 [(0, vR (60, 0)), (1, vI l1), (2, vL l2), (4, vL l4), (6, vL l6)] [vR (127, 0)] M22
  refine eg_bipush dX11_layNames_84 bp_6 ?_
  refine eg_aload_n 0 dX11_layNames_86 rfl rfl ?_
  refine eg_iload_n 1 dX11_layNames_87 rfl rfl ?_
  obtain ⟨q25, hq25, h⟩ := h
  refine eg_callVI (av := [vI l1]) (st := [vI (6 : Int32), vR (127, 0)]) dX11_layNames_88 ml_11_374 rfl rfl (obM_60 z1) (by decide) rfl (Nat.le_of_ble_eq_true rfl) (eg_dd hd) hq25 (fun x23 M24 hp => ?_)
  have h := h x23 M24 hp
  refine eg_i2l dX11_layNames_91 ?_
  obtain ⟨g26, h⟩ := h
  refine en_lastore dX11_layNames_92 (arM_127 z1 g26) (fun M27 eM27 => ?_)
  have h := h M27 eM27
  refine eg_aload_n 0 dX11_layNames_93 rfl rfl ?_
  refine eg_getR dX11_layNames_94 fl_11_84 rfl rfl (obM_60 z1) ?_
  show eg_W κ gM mtX11_layNames d (eQV κ gM post) 97 [(0, vR (60, 0)), (1, vI l1), (2, vL l2), (4, vL l4), (6, vL l6)] [vR (127, 0)] M27
  refine eg_bipush dX11_layNames_97 bp_7 ?_
  refine eg_aload_n 0 dX11_layNames_99 rfl rfl ?_
  refine eg_iload_n 1 dX11_layNames_100 rfl rfl ?_
  obtain ⟨q30, hq30, h⟩ := h
  refine eg_callVI (av := [vI l1]) (st := [vI (7 : Int32), vR (127, 0)]) dX11_layNames_101 ml_11_412 rfl rfl (obM_60 z1) (by decide) rfl (Nat.le_of_ble_eq_true rfl) (eg_dd hd) hq30 (fun x28 M29 hp => ?_)
  have h := h x28 M29 hp
  refine eg_i2l dX11_layNames_104 ?_
  obtain ⟨g31, h⟩ := h
  refine en_lastore dX11_layNames_105 (arM_127 z1 g31) (fun M32 eM32 => ?_)
  have h := h M32 eM32
  exact eg_vreturn dX11_layNames_106 rfl h
theorem dX11_hasPan_0 : decode cX11_hasPan 0 = .ok (.aload_n 0, 1) := by decide +kernel
theorem dX11_hasPan_1 : decode cX11_hasPan 1 = .ok (.iload_n 1, 1) := by decide +kernel
theorem dX11_hasPan_2 : decode cX11_hasPan 2 = .ok (.iconst 2, 1) := by decide +kernel
theorem dX11_hasPan_3 : decode cX11_hasPan 3 = .ok (.invokevirtual 366, 3) := by decide +kernel
theorem dX11_hasPan_6 : decode cX11_hasPan 6 = .ok (.ifCond .lt 7, 3) := by decide +kernel
theorem dX11_hasPan_9 : decode cX11_hasPan 9 = .ok (.iconst 1, 1) := by decide +kernel
theorem dX11_hasPan_10 : decode cX11_hasPan 10 = .ok (.goto 4, 3) := by decide +kernel
theorem dX11_hasPan_13 : decode cX11_hasPan 13 = .ok (.iconst 0, 1) := by decide +kernel
theorem dX11_hasPan_14 : decode cX11_hasPan 14 = .ok (.ireturn, 1) := by decide +kernel
set_option maxRecDepth 10000 in
theorem vX11_hasPan_0 {κ : eg_K} {d : Nat} (hd : 1 ≤ d) {post : Int32 → eg_H → Prop} (M : eg_H) (l1 : Int32) (h : eCI κ gM mtX11_has d [vR (60, 0), vI l1, vI (2 : Int32)] M (fun x1 M2 => (∀ x4 : Int32, x4 = ((if x1 < 0 then (0 : Int32) else (1 : Int32))) → ((x4 = 0 ∨ x4 = 1) ∧ post x4 M2)))) : eg_W κ gM mtX11_hasPan d (eQI κ gM post) 0 [(0, vR (60, 0)), (1, vI l1)] [] M := by
  refine eg_aload_n 0 dX11_hasPan_0 rfl rfl ?_
  refine eg_iload_n 1 dX11_hasPan_1 rfl rfl ?_
  refine eg_iconst dX11_hasPan_2 ic_2 ?_
  obtain ⟨q3, hq3, h⟩ := h
  refine eg_callVI (av := [vI l1, vI (2 : Int32)]) (st := []) dX11_hasPan_3 ml_11_366 rfl rfl (obM_60 z1) (by decide) rfl (Nat.le_of_ble_eq_true rfl) (eg_dd hd) hq3 (fun x1 M2 hp => ?_)
  have h := h x1 M2 hp
  have J : ∀ x4 : Int32, x4 = (if x1 < 0 then (0 : Int32) else (1 : Int32)) → eg_W κ gM mtX11_hasPan d (eQI κ gM post) 14 [(0, vR (60, 0)), (1, vI l1)] [vI x4] M2 := by
    intro x4 ex4
    have h := h x4 ex4
    obtain ⟨g5, h⟩ := h
    exact eg_zreturn dX11_hasPan_14 rfl g5 h
  clear h
  refine eg_if_lt (tgt := 13) dX11_hasPan_6 rfl (fun c6 => ?_) (fun c6 => ?_)
  · refine eg_iconst dX11_hasPan_13 ic_0 ?_
    exact J _ (by rw [if_pos c6])
  · refine eg_iconst dX11_hasPan_9 ic_1 ?_
    refine eg_goto (tgt := 14) dX11_hasPan_10 rfl ?_
    exact J _ (by rw [if_neg c6])
theorem dX11_layNamesAt_0 : decode cX11_layNamesAt 0 = .ok (.aload_n 0, 1) := by decide +kernel
theorem dX11_layNamesAt_1 : decode cX11_layNamesAt 1 = .ok (.iload_n 1, 1) := by decide +kernel
theorem dX11_layNamesAt_2 : decode cX11_layNamesAt 2 = .ok (.aload_n 0, 1) := by decide +kernel
theorem dX11_layNamesAt_3 : decode cX11_layNamesAt 3 = .ok (.getfield 69, 3) := by decide +kernel
theorem dX11_layNamesAt_6 : decode cX11_layNamesAt 6 = .ok (.iload_n 1, 1) := by decide +kernel
theorem dX11_layNamesAt_7 : decode cX11_layNamesAt 7 = .ok (.invokestatic 372, 3) := by decide +kernel
theorem dX11_layNamesAt_10 : decode cX11_layNamesAt 10 = .ok (.bipush 14, 2) := by decide +kernel
theorem dX11_layNamesAt_12 : decode cX11_layNamesAt 12 = .ok (.iadd, 1) := by decide +kernel
theorem dX11_layNamesAt_13 : decode cX11_layNamesAt 13 = .ok (.iload_n 2, 1) := by decide +kernel
theorem dX11_layNamesAt_14 : decode cX11_layNamesAt 14 = .ok (.iadd, 1) := by decide +kernel
theorem dX11_layNamesAt_15 : decode cX11_layNamesAt 15 = .ok (.iaload, 1) := by decide +kernel
theorem dX11_layNamesAt_16 : decode cX11_layNamesAt 16 = .ok (.i2l, 1) := by decide +kernel
theorem dX11_layNamesAt_17 : decode cX11_layNamesAt 17 = .ok (.aload_n 0, 1) := by decide +kernel
theorem dX11_layNamesAt_18 : decode cX11_layNamesAt 18 = .ok (.iload_n 2, 1) := by decide +kernel
theorem dX11_layNamesAt_19 : decode cX11_layNamesAt 19 = .ok (.invokevirtual 415, 3) := by decide +kernel
theorem dX11_layNamesAt_22 : decode cX11_layNamesAt 22 = .ok (.ifCond .eq 16, 3) := by decide +kernel
theorem dX11_layNamesAt_25 : decode cX11_layNamesAt 25 = .ok (.aload_n 0, 1) := by decide +kernel
theorem dX11_layNamesAt_26 : decode cX11_layNamesAt 26 = .ok (.getfield 69, 3) := by decide +kernel
theorem dX11_layNamesAt_29 : decode cX11_layNamesAt 29 = .ok (.iload_n 2, 1) := by decide +kernel
theorem dX11_layNamesAt_30 : decode cX11_layNamesAt 30 = .ok (.invokestatic 377, 3) := by decide +kernel
theorem dX11_layNamesAt_33 : decode cX11_layNamesAt 33 = .ok (.iaload, 1) := by decide +kernel
theorem dX11_layNamesAt_34 : decode cX11_layNamesAt 34 = .ok (.i2l, 1) := by decide +kernel
theorem dX11_layNamesAt_35 : decode cX11_layNamesAt 35 = .ok (.goto 6, 3) := by decide +kernel
theorem dX11_layNamesAt_38 : decode cX11_layNamesAt 38 = .ok (.ldc2_w 418, 3) := by decide +kernel
theorem dX11_layNamesAt_41 : decode cX11_layNamesAt 41 = .ok (.aload_n 0, 1) := by decide +kernel
theorem dX11_layNamesAt_42 : decode cX11_layNamesAt 42 = .ok (.iload_n 2, 1) := by decide +kernel
theorem dX11_layNamesAt_43 : decode cX11_layNamesAt 43 = .ok (.invokevirtual 415, 3) := by decide +kernel
theorem dX11_layNamesAt_46 : decode cX11_layNamesAt 46 = .ok (.ifCond .eq 18, 3) := by decide +kernel
theorem dX11_layNamesAt_49 : decode cX11_layNamesAt 49 = .ok (.aload_n 0, 1) := by decide +kernel
theorem dX11_layNamesAt_50 : decode cX11_layNamesAt 50 = .ok (.getfield 69, 3) := by decide +kernel
theorem dX11_layNamesAt_53 : decode cX11_layNamesAt 53 = .ok (.iload_n 2, 1) := by decide +kernel
theorem dX11_layNamesAt_54 : decode cX11_layNamesAt 54 = .ok (.invokestatic 377, 3) := by decide +kernel
theorem dX11_layNamesAt_57 : decode cX11_layNamesAt 57 = .ok (.iconst 1, 1) := by decide +kernel
theorem dX11_layNamesAt_58 : decode cX11_layNamesAt 58 = .ok (.iadd, 1) := by decide +kernel
theorem dX11_layNamesAt_59 : decode cX11_layNamesAt 59 = .ok (.iaload, 1) := by decide +kernel
theorem dX11_layNamesAt_60 : decode cX11_layNamesAt 60 = .ok (.i2l, 1) := by decide +kernel
theorem dX11_layNamesAt_61 : decode cX11_layNamesAt 61 = .ok (.goto 4, 3) := by decide +kernel
theorem dX11_layNamesAt_64 : decode cX11_layNamesAt 64 = .ok (.lconst 0, 1) := by decide +kernel
theorem dX11_layNamesAt_65 : decode cX11_layNamesAt 65 = .ok (.invokevirtual 420, 3) := by decide +kernel
theorem dX11_layNamesAt_68 : decode cX11_layNamesAt 68 = .ok (.return_, 1) := by decide +kernel
set_option maxRecDepth 10000 in
theorem vX11_layNamesAt_0 {κ : eg_K} {d : Nat} (hd : 1 ≤ d) {post : eg_H → Prop} (M : eg_H) (l1 : Int32) (l2 : Int32) (h : eCI κ gM mtX11_at d [vI l1] M (fun x1 M2 => (vp_in ((x1 + (14 : Int32)) + l2) 366 ∧ eCI κ gM mtX11_hasPan d [vR (60, 0), vI l2] M2 (fun x5 M6 => (x5 = 0 → eg_W κ gM mtX11_layNamesAt d (eQV κ gM post) 41 [(0, vR (60, 0)), (2, vI l2)] [vL (999 : Int64), vL ((M2.1 (110, 0) ((x1 + (14 : Int32)) + l2).toNatClampNeg).toInt64), vI l1, vR (60, 0)] M6) ∧ ((¬ x5 = 0) → eCI κ gM mtX11_pan d [vI l2] M6 (fun x9 M10 => (vp_in x9 366 ∧ eg_W κ gM mtX11_layNamesAt d (eQV κ gM post) 41 [(0, vR (60, 0)), (2, vI l2)] [vL ((M10.1 (110, 0) x9.toNatClampNeg).toInt64), vL ((M2.1 (110, 0) ((x1 + (14 : Int32)) + l2).toNatClampNeg).toInt64), vI l1, vR (60, 0)] M10))))))) : eg_W κ gM mtX11_layNamesAt d (eQV κ gM post) 0 [(0, vR (60, 0)), (1, vI l1), (2, vI l2)] [] M := by
  refine eg_aload_n 0 dX11_layNamesAt_0 rfl rfl ?_
  refine eg_iload_n 1 dX11_layNamesAt_1 rfl rfl ?_
  refine eg_aload_n 0 dX11_layNamesAt_2 rfl rfl ?_
  refine eg_getR dX11_layNamesAt_3 fl_11_69 rfl rfl (obM_60 z1) ?_
  show eg_W κ gM mtX11_layNamesAt d (eQV κ gM post) 6 [(0, vR (60, 0)), (1, vI l1), (2, vI l2)] [vR (110, 0), vI l1, vR (60, 0)] M
  refine eg_iload_n 1 dX11_layNamesAt_6 rfl rfl ?_
  obtain ⟨q3, hq3, h⟩ := h
  refine eg_callSI (av := [vI l1]) (st := [vR (110, 0), vI l1, vR (60, 0)]) dX11_layNamesAt_7 ml_11_372 rfl rfl (Nat.le_of_ble_eq_true rfl) (eg_dd hd) hq3 (fun x1 M2 hp => ?_)
  have h := h x1 M2 hp
  refine eg_bipush dX11_layNamesAt_10 bp_14 ?_
  refine eg_iadd dX11_layNamesAt_12 ?_
  refine eg_iload_n 2 dX11_layNamesAt_13 rfl rfl ?_
  refine eg_iadd dX11_layNamesAt_14 ?_
  obtain ⟨g4, h⟩ := h
  refine eg_iaload dX11_layNamesAt_15 (arM_110 z1 g4) ?_
  refine eg_i2l dX11_layNamesAt_16 ?_
  refine eg_aload_n 0 dX11_layNamesAt_17 rfl rfl ?_
  refine eg_iload_n 2 dX11_layNamesAt_18 rfl rfl ?_
  obtain ⟨q7, hq7, h⟩ := h
  refine eg_callVI (av := [vI l2]) (st := [vL ((M2.1 (110, 0) ((x1 + (14 : Int32)) + l2).toNatClampNeg).toInt64), vI l1, vR (60, 0)]) dX11_layNamesAt_19 ml_11_415 rfl rfl (obM_60 z1) (by decide) rfl (Nat.le_of_ble_eq_true rfl) (eg_dd hd) hq7 (fun x5 M6 hp => ?_)
  have h := h x5 M6 hp
  refine eg_if_eq (tgt := 38) dX11_layNamesAt_22 rfl (fun c8 => ?_) (fun c8 => ?_)
  · have h := h.1 c8
    refine eg_ldc2 dX11_layNamesAt_38 kc_11_418 ?_
    refine eg_sub [0, 2] rfl ?_
    exact h
  · have h := h.2 c8
    refine eg_aload_n 0 dX11_layNamesAt_25 rfl rfl ?_
    refine eg_getR dX11_layNamesAt_26 fl_11_69 rfl rfl (obM_60 z1) ?_
    show eg_W κ gM mtX11_layNamesAt d (eQV κ gM post) 29 [(0, vR (60, 0)), (1, vI l1), (2, vI l2)] [vR (110, 0), vL ((M2.1 (110, 0) ((x1 + (14 : Int32)) + l2).toNatClampNeg).toInt64), vI l1, vR (60, 0)] M6
    refine eg_iload_n 2 dX11_layNamesAt_29 rfl rfl ?_
    obtain ⟨q11, hq11, h⟩ := h
    refine eg_callSI (av := [vI l2]) (st := [vR (110, 0), vL ((M2.1 (110, 0) ((x1 + (14 : Int32)) + l2).toNatClampNeg).toInt64), vI l1, vR (60, 0)]) dX11_layNamesAt_30 ml_11_377 rfl rfl (Nat.le_of_ble_eq_true rfl) (eg_dd hd) hq11 (fun x9 M10 hp => ?_)
    have h := h x9 M10 hp
    obtain ⟨g12, h⟩ := h
    refine eg_iaload dX11_layNamesAt_33 (arM_110 z1 g12) ?_
    refine eg_i2l dX11_layNamesAt_34 ?_
    refine eg_goto (tgt := 41) dX11_layNamesAt_35 rfl ?_
    refine eg_sub [0, 2] rfl ?_
    exact h
set_option maxRecDepth 10000 in
theorem vX11_layNamesAt_41 {κ : eg_K} {d : Nat} (hd : 1 ≤ d) {post : eg_H → Prop} (M : eg_H) (l2 : Int32) (s0 : Int64) (s1 : Int64) (s2 : Int32) (h : eCI κ gM mtX11_hasPan d [vR (60, 0), vI l2] M (fun x1 M2 => (x1 = 0 → eCV κ gM mtX11_layNames d [vR (60, 0), vI s2, vL s1, vL s0, vL (0 : Int64)] M2 (fun M5 => post M5)) ∧ ((¬ x1 = 0) → eCI κ gM mtX11_pan d [vI l2] M2 (fun x7 M8 => (vp_in (x7 + (1 : Int32)) 366 ∧ eCV κ gM mtX11_layNames d [vR (60, 0), vI s2, vL s1, vL s0, vL ((M8.1 (110, 0) (x7 + (1 : Int32)).toNatClampNeg).toInt64)] M8 (fun M11 => post M11)))))) : eg_W κ gM mtX11_layNamesAt d (eQV κ gM post) 41 [(0, vR (60, 0)), (2, vI l2)] [vL s0, vL s1, vI s2, vR (60, 0)] M := by
  refine eg_aload_n 0 dX11_layNamesAt_41 rfl rfl ?_
  refine eg_iload_n 1 dX11_layNamesAt_42 rfl rfl ?_
  obtain ⟨q3, hq3, h⟩ := h
  refine eg_callVI (av := [vI l2]) (st := [vL s0, vL s1, vI s2, vR (60, 0)]) dX11_layNamesAt_43 ml_11_415 rfl rfl (obM_60 z1) (by decide) rfl (Nat.le_of_ble_eq_true rfl) (eg_dd hd) hq3 (fun x1 M2 hp => ?_)
  have h := h x1 M2 hp
  refine eg_if_eq (tgt := 64) dX11_layNamesAt_46 rfl (fun c4 => ?_) (fun c4 => ?_)
  · have h := h.1 c4
    refine eg_lconst dX11_layNamesAt_64 lc_0 ?_
    obtain ⟨q6, hq6, h⟩ := h
    refine eg_callVV (av := [vI s2, vL s1, vL s0, vL (0 : Int64)]) (st := []) dX11_layNamesAt_65 ml_11_420 rfl rfl (obM_60 z1) (by decide) rfl (Nat.le_of_ble_eq_true rfl) (eg_dd hd) hq6 (fun M5 hp => ?_)
    have h := h M5 hp
    exact eg_vreturn dX11_layNamesAt_68 rfl h
  · have h := h.2 c4
    refine eg_aload_n 0 dX11_layNamesAt_49 rfl rfl ?_
    refine eg_getR dX11_layNamesAt_50 fl_11_69 rfl rfl (obM_60 z1) ?_
    show eg_W κ gM mtX11_layNamesAt d (eQV κ gM post) 53 [(0, vR (60, 0)), (2, vI l2)] [vR (110, 0), vL s0, vL s1, vI s2, vR (60, 0)] M2
    refine eg_iload_n 1 dX11_layNamesAt_53 rfl rfl ?_
    obtain ⟨q9, hq9, h⟩ := h
    refine eg_callSI (av := [vI l2]) (st := [vR (110, 0), vL s0, vL s1, vI s2, vR (60, 0)]) dX11_layNamesAt_54 ml_11_377 rfl rfl (Nat.le_of_ble_eq_true rfl) (eg_dd hd) hq9 (fun x7 M8 hp => ?_)
    have h := h x7 M8 hp
    refine eg_iconst dX11_layNamesAt_57 ic_1 ?_
    refine eg_iadd dX11_layNamesAt_58 ?_
    obtain ⟨g10, h⟩ := h
    refine eg_iaload dX11_layNamesAt_59 (arM_110 z1 g10) ?_
    refine eg_i2l dX11_layNamesAt_60 ?_
    refine eg_goto (tgt := 65) dX11_layNamesAt_61 rfl ?_
    obtain ⟨q12, hq12, h⟩ := h
    refine eg_callVV (av := [vI s2, vL s1, vL s0, vL ((M8.1 (110, 0) (x7 + (1 : Int32)).toNatClampNeg).toInt64)]) (st := []) dX11_layNamesAt_65 ml_11_420 rfl rfl (obM_60 z1) (by decide) rfl (Nat.le_of_ble_eq_true rfl) (eg_dd hd) hq12 (fun M11 hp => ?_)
    have h := h M11 hp
    exact eg_vreturn dX11_layNamesAt_68 rfl h
theorem dX11_wantsOf_0 : decode cX11_wantsOf 0 = .ok (.iconst 0, 1) := by decide +kernel
theorem dX11_wantsOf_1 : decode cX11_wantsOf 1 = .ok (.istore_n 2, 1) := by decide +kernel
theorem dX11_wantsOf_2 : decode cX11_wantsOf 2 = .ok (.iconst 0, 1) := by decide +kernel
theorem dX11_wantsOf_3 : decode cX11_wantsOf 3 = .ok (.istore_n 3, 1) := by decide +kernel
theorem dX11_wantsOf_4 : decode cX11_wantsOf 4 = .ok (.iload_n 3, 1) := by decide +kernel
theorem dX11_wantsOf_5 : decode cX11_wantsOf 5 = .ok (.iconst 5, 1) := by decide +kernel
theorem dX11_wantsOf_6 : decode cX11_wantsOf 6 = .ok (.if_icmp .ge 26, 3) := by decide +kernel
theorem dX11_wantsOf_9 : decode cX11_wantsOf 9 = .ok (.iload_n 2, 1) := by decide +kernel
theorem dX11_wantsOf_10 : decode cX11_wantsOf 10 = .ok (.aload_n 0, 1) := by decide +kernel
theorem dX11_wantsOf_11 : decode cX11_wantsOf 11 = .ok (.getfield 69, 3) := by decide +kernel
theorem dX11_wantsOf_14 : decode cX11_wantsOf 14 = .ok (.iload_n 1, 1) := by decide +kernel
theorem dX11_wantsOf_15 : decode cX11_wantsOf 15 = .ok (.invokestatic 372, 3) := by decide +kernel
theorem dX11_wantsOf_18 : decode cX11_wantsOf 18 = .ok (.bipush 14, 2) := by decide +kernel
theorem dX11_wantsOf_20 : decode cX11_wantsOf 20 = .ok (.iadd, 1) := by decide +kernel
theorem dX11_wantsOf_21 : decode cX11_wantsOf 21 = .ok (.iload_n 3, 1) := by decide +kernel
theorem dX11_wantsOf_22 : decode cX11_wantsOf 22 = .ok (.iadd, 1) := by decide +kernel
theorem dX11_wantsOf_23 : decode cX11_wantsOf 23 = .ok (.iaload, 1) := by decide +kernel
theorem dX11_wantsOf_24 : decode cX11_wantsOf 24 = .ok (.iadd, 1) := by decide +kernel
theorem dX11_wantsOf_25 : decode cX11_wantsOf 25 = .ok (.istore_n 2, 1) := by decide +kernel
theorem dX11_wantsOf_26 : decode cX11_wantsOf 26 = .ok (.iinc 3 1, 3) := by decide +kernel
theorem dX11_wantsOf_29 : decode cX11_wantsOf 29 = .ok (.goto (-25), 3) := by decide +kernel
theorem dX11_wantsOf_32 : decode cX11_wantsOf 32 = .ok (.iload_n 2, 1) := by decide +kernel
theorem dX11_wantsOf_33 : decode cX11_wantsOf 33 = .ok (.ireturn, 1) := by decide +kernel
set_option maxRecDepth 10000 in
theorem vX11_wantsOf_0 {κ : eg_K} {d : Nat} {post : Int32 → eg_H → Prop} (M : eg_H) (l1 : Int32) (h : eg_W κ gM mtX11_wantsOf d (eQI κ gM post) 4 [(0, vR (60, 0)), (1, vI l1), (2, vI (0 : Int32)), (3, vI (0 : Int32))] [] M) : eg_W κ gM mtX11_wantsOf d (eQI κ gM post) 0 [(0, vR (60, 0)), (1, vI l1)] [] M := by
  refine eg_iconst dX11_wantsOf_0 ic_0 ?_
  refine eg_istore_n dX11_wantsOf_1 rfl (by decide) (ls1 := [(2, vI (0 : Int32)), (0, vR (60, 0)), (1, vI l1)]) rfl ?_
  refine eg_iconst dX11_wantsOf_2 ic_0 ?_
  refine eg_istore_n dX11_wantsOf_3 rfl (by decide) (ls1 := [(3, vI (0 : Int32)), (2, vI (0 : Int32)), (0, vR (60, 0)), (1, vI l1)]) rfl ?_
  refine eg_sub [2, 3, 1, 0] rfl ?_
  exact h
set_option maxRecDepth 10000 in
theorem vX11_wantsOf_4 {κ : eg_K} {d : Nat} (hd : 1 ≤ d) {post : Int32 → eg_H → Prop} (M : eg_H) (l1 : Int32) (l2 : Int32) (l3 : Int32) (h : ((5 : Int32) ≤ l3 → post l2 M) ∧ ((¬ (5 : Int32) ≤ l3) → eCI κ gM mtX11_at d [vI l1] M (fun x2 M3 => (vp_in ((x2 + (14 : Int32)) + l3) 366 ∧ (∀ x6 : Int32, x6 = (l2 + (M3.1 (110, 0) ((x2 + (14 : Int32)) + l3).toNatClampNeg)) → (∀ x7 : Int32, x7 = (l3 + (1 : Int32)) → eg_W κ gM mtX11_wantsOf d (eQI κ gM post) 4 [(0, vR (60, 0)), (1, vI l1), (2, vI x6), (3, vI x7)] [] M3)))))) : eg_W κ gM mtX11_wantsOf d (eQI κ gM post) 4 [(0, vR (60, 0)), (1, vI l1), (2, vI l2), (3, vI l3)] [] M := by
  refine eg_iload_n 3 dX11_wantsOf_4 rfl rfl ?_
  refine eg_iconst dX11_wantsOf_5 ic_5 ?_
  refine eg_icmp_ge (tgt := 32) dX11_wantsOf_6 rfl (fun c1 => ?_) (fun c1 => ?_)
  · have h := h.1 c1
    refine eg_iload_n 2 dX11_wantsOf_32 rfl rfl ?_
    exact eg_ireturn dX11_wantsOf_33 rfl h
  · have h := h.2 c1
    refine eg_iload_n 2 dX11_wantsOf_9 rfl rfl ?_
    refine eg_aload_n 0 dX11_wantsOf_10 rfl rfl ?_
    refine eg_getR dX11_wantsOf_11 fl_11_69 rfl rfl (obM_60 z1) ?_
    show eg_W κ gM mtX11_wantsOf d (eQI κ gM post) 14 [(0, vR (60, 0)), (1, vI l1), (2, vI l2), (3, vI l3)] [vR (110, 0), vI l2] M
    refine eg_iload_n 1 dX11_wantsOf_14 rfl rfl ?_
    obtain ⟨q4, hq4, h⟩ := h
    refine eg_callSI (av := [vI l1]) (st := [vR (110, 0), vI l2]) dX11_wantsOf_15 ml_11_372 rfl rfl (Nat.le_of_ble_eq_true rfl) (eg_dd hd) hq4 (fun x2 M3 hp => ?_)
    have h := h x2 M3 hp
    refine eg_bipush dX11_wantsOf_18 bp_14 ?_
    refine eg_iadd dX11_wantsOf_20 ?_
    refine eg_iload_n 3 dX11_wantsOf_21 rfl rfl ?_
    refine eg_iadd dX11_wantsOf_22 ?_
    obtain ⟨g5, h⟩ := h
    refine eg_iaload dX11_wantsOf_23 (arM_110 z1 g5) ?_
    refine eg_iadd dX11_wantsOf_24 ?_
    refine en_istore_n (f := fun x6 => [(2, vI x6), (0, vR (60, 0)), (1, vI l1), (3, vI l3)]) dX11_wantsOf_25 rfl (by decide) rfl (fun x6 ex6 => ?_)
    have h := h x6 ex6
    refine en_iinc (f := fun x7 => [(3, vI x7), (2, vI x6), (0, vR (60, 0)), (1, vI l1)]) 3 dX11_wantsOf_26 rfl rfl (by decide) rfl (fun x7 ex7 => ?_)
    have h := h x7 ex7
    refine eg_goto (tgt := 4) dX11_wantsOf_29 rfl ?_
    refine eg_sub [2, 3, 1, 0] rfl ?_
    exact h
theorem dX11_outOfLine_0 : decode cX11_outOfLine 0 = .ok (.iload_n 1, 1) := by decide +kernel
theorem dX11_outOfLine_1 : decode cX11_outOfLine 1 = .ok (.istore_n 2, 1) := by decide +kernel
theorem dX11_outOfLine_2 : decode cX11_outOfLine 2 = .ok (.iload_n 2, 1) := by decide +kernel
theorem dX11_outOfLine_3 : decode cX11_outOfLine 3 = .ok (.iconst 1, 1) := by decide +kernel
theorem dX11_outOfLine_4 : decode cX11_outOfLine 4 = .ok (.iadd, 1) := by decide +kernel
theorem dX11_outOfLine_5 : decode cX11_outOfLine 5 = .ok (.aload_n 0, 1) := by decide +kernel
theorem dX11_outOfLine_6 : decode cX11_outOfLine 6 = .ok (.getfield 69, 3) := by decide +kernel
theorem dX11_outOfLine_9 : decode cX11_outOfLine 9 = .ok (.iconst 1, 1) := by decide +kernel
theorem dX11_outOfLine_10 : decode cX11_outOfLine 10 = .ok (.iaload, 1) := by decide +kernel
theorem dX11_outOfLine_11 : decode cX11_outOfLine 11 = .ok (.if_icmp .ge 25, 3) := by decide +kernel
theorem dX11_outOfLine_14 : decode cX11_outOfLine 14 = .ok (.aload_n 0, 1) := by decide +kernel
theorem dX11_outOfLine_15 : decode cX11_outOfLine 15 = .ok (.getfield 69, 3) := by decide +kernel
theorem dX11_outOfLine_18 : decode cX11_outOfLine 18 = .ok (.iconst 2, 1) := by decide +kernel
theorem dX11_outOfLine_19 : decode cX11_outOfLine 19 = .ok (.iload_n 2, 1) := by decide +kernel
theorem dX11_outOfLine_20 : decode cX11_outOfLine 20 = .ok (.iadd, 1) := by decide +kernel
theorem dX11_outOfLine_21 : decode cX11_outOfLine 21 = .ok (.aload_n 0, 1) := by decide +kernel
theorem dX11_outOfLine_22 : decode cX11_outOfLine 22 = .ok (.getfield 69, 3) := by decide +kernel
theorem dX11_outOfLine_25 : decode cX11_outOfLine 25 = .ok (.iconst 3, 1) := by decide +kernel
theorem dX11_outOfLine_26 : decode cX11_outOfLine 26 = .ok (.iload_n 2, 1) := by decide +kernel
theorem dX11_outOfLine_27 : decode cX11_outOfLine 27 = .ok (.iadd, 1) := by decide +kernel
theorem dX11_outOfLine_28 : decode cX11_outOfLine 28 = .ok (.iaload, 1) := by decide +kernel
theorem dX11_outOfLine_29 : decode cX11_outOfLine 29 = .ok (.iastore, 1) := by decide +kernel
theorem dX11_outOfLine_30 : decode cX11_outOfLine 30 = .ok (.iinc 2 1, 3) := by decide +kernel
theorem dX11_outOfLine_33 : decode cX11_outOfLine 33 = .ok (.goto (-31), 3) := by decide +kernel
theorem dX11_outOfLine_36 : decode cX11_outOfLine 36 = .ok (.aload_n 0, 1) := by decide +kernel
theorem dX11_outOfLine_37 : decode cX11_outOfLine 37 = .ok (.getfield 69, 3) := by decide +kernel
theorem dX11_outOfLine_40 : decode cX11_outOfLine 40 = .ok (.iconst 1, 1) := by decide +kernel
theorem dX11_outOfLine_41 : decode cX11_outOfLine 41 = .ok (.dup2, 1) := by decide +kernel
theorem dX11_outOfLine_42 : decode cX11_outOfLine 42 = .ok (.iaload, 1) := by decide +kernel
theorem dX11_outOfLine_43 : decode cX11_outOfLine 43 = .ok (.iconst 1, 1) := by decide +kernel
theorem dX11_outOfLine_44 : decode cX11_outOfLine 44 = .ok (.isub, 1) := by decide +kernel
theorem dX11_outOfLine_45 : decode cX11_outOfLine 45 = .ok (.iastore, 1) := by decide +kernel
theorem dX11_outOfLine_46 : decode cX11_outOfLine 46 = .ok (.return_, 1) := by decide +kernel
set_option maxRecDepth 10000 in
theorem vX11_outOfLine_0 {κ : eg_K} {d : Nat} {post : eg_H → Prop} (M : eg_H) (l1 : Int32) (h : eg_W κ gM mtX11_outOfLine d (eQV κ gM post) 2 [(0, vR (60, 0)), (2, vI l1)] [] M) : eg_W κ gM mtX11_outOfLine d (eQV κ gM post) 0 [(0, vR (60, 0)), (1, vI l1)] [] M := by
  refine eg_iload_n 1 dX11_outOfLine_0 rfl rfl ?_
  refine eg_istore_n dX11_outOfLine_1 rfl (by decide) (ls1 := [(2, vI l1), (0, vR (60, 0)), (1, vI l1)]) rfl ?_
  refine eg_sub [1, 0] rfl ?_
  exact h
set_option maxRecDepth 10000 in
theorem vX11_outOfLine_2 {κ : eg_K} {d : Nat} {post : eg_H → Prop} (M : eg_H) (l2 : Int32) (h : (vp_in (1 : Int32) 366 ∧ ((M.1 (110, 0) (1 : Int32).toNatClampNeg) ≤ (l2 + (1 : Int32)) → (∀ M3 : eg_H, M3 = (sI M (110, 0) (1 : Int32).toNatClampNeg ((M.1 (110, 0) (1 : Int32).toNatClampNeg) - (1 : Int32))) → post M3)) ∧ ((¬ (M.1 (110, 0) (1 : Int32).toNatClampNeg) ≤ (l2 + (1 : Int32))) → (vp_in ((3 : Int32) + l2) 366 ∧ (vp_in ((2 : Int32) + l2) 366 ∧ (∀ M6 : eg_H, M6 = (sI M (110, 0) ((2 : Int32) + l2).toNatClampNeg (M.1 (110, 0) ((3 : Int32) + l2).toNatClampNeg)) → (∀ x7 : Int32, x7 = (l2 + (1 : Int32)) → eg_W κ gM mtX11_outOfLine d (eQV κ gM post) 2 [(0, vR (60, 0)), (2, vI x7)] [] M6))))))) : eg_W κ gM mtX11_outOfLine d (eQV κ gM post) 2 [(0, vR (60, 0)), (2, vI l2)] [] M := by
  refine eg_iload_n 1 dX11_outOfLine_2 rfl rfl ?_
  refine eg_iconst dX11_outOfLine_3 ic_1 ?_
  refine eg_iadd dX11_outOfLine_4 ?_
  refine eg_aload_n 0 dX11_outOfLine_5 rfl rfl ?_
  refine eg_getR dX11_outOfLine_6 fl_11_69 rfl rfl (obM_60 z1) ?_
  show eg_W κ gM mtX11_outOfLine d (eQV κ gM post) 9 [(0, vR (60, 0)), (2, vI l2)] [vR (110, 0), vI (l2 + (1 : Int32))] M
  refine eg_iconst dX11_outOfLine_9 ic_1 ?_
  obtain ⟨g1, h⟩ := h
  refine eg_iaload dX11_outOfLine_10 (arM_110 z1 g1) ?_
  refine eg_icmp_ge (tgt := 36) dX11_outOfLine_11 rfl (fun c2 => ?_) (fun c2 => ?_)
  · have h := h.1 c2
    refine eg_aload_n 0 dX11_outOfLine_36 rfl rfl ?_
    refine eg_getR dX11_outOfLine_37 fl_11_69 rfl rfl (obM_60 z1) ?_
    show eg_W κ gM mtX11_outOfLine d (eQV κ gM post) 40 [(0, vR (60, 0)), (2, vI l2)] [vR (110, 0)] M
    refine eg_iconst dX11_outOfLine_40 ic_1 ?_
    refine eg_dup2 dX11_outOfLine_41 rfl rfl ?_
    refine eg_iaload dX11_outOfLine_42 (arM_110 z1 g1) ?_
    refine eg_iconst dX11_outOfLine_43 ic_1 ?_
    refine eg_isub dX11_outOfLine_44 ?_
    refine en_iastore dX11_outOfLine_45 (arM_110 z1 g1) (fun M3 eM3 => ?_)
    have h := h M3 eM3
    exact eg_vreturn dX11_outOfLine_46 rfl h
  · have h := h.2 c2
    refine eg_aload_n 0 dX11_outOfLine_14 rfl rfl ?_
    refine eg_getR dX11_outOfLine_15 fl_11_69 rfl rfl (obM_60 z1) ?_
    show eg_W κ gM mtX11_outOfLine d (eQV κ gM post) 18 [(0, vR (60, 0)), (2, vI l2)] [vR (110, 0)] M
    refine eg_iconst dX11_outOfLine_18 ic_2 ?_
    refine eg_iload_n 1 dX11_outOfLine_19 rfl rfl ?_
    refine eg_iadd dX11_outOfLine_20 ?_
    refine eg_aload_n 0 dX11_outOfLine_21 rfl rfl ?_
    refine eg_getR dX11_outOfLine_22 fl_11_69 rfl rfl (obM_60 z1) ?_
    show eg_W κ gM mtX11_outOfLine d (eQV κ gM post) 25 [(0, vR (60, 0)), (2, vI l2)] [vR (110, 0), vI ((2 : Int32) + l2), vR (110, 0)] M
    refine eg_iconst dX11_outOfLine_25 ic_3 ?_
    refine eg_iload_n 1 dX11_outOfLine_26 rfl rfl ?_
    refine eg_iadd dX11_outOfLine_27 ?_
    obtain ⟨g4, h⟩ := h
    refine eg_iaload dX11_outOfLine_28 (arM_110 z1 g4) ?_
    obtain ⟨g5, h⟩ := h
    refine en_iastore dX11_outOfLine_29 (arM_110 z1 g5) (fun M6 eM6 => ?_)
    have h := h M6 eM6
    refine en_iinc (f := fun x7 => [(2, vI x7), (0, vR (60, 0))]) 1 dX11_outOfLine_30 rfl rfl (by decide) rfl (fun x7 ex7 => ?_)
    have h := h x7 ex7
    refine eg_goto (tgt := 2) dX11_outOfLine_33 rfl ?_
    refine eg_sub [1, 0] rfl ?_
    exact h
theorem dX11_sits_0 : decode cX11_sits 0 = .ok (.aload_n 0, 1) := by decide +kernel
theorem dX11_sits_1 : decode cX11_sits 1 = .ok (.getfield 69, 3) := by decide +kernel
theorem dX11_sits_4 : decode cX11_sits 4 = .ok (.iconst 2, 1) := by decide +kernel
theorem dX11_sits_5 : decode cX11_sits 5 = .ok (.iload_n 1, 1) := by decide +kernel
theorem dX11_sits_6 : decode cX11_sits 6 = .ok (.iadd, 1) := by decide +kernel
theorem dX11_sits_7 : decode cX11_sits 7 = .ok (.iaload, 1) := by decide +kernel
theorem dX11_sits_8 : decode cX11_sits 8 = .ok (.istore_n 2, 1) := by decide +kernel
theorem dX11_sits_9 : decode cX11_sits 9 = .ok (.iload_n 2, 1) := by decide +kernel
theorem dX11_sits_10 : decode cX11_sits 10 = .ok (.invokestatic 372, 3) := by decide +kernel
theorem dX11_sits_13 : decode cX11_sits 13 = .ok (.istore_n 3, 1) := by decide +kernel
theorem dX11_sits_14 : decode cX11_sits 14 = .ok (.aload_n 0, 1) := by decide +kernel
theorem dX11_sits_15 : decode cX11_sits 15 = .ok (.iload_n 2, 1) := by decide +kernel
theorem dX11_sits_16 : decode cX11_sits 16 = .ok (.invokevirtual 412, 3) := by decide +kernel
theorem dX11_sits_19 : decode cX11_sits 19 = .ok (.istore 4, 2) := by decide +kernel
theorem dX11_sits_21 : decode cX11_sits 21 = .ok (.aload_n 0, 1) := by decide +kernel
theorem dX11_sits_22 : decode cX11_sits 22 = .ok (.iload_n 2, 1) := by decide +kernel
theorem dX11_sits_23 : decode cX11_sits 23 = .ok (.aload_n 0, 1) := by decide +kernel
theorem dX11_sits_24 : decode cX11_sits 24 = .ok (.iload_n 2, 1) := by decide +kernel
theorem dX11_sits_25 : decode cX11_sits 25 = .ok (.invokevirtual 424, 3) := by decide +kernel
theorem dX11_sits_28 : decode cX11_sits 28 = .ok (.i2l, 1) := by decide +kernel
theorem dX11_sits_29 : decode cX11_sits 29 = .ok (.lconst 0, 1) := by decide +kernel
theorem dX11_sits_30 : decode cX11_sits 30 = .ok (.lconst 0, 1) := by decide +kernel
theorem dX11_sits_31 : decode cX11_sits 31 = .ok (.invokevirtual 420, 3) := by decide +kernel
theorem dX11_sits_34 : decode cX11_sits 34 = .ok (.aload_n 0, 1) := by decide +kernel
theorem dX11_sits_35 : decode cX11_sits 35 = .ok (.iconst 2, 1) := by decide +kernel
theorem dX11_sits_36 : decode cX11_sits 36 = .ok (.iload 4, 2) := by decide +kernel
theorem dX11_sits_38 : decode cX11_sits 38 = .ok (.i2l, 1) := by decide +kernel
theorem dX11_sits_39 : decode cX11_sits 39 = .ok (.invokevirtual 427, 3) := by decide +kernel
theorem dX11_sits_42 : decode cX11_sits 42 = .ok (.lstore 5, 2) := by decide +kernel
theorem dX11_sits_44 : decode cX11_sits 44 = .ok (.lload 5, 2) := by decide +kernel
theorem dX11_sits_46 : decode cX11_sits 46 = .ok (.lconst 0, 1) := by decide +kernel
theorem dX11_sits_47 : decode cX11_sits 47 = .ok (.lcmp, 1) := by decide +kernel
theorem dX11_sits_48 : decode cX11_sits 48 = .ok (.ifCond .ge 7, 3) := by decide +kernel
theorem dX11_sits_51 : decode cX11_sits 51 = .ok (.lconst 0, 1) := by decide +kernel
theorem dX11_sits_52 : decode cX11_sits 52 = .ok (.goto 20, 3) := by decide +kernel
theorem dX11_sits_55 : decode cX11_sits 55 = .ok (.lload 5, 2) := by decide +kernel
theorem dX11_sits_57 : decode cX11_sits 57 = .ok (.iload 4, 2) := by decide +kernel
theorem dX11_sits_59 : decode cX11_sits 59 = .ok (.i2l, 1) := by decide +kernel
theorem dX11_sits_60 : decode cX11_sits 60 = .ok (.lcmp, 1) := by decide +kernel
theorem dX11_sits_61 : decode cX11_sits 61 = .ok (.ifCond .le 9, 3) := by decide +kernel
theorem dX11_sits_64 : decode cX11_sits 64 = .ok (.iload 4, 2) := by decide +kernel
theorem dX11_sits_66 : decode cX11_sits 66 = .ok (.i2l, 1) := by decide +kernel
theorem dX11_sits_67 : decode cX11_sits 67 = .ok (.goto 5, 3) := by decide +kernel
theorem dX11_sits_70 : decode cX11_sits 70 = .ok (.lload 5, 2) := by decide +kernel
theorem dX11_sits_72 : decode cX11_sits 72 = .ok (.l2i, 1) := by decide +kernel
theorem dX11_sits_73 : decode cX11_sits 73 = .ok (.istore 7, 2) := by decide +kernel
theorem dX11_sits_75 : decode cX11_sits 75 = .ok (.aload_n 0, 1) := by decide +kernel
theorem dX11_sits_76 : decode cX11_sits 76 = .ok (.getfield 69, 3) := by decide +kernel
theorem dX11_sits_79 : decode cX11_sits 79 = .ok (.iload_n 3, 1) := by decide +kernel
theorem dX11_sits_80 : decode cX11_sits 80 = .ok (.bipush 6, 2) := by decide +kernel
theorem dX11_sits_82 : decode cX11_sits 82 = .ok (.iadd, 1) := by decide +kernel
theorem dX11_sits_83 : decode cX11_sits 83 = .ok (.dup2, 1) := by decide +kernel
theorem dX11_sits_84 : decode cX11_sits 84 = .ok (.iaload, 1) := by decide +kernel
theorem dX11_sits_85 : decode cX11_sits 85 = .ok (.iload 7, 2) := by decide +kernel
theorem dX11_sits_87 : decode cX11_sits 87 = .ok (.iadd, 1) := by decide +kernel
theorem dX11_sits_88 : decode cX11_sits 88 = .ok (.iastore, 1) := by decide +kernel
theorem dX11_sits_89 : decode cX11_sits 89 = .ok (.aload_n 0, 1) := by decide +kernel
theorem dX11_sits_90 : decode cX11_sits 90 = .ok (.getfield 69, 3) := by decide +kernel
theorem dX11_sits_93 : decode cX11_sits 93 = .ok (.iload_n 3, 1) := by decide +kernel
theorem dX11_sits_94 : decode cX11_sits 94 = .ok (.bipush 7, 2) := by decide +kernel
theorem dX11_sits_96 : decode cX11_sits 96 = .ok (.iadd, 1) := by decide +kernel
theorem dX11_sits_97 : decode cX11_sits 97 = .ok (.dup2, 1) := by decide +kernel
theorem dX11_sits_98 : decode cX11_sits 98 = .ok (.iaload, 1) := by decide +kernel
theorem dX11_sits_99 : decode cX11_sits 99 = .ok (.iload 4, 2) := by decide +kernel
theorem dX11_sits_101 : decode cX11_sits 101 = .ok (.iload 7, 2) := by decide +kernel
theorem dX11_sits_103 : decode cX11_sits 103 = .ok (.isub, 1) := by decide +kernel
theorem dX11_sits_104 : decode cX11_sits 104 = .ok (.iadd, 1) := by decide +kernel
theorem dX11_sits_105 : decode cX11_sits 105 = .ok (.iastore, 1) := by decide +kernel
theorem dX11_sits_106 : decode cX11_sits 106 = .ok (.aload_n 0, 1) := by decide +kernel
theorem dX11_sits_107 : decode cX11_sits 107 = .ok (.iload_n 2, 1) := by decide +kernel
theorem dX11_sits_108 : decode cX11_sits 108 = .ok (.invokevirtual 424, 3) := by decide +kernel
theorem dX11_sits_111 : decode cX11_sits 111 = .ok (.ifCond .le 19, 3) := by decide +kernel
theorem dX11_sits_114 : decode cX11_sits 114 = .ok (.aload_n 0, 1) := by decide +kernel
theorem dX11_sits_115 : decode cX11_sits 115 = .ok (.getfield 224, 3) := by decide +kernel
theorem dX11_sits_118 : decode cX11_sits 118 = .ok (.ifCond .le 12, 3) := by decide +kernel
theorem dX11_sits_121 : decode cX11_sits 121 = .ok (.iload 4, 2) := by decide +kernel
theorem dX11_sits_123 : decode cX11_sits 123 = .ok (.ifCond .le 7, 3) := by decide +kernel
theorem dX11_sits_126 : decode cX11_sits 126 = .ok (.iconst 1, 1) := by decide +kernel
theorem dX11_sits_127 : decode cX11_sits 127 = .ok (.goto 4, 3) := by decide +kernel
theorem dX11_sits_130 : decode cX11_sits 130 = .ok (.iconst 0, 1) := by decide +kernel
theorem dX11_sits_131 : decode cX11_sits 131 = .ok (.istore 8, 2) := by decide +kernel
theorem dX11_sits_133 : decode cX11_sits 133 = .ok (.aload_n 0, 1) := by decide +kernel
theorem dX11_sits_134 : decode cX11_sits 134 = .ok (.getfield 69, 3) := by decide +kernel
theorem dX11_sits_137 : decode cX11_sits 137 = .ok (.iload_n 3, 1) := by decide +kernel
theorem dX11_sits_138 : decode cX11_sits 138 = .ok (.iload 8, 2) := by decide +kernel
theorem dX11_sits_140 : decode cX11_sits 140 = .ok (.ifCond .eq 7, 3) := by decide +kernel
theorem dX11_sits_143 : decode cX11_sits 143 = .ok (.iconst 2, 1) := by decide +kernel
theorem dX11_sits_144 : decode cX11_sits 144 = .ok (.goto 4, 3) := by decide +kernel
theorem dX11_sits_147 : decode cX11_sits 147 = .ok (.iconst 3, 1) := by decide +kernel
theorem dX11_sits_148 : decode cX11_sits 148 = .ok (.iastore, 1) := by decide +kernel
theorem dX11_sits_149 : decode cX11_sits 149 = .ok (.aload_n 0, 1) := by decide +kernel
theorem dX11_sits_150 : decode cX11_sits 150 = .ok (.getfield 69, 3) := by decide +kernel
theorem dX11_sits_153 : decode cX11_sits 153 = .ok (.iload_n 3, 1) := by decide +kernel
theorem dX11_sits_154 : decode cX11_sits 154 = .ok (.bipush 11, 2) := by decide +kernel
theorem dX11_sits_156 : decode cX11_sits 156 = .ok (.iadd, 1) := by decide +kernel
theorem dX11_sits_157 : decode cX11_sits 157 = .ok (.aload_n 0, 1) := by decide +kernel
theorem dX11_sits_158 : decode cX11_sits 158 = .ok (.getfield 69, 3) := by decide +kernel
theorem dX11_sits_161 : decode cX11_sits 161 = .ok (.iconst 0, 1) := by decide +kernel
theorem dX11_sits_162 : decode cX11_sits 162 = .ok (.iaload, 1) := by decide +kernel
theorem dX11_sits_163 : decode cX11_sits 163 = .ok (.aload_n 0, 1) := by decide +kernel
theorem dX11_sits_164 : decode cX11_sits 164 = .ok (.getfield 224, 3) := by decide +kernel
theorem dX11_sits_167 : decode cX11_sits 167 = .ok (.iadd, 1) := by decide +kernel
theorem dX11_sits_168 : decode cX11_sits 168 = .ok (.iastore, 1) := by decide +kernel
theorem dX11_sits_169 : decode cX11_sits 169 = .ok (.aload_n 0, 1) := by decide +kernel
theorem dX11_sits_170 : decode cX11_sits 170 = .ok (.getfield 69, 3) := by decide +kernel
theorem dX11_sits_173 : decode cX11_sits 173 = .ok (.iload_n 3, 1) := by decide +kernel
theorem dX11_sits_174 : decode cX11_sits 174 = .ok (.iconst 1, 1) := by decide +kernel
theorem dX11_sits_175 : decode cX11_sits 175 = .ok (.iadd, 1) := by decide +kernel
theorem dX11_sits_176 : decode cX11_sits 176 = .ok (.iconst (-1), 1) := by decide +kernel
theorem dX11_sits_177 : decode cX11_sits 177 = .ok (.iastore, 1) := by decide +kernel
theorem dX11_sits_178 : decode cX11_sits 178 = .ok (.aload_n 0, 1) := by decide +kernel
theorem dX11_sits_179 : decode cX11_sits 179 = .ok (.getfield 69, 3) := by decide +kernel
theorem dX11_sits_182 : decode cX11_sits 182 = .ok (.iload_n 3, 1) := by decide +kernel
theorem dX11_sits_183 : decode cX11_sits 183 = .ok (.iconst 2, 1) := by decide +kernel
theorem dX11_sits_184 : decode cX11_sits 184 = .ok (.iadd, 1) := by decide +kernel
theorem dX11_sits_185 : decode cX11_sits 185 = .ok (.aload_n 0, 1) := by decide +kernel
theorem dX11_sits_186 : decode cX11_sits 186 = .ok (.iload_n 2, 1) := by decide +kernel
theorem dX11_sits_187 : decode cX11_sits 187 = .ok (.invokevirtual 374, 3) := by decide +kernel
theorem dX11_sits_190 : decode cX11_sits 190 = .ok (.iastore, 1) := by decide +kernel
theorem dX11_sits_191 : decode cX11_sits 191 = .ok (.aload_n 0, 1) := by decide +kernel
theorem dX11_sits_192 : decode cX11_sits 192 = .ok (.iload_n 1, 1) := by decide +kernel
theorem dX11_sits_193 : decode cX11_sits 193 = .ok (.invokevirtual 431, 3) := by decide +kernel
theorem dX11_sits_196 : decode cX11_sits 196 = .ok (.return_, 1) := by decide +kernel
set_option maxRecDepth 10000 in
theorem vX11_sits_0 {κ : eg_K} {d : Nat} (hd : 1 ≤ d) {post : eg_H → Prop} (M : eg_H) (l1 : Int32) (h : (vp_in ((2 : Int32) + l1) 366 ∧ (∀ x2 : Int32, x2 = (M.1 (110, 0) ((2 : Int32) + l1).toNatClampNeg) → eCI κ gM mtX11_at d [vI x2] M (fun x3 M4 => eCI κ gM mtX11_plateOf d [vR (60, 0), vI x2] M4 (fun x6 M7 => eCI κ gM mtX11_wantsOf d [vR (60, 0), vI x2] M7 (fun x9 M10 => eCV κ gM mtX11_layNames d [vR (60, 0), vI x2, vL (x9.toInt64), vL (0 : Int64), vL (0 : Int64)] M10 (fun M12 => eCL κ gM mtX11_lawOf d [vR (60, 0), vI (2 : Int32), vL (x6.toInt64)] M12 (fun x14 M15 => (∀ x17 : Int64, x17 = ((if 0 ≤ (lg_cmp x14 (0 : Int64)) then (if (lg_cmp x14 (x6.toInt64)) ≤ 0 then x14 else (x6.toInt64)) else (0 : Int64))) → (∀ x18 : Int32, x18 = (x17.toInt32) → (vp_in (x3 + (6 : Int32)) 366 ∧ (∀ M20 : eg_H, M20 = (sI M15 (110, 0) (x3 + (6 : Int32)).toNatClampNeg ((M15.1 (110, 0) (x3 + (6 : Int32)).toNatClampNeg) + x18)) → (vp_in (x3 + (7 : Int32)) 366 ∧ (∀ M22 : eg_H, M22 = (sI M20 (110, 0) (x3 + (7 : Int32)).toNatClampNeg ((M20.1 (110, 0) (x3 + (7 : Int32)).toNatClampNeg) + (x6 - x18))) → eCI κ gM mtX11_wantsOf d [vR (60, 0), vI x2] M22 (fun x23 M24 => (∀ x26 : Int32, x26 = ((if x23 ≤ 0 then (0 : Int32) else (if (M24.1 (60, 0) 17) ≤ 0 then (0 : Int32) else (if x6 ≤ 0 then (0 : Int32) else (1 : Int32))))) → (∀ x27 : Int32, x27 = ((if x26 = 0 then (3 : Int32) else (2 : Int32))) → (vp_in x3 366 ∧ (∀ M29 : eg_H, M29 = (sI M24 (110, 0) x3.toNatClampNeg x27) → (vp_in (0 : Int32) 366 ∧ (vp_in (x3 + (11 : Int32)) 366 ∧ (∀ M32 : eg_H, M32 = (sI M29 (110, 0) (x3 + (11 : Int32)).toNatClampNeg ((M29.1 (110, 0) (0 : Int32).toNatClampNeg) + (M29.1 (60, 0) 17))) → (vp_in (x3 + (1 : Int32)) 366 ∧ (∀ M34 : eg_H, M34 = (sI M32 (110, 0) (x3 + (1 : Int32)).toNatClampNeg (-1 : Int32)) → eCI κ gM mtX11_sizeOf d [vR (60, 0), vI x2] M34 (fun x35 M36 => (vp_in (x3 + (2 : Int32)) 366 ∧ (∀ M39 : eg_H, M39 = (sI M36 (110, 0) (x3 + (2 : Int32)).toNatClampNeg x35) → eCV κ gM mtX11_outOfLine d [vR (60, 0), vI l1] M39 (fun M40 => post M40)))))))))))))))))))))))))))) : eg_W κ gM mtX11_sits d (eQV κ gM post) 0 [(0, vR (60, 0)), (1, vI l1)] [] M := by
  refine eg_aload_n 0 dX11_sits_0 rfl rfl ?_
  refine eg_getR dX11_sits_1 fl_11_69 rfl rfl (obM_60 z1) ?_
  show eg_W κ gM mtX11_sits d (eQV κ gM post) 4 [(0, vR (60, 0)), (1, vI l1)] [vR (110, 0)] M
  refine eg_iconst dX11_sits_4 ic_2 ?_
  refine eg_iload_n 1 dX11_sits_5 rfl rfl ?_
  refine eg_iadd dX11_sits_6 ?_
  obtain ⟨g1, h⟩ := h
  refine eg_iaload dX11_sits_7 (arM_110 z1 g1) ?_
  refine en_istore_n (f := fun x2 => [(2, vI x2), (0, vR (60, 0)), (1, vI l1)]) dX11_sits_8 rfl (by decide) rfl (fun x2 ex2 => ?_)
  have h := h x2 ex2
  refine eg_iload_n 0 dX11_sits_9 rfl rfl ?_
  obtain ⟨q5, hq5, h⟩ := h
  refine eg_callSI (av := [vI x2]) (st := []) dX11_sits_10 ml_11_372 rfl rfl (Nat.le_of_ble_eq_true rfl) (eg_dd hd) hq5 (fun x3 M4 hp => ?_)
  have h := h x3 M4 hp
  refine eg_istore_n dX11_sits_13 rfl (by decide) (ls1 := [(3, vI x3), (2, vI x2), (0, vR (60, 0)), (1, vI l1)]) rfl ?_
  refine eg_aload_n 2 dX11_sits_14 rfl rfl ?_
  refine eg_iload_n 1 dX11_sits_15 rfl rfl ?_
  obtain ⟨q8, hq8, h⟩ := h
  refine eg_callVI (av := [vI x2]) (st := []) dX11_sits_16 ml_11_412 rfl rfl (obM_60 z1) (by decide) rfl (Nat.le_of_ble_eq_true rfl) (eg_dd hd) hq8 (fun x6 M7 hp => ?_)
  have h := h x6 M7 hp
  refine eg_istore dX11_sits_19 (by decide) (ls1 := [(4, vI x6), (3, vI x3), (2, vI x2), (0, vR (60, 0)), (1, vI l1)]) rfl ?_
  refine eg_aload_n 3 dX11_sits_21 rfl rfl ?_
  refine eg_iload_n 2 dX11_sits_22 rfl rfl ?_
  refine eg_aload_n 3 dX11_sits_23 rfl rfl ?_
  refine eg_iload_n 2 dX11_sits_24 rfl rfl ?_
  obtain ⟨q11, hq11, h⟩ := h
  refine eg_callVI (av := [vI x2]) (st := [vI x2, vR (60, 0)]) dX11_sits_25 ml_11_424 rfl rfl (obM_60 z1) (by decide) rfl (Nat.le_of_ble_eq_true rfl) (eg_dd hd) hq11 (fun x9 M10 hp => ?_)
  have h := h x9 M10 hp
  refine eg_i2l dX11_sits_28 ?_
  refine eg_lconst dX11_sits_29 lc_0 ?_
  refine eg_lconst dX11_sits_30 lc_0 ?_
  obtain ⟨q13, hq13, h⟩ := h
  refine eg_callVV (av := [vI x2, vL (x9.toInt64), vL (0 : Int64), vL (0 : Int64)]) (st := []) dX11_sits_31 ml_11_420 rfl rfl (obM_60 z1) (by decide) rfl (Nat.le_of_ble_eq_true rfl) (eg_dd hd) hq13 (fun M12 hp => ?_)
  have h := h M12 hp
  refine eg_aload_n 3 dX11_sits_34 rfl rfl ?_
  refine eg_iconst dX11_sits_35 ic_2 ?_
  refine eg_iload 0 dX11_sits_36 rfl ?_
  refine eg_i2l dX11_sits_38 ?_
  obtain ⟨q16, hq16, h⟩ := h
  refine eg_callVL (av := [vI (2 : Int32), vL (x6.toInt64)]) (st := []) dX11_sits_39 ml_11_427 rfl rfl (obM_60 z1) (by decide) rfl (Nat.le_of_ble_eq_true rfl) (eg_dd hd) hq16 (fun x14 M15 hp => ?_)
  have h := h x14 M15 hp
  refine eg_lstore dX11_sits_42 (by decide) (ls1 := [(5, vL x14), (4, vI x6), (3, vI x3), (2, vI x2), (0, vR (60, 0)), (1, vI l1)]) rfl ?_
  refine eg_lload 0 dX11_sits_44 rfl ?_
  refine eg_lconst dX11_sits_46 lc_0 ?_
  refine eg_lcmp dX11_sits_47 ?_
  have J : ∀ x17 : Int64, x17 = (if 0 ≤ (lg_cmp x14 (0 : Int64)) then (if (lg_cmp x14 (x6.toInt64)) ≤ 0 then x14 else (x6.toInt64)) else (0 : Int64)) → eg_W κ gM mtX11_sits d (eQV κ gM post) 72 [(5, vL x14), (4, vI x6), (3, vI x3), (2, vI x2), (0, vR (60, 0)), (1, vI l1)] [vL x17] M15 := by
    intro x17 ex17
    have h := h x17 ex17
    refine eg_l2i dX11_sits_72 ?_
    refine en_istore (f := fun x18 => [(7, vI x18), (5, vL x14), (4, vI x6), (3, vI x3), (2, vI x2), (0, vR (60, 0)), (1, vI l1)]) dX11_sits_73 (by decide) rfl (fun x18 ex18 => ?_)
    have h := h x18 ex18
    refine eg_aload_n 5 dX11_sits_75 rfl rfl ?_
    refine eg_getR dX11_sits_76 fl_11_69 rfl rfl (obM_60 z1) ?_
    show eg_W κ gM mtX11_sits d (eQV κ gM post) 79 [(7, vI x18), (5, vL x14), (4, vI x6), (3, vI x3), (2, vI x2), (0, vR (60, 0)), (1, vI l1)] [vR (110, 0)] M15
    refine eg_iload_n 3 dX11_sits_79 rfl rfl ?_
    refine eg_bipush dX11_sits_80 bp_6 ?_
    refine eg_iadd dX11_sits_82 ?_
    refine eg_dup2 dX11_sits_83 rfl rfl ?_
    obtain ⟨g19, h⟩ := h
    refine eg_iaload dX11_sits_84 (arM_110 z1 g19) ?_
    refine eg_iload 0 dX11_sits_85 rfl ?_
    refine eg_iadd dX11_sits_87 ?_
    refine en_iastore dX11_sits_88 (arM_110 z1 g19) (fun M20 eM20 => ?_)
    have h := h M20 eM20
    refine eg_aload_n 5 dX11_sits_89 rfl rfl ?_
    refine eg_getR dX11_sits_90 fl_11_69 rfl rfl (obM_60 z1) ?_
    show eg_W κ gM mtX11_sits d (eQV κ gM post) 93 [(7, vI x18), (5, vL x14), (4, vI x6), (3, vI x3), (2, vI x2), (0, vR (60, 0)), (1, vI l1)] [vR (110, 0)] M20
    refine eg_iload_n 3 dX11_sits_93 rfl rfl ?_
    refine eg_bipush dX11_sits_94 bp_7 ?_
    refine eg_iadd dX11_sits_96 ?_
    refine eg_dup2 dX11_sits_97 rfl rfl ?_
    obtain ⟨g21, h⟩ := h
    refine eg_iaload dX11_sits_98 (arM_110 z1 g21) ?_
    refine eg_iload 2 dX11_sits_99 rfl ?_
    refine eg_iload 0 dX11_sits_101 rfl ?_
    refine eg_isub dX11_sits_103 ?_
    refine eg_iadd dX11_sits_104 ?_
    refine en_iastore dX11_sits_105 (arM_110 z1 g21) (fun M22 eM22 => ?_)
    have h := h M22 eM22
    refine eg_aload_n 5 dX11_sits_106 rfl rfl ?_
    refine eg_iload_n 4 dX11_sits_107 rfl rfl ?_
    obtain ⟨q25, hq25, h⟩ := h
    refine eg_callVI (av := [vI x2]) (st := []) dX11_sits_108 ml_11_424 rfl rfl (obM_60 z1) (by decide) rfl (Nat.le_of_ble_eq_true rfl) (eg_dd hd) hq25 (fun x23 M24 hp => ?_)
    have h := h x23 M24 hp
    have J : ∀ x26 : Int32, x26 = (if x23 ≤ 0 then (0 : Int32) else (if (M24.1 (60, 0) 17) ≤ 0 then (0 : Int32) else (if x6 ≤ 0 then (0 : Int32) else (1 : Int32)))) → eg_W κ gM mtX11_sits d (eQV κ gM post) 131 [(7, vI x18), (5, vL x14), (4, vI x6), (3, vI x3), (2, vI x2), (0, vR (60, 0)), (1, vI l1)] [vI x26] M24 := by
      intro x26 ex26
      have h := h x26 ex26
      refine eg_istore dX11_sits_131 (by decide) (ls1 := [(8, vI x26), (7, vI x18), (5, vL x14), (4, vI x6), (3, vI x3), (2, vI x2), (0, vR (60, 0)), (1, vI l1)]) rfl ?_
      refine eg_aload_n 6 dX11_sits_133 rfl rfl ?_
      refine eg_getR dX11_sits_134 fl_11_69 rfl rfl (obM_60 z1) ?_
      show eg_W κ gM mtX11_sits d (eQV κ gM post) 137 [(8, vI x26), (7, vI x18), (5, vL x14), (4, vI x6), (3, vI x3), (2, vI x2), (0, vR (60, 0)), (1, vI l1)] [vR (110, 0)] M24
      refine eg_iload_n 4 dX11_sits_137 rfl rfl ?_
      refine eg_iload 0 dX11_sits_138 rfl ?_
      have J : ∀ x27 : Int32, x27 = (if x26 = 0 then (3 : Int32) else (2 : Int32)) → eg_W κ gM mtX11_sits d (eQV κ gM post) 148 [(8, vI x26), (7, vI x18), (5, vL x14), (4, vI x6), (3, vI x3), (2, vI x2), (0, vR (60, 0)), (1, vI l1)] [vI x27, vI x3, vR (110, 0)] M24 := by
        intro x27 ex27
        have h := h x27 ex27
        obtain ⟨g28, h⟩ := h
        refine en_iastore dX11_sits_148 (arM_110 z1 g28) (fun M29 eM29 => ?_)
        have h := h M29 eM29
        refine eg_aload_n 6 dX11_sits_149 rfl rfl ?_
        refine eg_getR dX11_sits_150 fl_11_69 rfl rfl (obM_60 z1) ?_
        show eg_W κ gM mtX11_sits d (eQV κ gM post) 153 [(8, vI x26), (7, vI x18), (5, vL x14), (4, vI x6), (3, vI x3), (2, vI x2), (0, vR (60, 0)), (1, vI l1)] [vR (110, 0)] M29
        refine eg_iload_n 4 dX11_sits_153 rfl rfl ?_
        refine eg_bipush dX11_sits_154 bp_11 ?_
        refine eg_iadd dX11_sits_156 ?_
        refine eg_aload_n 6 dX11_sits_157 rfl rfl ?_
        refine eg_getR dX11_sits_158 fl_11_69 rfl rfl (obM_60 z1) ?_
        show eg_W κ gM mtX11_sits d (eQV κ gM post) 161 [(8, vI x26), (7, vI x18), (5, vL x14), (4, vI x6), (3, vI x3), (2, vI x2), (0, vR (60, 0)), (1, vI l1)] [vR (110, 0), vI (x3 + (11 : Int32)), vR (110, 0)] M29
        refine eg_iconst dX11_sits_161 ic_0 ?_
        obtain ⟨g30, h⟩ := h
        refine eg_iaload dX11_sits_162 (arM_110 z1 g30) ?_
        refine eg_aload_n 6 dX11_sits_163 rfl rfl ?_
        refine eg_getI dX11_sits_164 fl_11_224 rfl trivial (obM_60 z1) ?_
        refine eg_iadd dX11_sits_167 ?_
        obtain ⟨g31, h⟩ := h
        refine en_iastore dX11_sits_168 (arM_110 z1 g31) (fun M32 eM32 => ?_)
        have h := h M32 eM32
        refine eg_aload_n 6 dX11_sits_169 rfl rfl ?_
        refine eg_getR dX11_sits_170 fl_11_69 rfl rfl (obM_60 z1) ?_
        show eg_W κ gM mtX11_sits d (eQV κ gM post) 173 [(8, vI x26), (7, vI x18), (5, vL x14), (4, vI x6), (3, vI x3), (2, vI x2), (0, vR (60, 0)), (1, vI l1)] [vR (110, 0)] M32
        refine eg_iload_n 4 dX11_sits_173 rfl rfl ?_
        refine eg_iconst dX11_sits_174 ic_1 ?_
        refine eg_iadd dX11_sits_175 ?_
        refine eg_iconst dX11_sits_176 ic_m1 ?_
        obtain ⟨g33, h⟩ := h
        refine en_iastore dX11_sits_177 (arM_110 z1 g33) (fun M34 eM34 => ?_)
        have h := h M34 eM34
        refine eg_aload_n 6 dX11_sits_178 rfl rfl ?_
        refine eg_getR dX11_sits_179 fl_11_69 rfl rfl (obM_60 z1) ?_
        show eg_W κ gM mtX11_sits d (eQV κ gM post) 182 [(8, vI x26), (7, vI x18), (5, vL x14), (4, vI x6), (3, vI x3), (2, vI x2), (0, vR (60, 0)), (1, vI l1)] [vR (110, 0)] M34
        refine eg_iload_n 4 dX11_sits_182 rfl rfl ?_
        refine eg_iconst dX11_sits_183 ic_2 ?_
        refine eg_iadd dX11_sits_184 ?_
        refine eg_aload_n 6 dX11_sits_185 rfl rfl ?_
        refine eg_iload_n 5 dX11_sits_186 rfl rfl ?_
        obtain ⟨q37, hq37, h⟩ := h
        refine eg_callVI (av := [vI x2]) (st := [vI (x3 + (2 : Int32)), vR (110, 0)]) dX11_sits_187 ml_11_374 rfl rfl (obM_60 z1) (by decide) rfl (Nat.le_of_ble_eq_true rfl) (eg_dd hd) hq37 (fun x35 M36 hp => ?_)
        have h := h x35 M36 hp
        obtain ⟨g38, h⟩ := h
        refine en_iastore dX11_sits_190 (arM_110 z1 g38) (fun M39 eM39 => ?_)
        have h := h M39 eM39
        refine eg_aload_n 6 dX11_sits_191 rfl rfl ?_
        refine eg_iload_n 7 dX11_sits_192 rfl rfl ?_
        obtain ⟨q41, hq41, h⟩ := h
        refine eg_callVV (av := [vI l1]) (st := []) dX11_sits_193 ml_11_431 rfl rfl (obM_60 z1) (by decide) rfl (Nat.le_of_ble_eq_true rfl) (eg_dd hd) hq41 (fun M40 hp => ?_)
        have h := h M40 hp
        exact eg_vreturn dX11_sits_196 rfl h
      clear h
      refine eg_if_eq (tgt := 147) dX11_sits_140 rfl (fun c42 => ?_) (fun c42 => ?_)
      · refine eg_iconst dX11_sits_147 ic_3 ?_
        exact J _ (by rw [if_pos c42])
      · refine eg_iconst dX11_sits_143 ic_2 ?_
        refine eg_goto (tgt := 148) dX11_sits_144 rfl ?_
        exact J _ (by rw [if_neg c42])
    clear h
    refine eg_if_le (tgt := 130) dX11_sits_111 rfl (fun c43 => ?_) (fun c43 => ?_)
    · refine eg_iconst dX11_sits_130 ic_0 ?_
      exact J _ (by rw [if_pos c43])
    · refine eg_aload_n 5 dX11_sits_114 rfl rfl ?_
      refine eg_getI dX11_sits_115 fl_11_224 rfl trivial (obM_60 z1) ?_
      refine eg_if_le (tgt := 130) dX11_sits_118 rfl (fun c44 => ?_) (fun c44 => ?_)
      · refine eg_iconst dX11_sits_130 ic_0 ?_
        exact J _ (by rw [if_neg c43, if_pos c44])
      · refine eg_iload 2 dX11_sits_121 rfl ?_
        refine eg_if_le (tgt := 130) dX11_sits_123 rfl (fun c45 => ?_) (fun c45 => ?_)
        · refine eg_iconst dX11_sits_130 ic_0 ?_
          exact J _ (by rw [if_neg c43, if_neg c44, if_pos c45])
        · refine eg_iconst dX11_sits_126 ic_1 ?_
          refine eg_goto (tgt := 131) dX11_sits_127 rfl ?_
          exact J _ (by rw [if_neg c43, if_neg c44, if_neg c45])
  clear h
  refine eg_if_ge (tgt := 55) dX11_sits_48 rfl (fun c46 => ?_) (fun c46 => ?_)
  · refine eg_lload 0 dX11_sits_55 rfl ?_
    refine eg_iload 1 dX11_sits_57 rfl ?_
    refine eg_i2l dX11_sits_59 ?_
    refine eg_lcmp dX11_sits_60 ?_
    refine eg_if_le (tgt := 70) dX11_sits_61 rfl (fun c47 => ?_) (fun c47 => ?_)
    · refine eg_lload 0 dX11_sits_70 rfl ?_
      exact J _ (by rw [if_pos c46, if_pos c47])
    · refine eg_iload 1 dX11_sits_64 rfl ?_
      refine eg_i2l dX11_sits_66 ?_
      refine eg_goto (tgt := 72) dX11_sits_67 rfl ?_
      exact J _ (by rw [if_pos c46, if_neg c47])
  · refine eg_lconst dX11_sits_51 lc_0 ?_
    refine eg_goto (tgt := 72) dX11_sits_52 rfl ?_
    exact J _ (by rw [if_neg c46])
theorem dX11_nextOf_0 : decode cX11_nextOf 0 = .ok (.iload_n 1, 1) := by decide +kernel
theorem dX11_nextOf_1 : decode cX11_nextOf 1 = .ok (.invokestatic 372, 3) := by decide +kernel
theorem dX11_nextOf_4 : decode cX11_nextOf 4 = .ok (.istore_n 2, 1) := by decide +kernel
theorem dX11_nextOf_5 : decode cX11_nextOf 5 = .ok (.aload_n 0, 1) := by decide +kernel
theorem dX11_nextOf_6 : decode cX11_nextOf 6 = .ok (.getfield 69, 3) := by decide +kernel
theorem dX11_nextOf_9 : decode cX11_nextOf 9 = .ok (.iload_n 2, 1) := by decide +kernel
theorem dX11_nextOf_10 : decode cX11_nextOf 10 = .ok (.iconst 2, 1) := by decide +kernel
theorem dX11_nextOf_11 : decode cX11_nextOf 11 = .ok (.iadd, 1) := by decide +kernel
theorem dX11_nextOf_12 : decode cX11_nextOf 12 = .ok (.iaload, 1) := by decide +kernel
theorem dX11_nextOf_13 : decode cX11_nextOf 13 = .ok (.ifCond .ne 5, 3) := by decide +kernel
theorem dX11_nextOf_16 : decode cX11_nextOf 16 = .ok (.iconst (-1), 1) := by decide +kernel
theorem dX11_nextOf_17 : decode cX11_nextOf 17 = .ok (.ireturn, 1) := by decide +kernel
theorem dX11_nextOf_18 : decode cX11_nextOf 18 = .ok (.aload_n 0, 1) := by decide +kernel
theorem dX11_nextOf_19 : decode cX11_nextOf 19 = .ok (.getfield 69, 3) := by decide +kernel
theorem dX11_nextOf_22 : decode cX11_nextOf 22 = .ok (.iload_n 2, 1) := by decide +kernel
theorem dX11_nextOf_23 : decode cX11_nextOf 23 = .ok (.bipush 10, 2) := by decide +kernel
theorem dX11_nextOf_25 : decode cX11_nextOf 25 = .ok (.iadd, 1) := by decide +kernel
theorem dX11_nextOf_26 : decode cX11_nextOf 26 = .ok (.iaload, 1) := by decide +kernel
theorem dX11_nextOf_27 : decode cX11_nextOf 27 = .ok (.iconst 1, 1) := by decide +kernel
theorem dX11_nextOf_28 : decode cX11_nextOf 28 = .ok (.if_icmp .ne 14, 3) := by decide +kernel
theorem dX11_nextOf_31 : decode cX11_nextOf 31 = .ok (.aload_n 0, 1) := by decide +kernel
theorem dX11_nextOf_32 : decode cX11_nextOf 32 = .ok (.getfield 69, 3) := by decide +kernel
theorem dX11_nextOf_35 : decode cX11_nextOf 35 = .ok (.iload_n 2, 1) := by decide +kernel
theorem dX11_nextOf_36 : decode cX11_nextOf 36 = .ok (.iconst 1, 1) := by decide +kernel
theorem dX11_nextOf_37 : decode cX11_nextOf 37 = .ok (.iadd, 1) := by decide +kernel
theorem dX11_nextOf_38 : decode cX11_nextOf 38 = .ok (.iaload, 1) := by decide +kernel
theorem dX11_nextOf_39 : decode cX11_nextOf 39 = .ok (.goto 13, 3) := by decide +kernel
theorem dX11_nextOf_42 : decode cX11_nextOf 42 = .ok (.aload_n 0, 1) := by decide +kernel
theorem dX11_nextOf_43 : decode cX11_nextOf 43 = .ok (.getfield 69, 3) := by decide +kernel
theorem dX11_nextOf_46 : decode cX11_nextOf 46 = .ok (.iload_n 2, 1) := by decide +kernel
theorem dX11_nextOf_47 : decode cX11_nextOf 47 = .ok (.iconst 1, 1) := by decide +kernel
theorem dX11_nextOf_48 : decode cX11_nextOf 48 = .ok (.iadd, 1) := by decide +kernel
theorem dX11_nextOf_49 : decode cX11_nextOf 49 = .ok (.iaload, 1) := by decide +kernel
theorem dX11_nextOf_50 : decode cX11_nextOf 50 = .ok (.iconst 1, 1) := by decide +kernel
theorem dX11_nextOf_51 : decode cX11_nextOf 51 = .ok (.iadd, 1) := by decide +kernel
theorem dX11_nextOf_52 : decode cX11_nextOf 52 = .ok (.istore_n 3, 1) := by decide +kernel
theorem dX11_nextOf_53 : decode cX11_nextOf 53 = .ok (.iload_n 3, 1) := by decide +kernel
theorem dX11_nextOf_54 : decode cX11_nextOf 54 = .ok (.aload_n 0, 1) := by decide +kernel
theorem dX11_nextOf_55 : decode cX11_nextOf 55 = .ok (.getfield 209, 3) := by decide +kernel
theorem dX11_nextOf_58 : decode cX11_nextOf 58 = .ok (.if_icmp .ge 34, 3) := by decide +kernel
theorem dX11_nextOf_61 : decode cX11_nextOf 61 = .ok (.aload_n 0, 1) := by decide +kernel
theorem dX11_nextOf_62 : decode cX11_nextOf 62 = .ok (.getfield 69, 3) := by decide +kernel
theorem dX11_nextOf_65 : decode cX11_nextOf 65 = .ok (.iload_n 2, 1) := by decide +kernel
theorem dX11_nextOf_66 : decode cX11_nextOf 66 = .ok (.bipush 14, 2) := by decide +kernel
theorem dX11_nextOf_68 : decode cX11_nextOf 68 = .ok (.iadd, 1) := by decide +kernel
theorem dX11_nextOf_69 : decode cX11_nextOf 69 = .ok (.aload_n 0, 1) := by decide +kernel
theorem dX11_nextOf_70 : decode cX11_nextOf 70 = .ok (.getfield 69, 3) := by decide +kernel
theorem dX11_nextOf_73 : decode cX11_nextOf 73 = .ok (.sipush 360, 3) := by decide +kernel
theorem dX11_nextOf_76 : decode cX11_nextOf 76 = .ok (.iload_n 3, 1) := by decide +kernel
theorem dX11_nextOf_77 : decode cX11_nextOf 77 = .ok (.iadd, 1) := by decide +kernel
theorem dX11_nextOf_78 : decode cX11_nextOf 78 = .ok (.iaload, 1) := by decide +kernel
theorem dX11_nextOf_79 : decode cX11_nextOf 79 = .ok (.iadd, 1) := by decide +kernel
theorem dX11_nextOf_80 : decode cX11_nextOf 80 = .ok (.iaload, 1) := by decide +kernel
theorem dX11_nextOf_81 : decode cX11_nextOf 81 = .ok (.ifCond .le 5, 3) := by decide +kernel
theorem dX11_nextOf_84 : decode cX11_nextOf 84 = .ok (.iload_n 3, 1) := by decide +kernel
theorem dX11_nextOf_85 : decode cX11_nextOf 85 = .ok (.ireturn, 1) := by decide +kernel
theorem dX11_nextOf_86 : decode cX11_nextOf 86 = .ok (.iinc 3 1, 3) := by decide +kernel
theorem dX11_nextOf_89 : decode cX11_nextOf 89 = .ok (.goto (-36), 3) := by decide +kernel
theorem dX11_nextOf_92 : decode cX11_nextOf 92 = .ok (.iconst (-1), 1) := by decide +kernel
theorem dX11_nextOf_93 : decode cX11_nextOf 93 = .ok (.ireturn, 1) := by decide +kernel
set_option maxRecDepth 10000 in
theorem vX11_nextOf_0 {κ : eg_K} {d : Nat} (hd : 1 ≤ d) {post : Int32 → eg_H → Prop} (M : eg_H) (l1 : Int32) (h : eCI κ gM mtX11_at d [vI l1] M (fun x1 M2 => (vp_in (x1 + (2 : Int32)) 366 ∧ ((¬ (M2.1 (110, 0) (x1 + (2 : Int32)).toNatClampNeg) = 0) → (vp_in (x1 + (10 : Int32)) 366 ∧ (((¬ (M2.1 (110, 0) (x1 + (10 : Int32)).toNatClampNeg) = (1 : Int32)) → vp_in (x1 + (1 : Int32)) 366) ∧ (((M2.1 (110, 0) (x1 + (10 : Int32)).toNatClampNeg) = (1 : Int32) → vp_in (x1 + (1 : Int32)) 366) ∧ (∀ x9 : Int32, x9 = ((if (¬ (M2.1 (110, 0) (x1 + (10 : Int32)).toNatClampNeg) = (1 : Int32)) then ((M2.1 (110, 0) (x1 + (1 : Int32)).toNatClampNeg) + (1 : Int32)) else (M2.1 (110, 0) (x1 + (1 : Int32)).toNatClampNeg))) → eg_W κ gM mtX11_nextOf d (eQI κ gM post) 53 [(0, vR (60, 0)), (2, vI x1), (3, vI x9)] [] M2))))) ∧ ((M2.1 (110, 0) (x1 + (2 : Int32)).toNatClampNeg) = 0 → post (-1 : Int32) M2)))) : eg_W κ gM mtX11_nextOf d (eQI κ gM post) 0 [(0, vR (60, 0)), (1, vI l1)] [] M := by
  refine eg_iload_n 1 dX11_nextOf_0 rfl rfl ?_
  obtain ⟨q3, hq3, h⟩ := h
  refine eg_callSI (av := [vI l1]) (st := []) dX11_nextOf_1 ml_11_372 rfl rfl (Nat.le_of_ble_eq_true rfl) (eg_dd hd) hq3 (fun x1 M2 hp => ?_)
  have h := h x1 M2 hp
  refine eg_istore_n dX11_nextOf_4 rfl (by decide) (ls1 := [(2, vI x1), (0, vR (60, 0)), (1, vI l1)]) rfl ?_
  refine eg_aload_n 1 dX11_nextOf_5 rfl rfl ?_
  refine eg_getR dX11_nextOf_6 fl_11_69 rfl rfl (obM_60 z1) ?_
  show eg_W κ gM mtX11_nextOf d (eQI κ gM post) 9 [(2, vI x1), (0, vR (60, 0)), (1, vI l1)] [vR (110, 0)] M2
  refine eg_iload_n 0 dX11_nextOf_9 rfl rfl ?_
  refine eg_iconst dX11_nextOf_10 ic_2 ?_
  refine eg_iadd dX11_nextOf_11 ?_
  obtain ⟨g4, h⟩ := h
  refine eg_iaload dX11_nextOf_12 (arM_110 z1 g4) ?_
  refine eg_if_ne (tgt := 18) dX11_nextOf_13 rfl (fun c5 => ?_) (fun c5 => ?_)
  · have h := h.1 c5
    refine eg_aload_n 1 dX11_nextOf_18 rfl rfl ?_
    refine eg_getR dX11_nextOf_19 fl_11_69 rfl rfl (obM_60 z1) ?_
    show eg_W κ gM mtX11_nextOf d (eQI κ gM post) 22 [(2, vI x1), (0, vR (60, 0)), (1, vI l1)] [vR (110, 0)] M2
    refine eg_iload_n 0 dX11_nextOf_22 rfl rfl ?_
    refine eg_bipush dX11_nextOf_23 bp_10 ?_
    refine eg_iadd dX11_nextOf_25 ?_
    obtain ⟨g6, h⟩ := h
    refine eg_iaload dX11_nextOf_26 (arM_110 z1 g6) ?_
    refine eg_iconst dX11_nextOf_27 ic_1 ?_
    obtain ⟨g7, h⟩ := h
    obtain ⟨g8, h⟩ := h
    have J : ∀ x9 : Int32, x9 = (if (¬ (M2.1 (110, 0) (x1 + (10 : Int32)).toNatClampNeg) = (1 : Int32)) then ((M2.1 (110, 0) (x1 + (1 : Int32)).toNatClampNeg) + (1 : Int32)) else (M2.1 (110, 0) (x1 + (1 : Int32)).toNatClampNeg)) → eg_W κ gM mtX11_nextOf d (eQI κ gM post) 52 [(2, vI x1), (0, vR (60, 0)), (1, vI l1)] [vI x9] M2 := by
      intro x9 ex9
      have h := h x9 ex9
      refine eg_istore_n dX11_nextOf_52 rfl (by decide) (ls1 := [(3, vI x9), (2, vI x1), (0, vR (60, 0)), (1, vI l1)]) rfl ?_
      refine eg_sub [2, 1, 0] rfl ?_
      exact h
    clear h
    refine eg_icmp_ne (tgt := 42) dX11_nextOf_28 rfl (fun c10 => ?_) (fun c10 => ?_)
    · refine eg_aload_n 1 dX11_nextOf_42 rfl rfl ?_
      refine eg_getR dX11_nextOf_43 fl_11_69 rfl rfl (obM_60 z1) ?_
      show eg_W κ gM mtX11_nextOf d (eQI κ gM post) 46 [(2, vI x1), (0, vR (60, 0)), (1, vI l1)] [vR (110, 0)] M2
      refine eg_iload_n 0 dX11_nextOf_46 rfl rfl ?_
      refine eg_iconst dX11_nextOf_47 ic_1 ?_
      refine eg_iadd dX11_nextOf_48 ?_
      refine eg_iaload dX11_nextOf_49 (arM_110 z1 (g7 c10)) ?_
      refine eg_iconst dX11_nextOf_50 ic_1 ?_
      refine eg_iadd dX11_nextOf_51 ?_
      exact J _ (by rw [if_pos c10])
    · have c11 : ¬ (¬ (M2.1 (110, 0) (x1 + (10 : Int32)).toNatClampNeg) = (1 : Int32)) := fun z => z c10
      refine eg_aload_n 1 dX11_nextOf_31 rfl rfl ?_
      refine eg_getR dX11_nextOf_32 fl_11_69 rfl rfl (obM_60 z1) ?_
      show eg_W κ gM mtX11_nextOf d (eQI κ gM post) 35 [(2, vI x1), (0, vR (60, 0)), (1, vI l1)] [vR (110, 0)] M2
      refine eg_iload_n 0 dX11_nextOf_35 rfl rfl ?_
      refine eg_iconst dX11_nextOf_36 ic_1 ?_
      refine eg_iadd dX11_nextOf_37 ?_
      refine eg_iaload dX11_nextOf_38 (arM_110 z1 (g8 (show (M2.1 (110, 0) (x1 + (10 : Int32)).toNatClampNeg) = (1 : Int32) from by first | exact c11 | exact Classical.not_not.mp c11))) ?_
      refine eg_goto (tgt := 52) dX11_nextOf_39 rfl ?_
      exact J _ (by rw [if_neg c11])
  · have h := h.2 c5
    refine eg_iconst dX11_nextOf_16 ic_m1 ?_
    exact eg_ireturn dX11_nextOf_17 rfl h
set_option maxRecDepth 10000 in
theorem vX11_nextOf_53 {κ : eg_K} {d : Nat} {post : Int32 → eg_H → Prop} (M : eg_H) (l2 : Int32) (l3 : Int32) (h : ((M.1 (60, 0) 12) ≤ l3 → post (-1 : Int32) M) ∧ ((¬ (M.1 (60, 0) 12) ≤ l3) → (vp_in ((360 : Int32) + l3) 366 ∧ (vp_in ((l2 + (14 : Int32)) + (M.1 (110, 0) ((360 : Int32) + l3).toNatClampNeg)) 366 ∧ ((M.1 (110, 0) ((l2 + (14 : Int32)) + (M.1 (110, 0) ((360 : Int32) + l3).toNatClampNeg)).toNatClampNeg) ≤ 0 → (∀ x5 : Int32, x5 = (l3 + (1 : Int32)) → eg_W κ gM mtX11_nextOf d (eQI κ gM post) 53 [(0, vR (60, 0)), (2, vI l2), (3, vI x5)] [] M)) ∧ ((¬ (M.1 (110, 0) ((l2 + (14 : Int32)) + (M.1 (110, 0) ((360 : Int32) + l3).toNatClampNeg)).toNatClampNeg) ≤ 0) → post l3 M))))) : eg_W κ gM mtX11_nextOf d (eQI κ gM post) 53 [(0, vR (60, 0)), (2, vI l2), (3, vI l3)] [] M := by
  refine eg_iload_n 2 dX11_nextOf_53 rfl rfl ?_
  refine eg_aload_n 0 dX11_nextOf_54 rfl rfl ?_
  refine eg_getI dX11_nextOf_55 fl_11_209 rfl trivial (obM_60 z1) ?_
  refine eg_icmp_ge (tgt := 92) dX11_nextOf_58 rfl (fun c1 => ?_) (fun c1 => ?_)
  · have h := h.1 c1
    refine eg_iconst dX11_nextOf_92 ic_m1 ?_
    exact eg_ireturn dX11_nextOf_93 rfl h
  · have h := h.2 c1
    refine eg_aload_n 0 dX11_nextOf_61 rfl rfl ?_
    refine eg_getR dX11_nextOf_62 fl_11_69 rfl rfl (obM_60 z1) ?_
    show eg_W κ gM mtX11_nextOf d (eQI κ gM post) 65 [(0, vR (60, 0)), (2, vI l2), (3, vI l3)] [vR (110, 0)] M
    refine eg_iload_n 1 dX11_nextOf_65 rfl rfl ?_
    refine eg_bipush dX11_nextOf_66 bp_14 ?_
    refine eg_iadd dX11_nextOf_68 ?_
    refine eg_aload_n 0 dX11_nextOf_69 rfl rfl ?_
    refine eg_getR dX11_nextOf_70 fl_11_69 rfl rfl (obM_60 z1) ?_
    show eg_W κ gM mtX11_nextOf d (eQI κ gM post) 73 [(0, vR (60, 0)), (2, vI l2), (3, vI l3)] [vR (110, 0), vI (l2 + (14 : Int32)), vR (110, 0)] M
    refine eg_sipush dX11_nextOf_73 sp_360 ?_
    refine eg_iload_n 2 dX11_nextOf_76 rfl rfl ?_
    refine eg_iadd dX11_nextOf_77 ?_
    obtain ⟨g2, h⟩ := h
    refine eg_iaload dX11_nextOf_78 (arM_110 z1 g2) ?_
    refine eg_iadd dX11_nextOf_79 ?_
    obtain ⟨g3, h⟩ := h
    refine eg_iaload dX11_nextOf_80 (arM_110 z1 g3) ?_
    refine eg_if_le (tgt := 86) dX11_nextOf_81 rfl (fun c4 => ?_) (fun c4 => ?_)
    · have h := h.1 c4
      refine en_iinc (f := fun x5 => [(3, vI x5), (0, vR (60, 0)), (2, vI l2)]) 2 dX11_nextOf_86 rfl rfl (by decide) rfl (fun x5 ex5 => ?_)
      have h := h x5 ex5
      refine eg_goto (tgt := 53) dX11_nextOf_89 rfl ?_
      refine eg_sub [1, 2, 0] rfl ?_
      exact h
    · have h := h.2 c4
      refine eg_iload_n 2 dX11_nextOf_84 rfl rfl ?_
      exact eg_ireturn dX11_nextOf_85 rfl h
