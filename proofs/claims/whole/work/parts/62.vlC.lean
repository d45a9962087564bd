theorem dX10_feed_0 : decode cX10_feed 0 = .ok (.aload_n 0, 1) := by decide +kernel
theorem dX10_feed_1 : decode cX10_feed 1 = .ok (.getfield 78, 3) := by decide +kernel
theorem dX10_feed_4 : decode cX10_feed 4 = .ok (.bipush 20, 2) := by decide +kernel
theorem dX10_feed_6 : decode cX10_feed 6 = .ok (.iadd, 1) := by decide +kernel
theorem dX10_feed_7 : decode cX10_feed 7 = .ok (.sipush 800, 3) := by decide +kernel
theorem dX10_feed_10 : decode cX10_feed 10 = .ok (.if_icmp .le 5, 3) := by decide +kernel
theorem dX10_feed_13 : decode cX10_feed 13 = .ok (.iconst (-1), 1) := by decide +kernel
theorem dX10_feed_14 : decode cX10_feed 14 = .ok (.ireturn, 1) := by decide +kernel
theorem dX10_feed_15 : decode cX10_feed 15 = .ok (.aload_n 0, 1) := by decide +kernel
theorem dX10_feed_16 : decode cX10_feed 16 = .ok (.iload_n 1, 1) := by decide +kernel
theorem dX10_feed_17 : decode cX10_feed 17 = .ok (.invokevirtual 82, 3) := by decide +kernel
theorem dX10_feed_20 : decode cX10_feed 20 = .ok (.aload_n 0, 1) := by decide +kernel
theorem dX10_feed_21 : decode cX10_feed 21 = .ok (.iload_n 2, 1) := by decide +kernel
theorem dX10_feed_22 : decode cX10_feed 22 = .ok (.invokevirtual 82, 3) := by decide +kernel
theorem dX10_feed_25 : decode cX10_feed 25 = .ok (.aload_n 0, 1) := by decide +kernel
theorem dX10_feed_26 : decode cX10_feed 26 = .ok (.iload_n 3, 1) := by decide +kernel
theorem dX10_feed_27 : decode cX10_feed 27 = .ok (.invokevirtual 82, 3) := by decide +kernel
theorem dX10_feed_30 : decode cX10_feed 30 = .ok (.aload_n 0, 1) := by decide +kernel
theorem dX10_feed_31 : decode cX10_feed 31 = .ok (.iload 4, 2) := by decide +kernel
theorem dX10_feed_33 : decode cX10_feed 33 = .ok (.invokevirtual 82, 3) := by decide +kernel
theorem dX10_feed_36 : decode cX10_feed 36 = .ok (.aload_n 0, 1) := by decide +kernel
theorem dX10_feed_37 : decode cX10_feed 37 = .ok (.iload 5, 2) := by decide +kernel
theorem dX10_feed_39 : decode cX10_feed 39 = .ok (.invokevirtual 82, 3) := by decide +kernel
theorem dX10_feed_42 : decode cX10_feed 42 = .ok (.aload_n 0, 1) := by decide +kernel
theorem dX10_feed_43 : decode cX10_feed 43 = .ok (.getfield 78, 3) := by decide +kernel
theorem dX10_feed_46 : decode cX10_feed 46 = .ok (.ireturn, 1) := by decide +kernel
set_option maxRecDepth 10000 in
theorem vX10_feed_0 {κ : eg_K} {d : Nat} (hd : 1 ≤ d) {post : Int32 → eg_H → Prop} (M : eg_H) (l1 : Int32) (l2 : Int32) (l3 : Int32) (l4 : Int32) (l5 : Int32) (h : (((M.1 (10, 0) 1) + (20 : Int32)) ≤ (800 : Int32) → eCV κ gC mtX10_feedNumber d [vR (10, 0), vI l1] M (fun M2 => eCV κ gC mtX10_feedNumber d [vR (10, 0), vI l2] M2 (fun M4 => eCV κ gC mtX10_feedNumber d [vR (10, 0), vI l3] M4 (fun M6 => eCV κ gC mtX10_feedNumber d [vR (10, 0), vI l4] M6 (fun M8 => eCV κ gC mtX10_feedNumber d [vR (10, 0), vI l5] M8 (fun M10 => post (M10.1 (10, 0) 1) M10)))))) ∧ ((¬ ((M.1 (10, 0) 1) + (20 : Int32)) ≤ (800 : Int32)) → post (-1 : Int32) M)) : eg_W κ gC mtX10_feed d (eQI κ gC post) 0 [(0, vR (10, 0)), (1, vI l1), (2, vI l2), (3, vI l3), (4, vI l4), (5, vI l5)] [] M := by
  refine eg_aload_n 0 dX10_feed_0 rfl rfl ?_
  refine eg_getI dX10_feed_1 fl_10_78 rfl trivial (obC_10 z1) ?_
  refine eg_bipush dX10_feed_4 bp_20 ?_
  refine eg_iadd dX10_feed_6 ?_
  refine eg_sipush dX10_feed_7 sp_800 ?_
  refine eg_icmp_le (tgt := 15) dX10_feed_10 rfl (fun c1 => ?_) (fun c1 => ?_)
  · have h := h.1 c1
    refine eg_aload_n 0 dX10_feed_15 rfl rfl ?_
    refine eg_iload_n 1 dX10_feed_16 rfl rfl ?_
    obtain ⟨q3, hq3, h⟩ := h
    refine eg_callVV (av := [vI l1]) (st := []) dX10_feed_17 ml_10_82 rfl rfl (obC_10 z1) (by decide) rfl (Nat.le_of_ble_eq_true rfl) (eg_dd (by omega)) hq3 (fun M2 hp => ?_)
    have h := h M2 hp
    refine eg_aload_n 0 dX10_feed_20 rfl rfl ?_
    refine eg_iload_n 2 dX10_feed_21 rfl rfl ?_
    obtain ⟨q5, hq5, h⟩ := h
    refine eg_callVV (av := [vI l2]) (st := []) dX10_feed_22 ml_10_82 rfl rfl (obC_10 z1) (by decide) rfl (Nat.le_of_ble_eq_true rfl) (eg_dd (by omega)) hq5 (fun M4 hp => ?_)
    have h := h M4 hp
    refine eg_aload_n 0 dX10_feed_25 rfl rfl ?_
    refine eg_iload_n 3 dX10_feed_26 rfl rfl ?_
    obtain ⟨q7, hq7, h⟩ := h
    refine eg_callVV (av := [vI l3]) (st := []) dX10_feed_27 ml_10_82 rfl rfl (obC_10 z1) (by decide) rfl (Nat.le_of_ble_eq_true rfl) (eg_dd (by omega)) hq7 (fun M6 hp => ?_)
    have h := h M6 hp
    refine eg_aload_n 0 dX10_feed_30 rfl rfl ?_
    refine eg_iload 4 dX10_feed_31 rfl ?_
    obtain ⟨q9, hq9, h⟩ := h
    refine eg_callVV (av := [vI l4]) (st := []) dX10_feed_33 ml_10_82 rfl rfl (obC_10 z1) (by decide) rfl (Nat.le_of_ble_eq_true rfl) (eg_dd (by omega)) hq9 (fun M8 hp => ?_)
    have h := h M8 hp
    refine eg_aload_n 0 dX10_feed_36 rfl rfl ?_
    refine eg_iload 5 dX10_feed_37 rfl ?_
    obtain ⟨q11, hq11, h⟩ := h
    refine eg_callVV (av := [vI l5]) (st := []) dX10_feed_39 ml_10_82 rfl rfl (obC_10 z1) (by decide) rfl (Nat.le_of_ble_eq_true rfl) (eg_dd (by omega)) hq11 (fun M10 hp => ?_)
    have h := h M10 hp
    refine eg_aload_n 0 dX10_feed_42 rfl rfl ?_
    refine eg_getI dX10_feed_43 fl_10_78 rfl trivial (obC_10 z1) ?_
    exact eg_ireturn dX10_feed_46 rfl h
  · have h := h.2 c1
    refine eg_iconst dX10_feed_13 ic_m1 ?_
    exact eg_ireturn dX10_feed_14 rfl h
theorem dX10_named_0 : decode cX10_named 0 = .ok (.iload_n 1, 1) := by decide +kernel
theorem dX10_named_1 : decode cX10_named 1 = .ok (.tableswitch 54 0 2 #[27, 36, 45], 27) := by decide +kernel
theorem dX10_named_28 : decode cX10_named 28 = .ok (.aload_n 0, 1) := by decide +kernel
theorem dX10_named_29 : decode cX10_named 29 = .ok (.getfield 32, 3) := by decide +kernel
theorem dX10_named_32 : decode cX10_named 32 = .ok (.iload_n 2, 1) := by decide +kernel
theorem dX10_named_33 : decode cX10_named 33 = .ok (.invokevirtual 122, 3) := by decide +kernel
theorem dX10_named_36 : decode cX10_named 36 = .ok (.ireturn, 1) := by decide +kernel
theorem dX10_named_37 : decode cX10_named 37 = .ok (.aload_n 0, 1) := by decide +kernel
theorem dX10_named_38 : decode cX10_named 38 = .ok (.getfield 32, 3) := by decide +kernel
theorem dX10_named_41 : decode cX10_named 41 = .ok (.iload_n 2, 1) := by decide +kernel
theorem dX10_named_42 : decode cX10_named 42 = .ok (.invokevirtual 126, 3) := by decide +kernel
theorem dX10_named_45 : decode cX10_named 45 = .ok (.ireturn, 1) := by decide +kernel
theorem dX10_named_46 : decode cX10_named 46 = .ok (.aload_n 0, 1) := by decide +kernel
theorem dX10_named_47 : decode cX10_named 47 = .ok (.getfield 32, 3) := by decide +kernel
theorem dX10_named_50 : decode cX10_named 50 = .ok (.iload_n 2, 1) := by decide +kernel
theorem dX10_named_51 : decode cX10_named 51 = .ok (.invokevirtual 129, 3) := by decide +kernel
theorem dX10_named_54 : decode cX10_named 54 = .ok (.ireturn, 1) := by decide +kernel
theorem dX10_named_55 : decode cX10_named 55 = .ok (.iconst (-1), 1) := by decide +kernel
theorem dX10_named_56 : decode cX10_named 56 = .ok (.ireturn, 1) := by decide +kernel
set_option maxRecDepth 10000 in
theorem vX10_named_0 {κ : eg_K} {d : Nat} (hd : 1 ≤ d) {post : Int32 → eg_H → Prop} (M : eg_H) (l1 : Int32) (l2 : Int32) (h : ((¬ l1 = (0 : Int32)) → (¬ l1 = (1 : Int32)) → (¬ l1 = (2 : Int32)) → post (-1 : Int32) M) ∧ (l1 = (0 : Int32) → (∃ p1 : Nat, p1 < 2 ∧ M.2.2 (10, 0) 3 = (5, p1) ∧ (gX5_stationOf M p1 l2 ∧ (∀ x4 : Int32, x4 = (fX5_stationOf M p1 l2) → post x4 M)))) ∧ (l1 = (1 : Int32) → (∃ p5 : Nat, p5 < 2 ∧ M.2.2 (10, 0) 3 = (5, p5) ∧ (gX5_guestOf M p5 l2 ∧ (∀ x8 : Int32, x8 = (fX5_guestOf M p5 l2) → post x8 M)))) ∧ (l1 = (2 : Int32) → (∃ p9 : Nat, p9 < 2 ∧ M.2.2 (10, 0) 3 = (5, p9) ∧ (gX5_mayOf M p9 l2 ∧ (∀ x12 : Int32, x12 = (fX5_mayOf M p9 l2) → post x12 M))))) : eg_W κ gC mtX10_named d (eQI κ gC post) 0 [(0, vR (10, 0)), (1, vI l1), (2, vI l2)] [] M := by
  refine eg_iload_n 1 dX10_named_0 rfl rfl ?_
  have J : (¬ l1 = (0 : Int32)) → (¬ l1 = (1 : Int32)) → (¬ l1 = (2 : Int32)) → eg_W κ gC mtX10_named d (eQI κ gC post) 55 [(0, vR (10, 0)), (1, vI l1), (2, vI l2)] [] M := by
    intro c0_ c1_ c2_
    have h := h.1 c0_ c1_ c2_
    refine eg_iconst dX10_named_55 ic_m1 ?_
    exact eg_ireturn dX10_named_56 rfl h
  by_cases c0_ : l1 = (0 : Int32)
  · refine eg_tabI (tgt := 28) dX10_named_1 (by rw [c0_]; decide) (by rw [c0_]; decide) (off := 27) (by rw [c0_]; rfl) rfl ?_
    have h := h.2.1 c0_
    refine eg_aload_n 0 dX10_named_28 rfl rfl ?_
    refine eg_getD dX10_named_29 fl_10_32 rfl rfl (obC_10 z1) ?_
    obtain ⟨p1, hp1, ep1, h⟩ := h
    rw [ep1]
    refine eg_iload_n 2 dX10_named_32 rfl rfl ?_
    obtain ⟨g2, h⟩ := h
    refine eg_callVI (av := [vI l2]) (st := []) dX10_named_33 ml_10_122 rfl rfl (obC_5 hp1) (by decide) rfl (Nat.le_of_ble_eq_true rfl) (eg_dd (by omega)) (sX5_stationOf (by omega) M p1 l2 hp1 g2) (fun x4 M3 hp => ?_)
    obtain ⟨ex4, eM3⟩ := hp
    rw [eM3]
    have h := h x4 ex4
    exact eg_ireturn dX10_named_36 rfl h
  by_cases c1_ : l1 = (1 : Int32)
  · refine eg_tabI (tgt := 37) dX10_named_1 (by rw [c1_]; decide) (by rw [c1_]; decide) (off := 36) (by rw [c1_]; rfl) rfl ?_
    have h := h.2.2.1 c1_
    refine eg_aload_n 0 dX10_named_37 rfl rfl ?_
    refine eg_getD dX10_named_38 fl_10_32 rfl rfl (obC_10 z1) ?_
    obtain ⟨p5, hp5, ep5, h⟩ := h
    rw [ep5]
    refine eg_iload_n 2 dX10_named_41 rfl rfl ?_
    obtain ⟨g6, h⟩ := h
    refine eg_callVI (av := [vI l2]) (st := []) dX10_named_42 ml_10_126 rfl rfl (obC_5 hp5) (by decide) rfl (Nat.le_of_ble_eq_true rfl) (eg_dd (by omega)) (sX5_guestOf (by omega) M p5 l2 hp5 g6) (fun x8 M7 hp => ?_)
    obtain ⟨ex8, eM7⟩ := hp
    rw [eM7]
    have h := h x8 ex8
    exact eg_ireturn dX10_named_45 rfl h
  by_cases c2_ : l1 = (2 : Int32)
  · refine eg_tabI (tgt := 46) dX10_named_1 (by rw [c2_]; decide) (by rw [c2_]; decide) (off := 45) (by rw [c2_]; rfl) rfl ?_
    have h := h.2.2.2 c2_
    refine eg_aload_n 0 dX10_named_46 rfl rfl ?_
    refine eg_getD dX10_named_47 fl_10_32 rfl rfl (obC_10 z1) ?_
    obtain ⟨p9, hp9, ep9, h⟩ := h
    rw [ep9]
    refine eg_iload_n 2 dX10_named_50 rfl rfl ?_
    obtain ⟨g10, h⟩ := h
    refine eg_callVI (av := [vI l2]) (st := []) dX10_named_51 ml_10_129 rfl rfl (obC_5 hp9) (by decide) rfl (Nat.le_of_ble_eq_true rfl) (eg_dd (by omega)) (sX5_mayOf (by omega) M p9 l2 hp9 g10) (fun x12 M11 hp => ?_)
    obtain ⟨ex12, eM11⟩ := hp
    rw [eM11]
    have h := h x12 ex12
    exact eg_ireturn dX10_named_54 rfl h
  refine eg_tabO (tgt := 55) dX10_named_1 ?_ rfl (J c0_ c1_ c2_)
  have t0_ := eg_ti 0 (by decide) c0_
  have t1_ := eg_ti 1 (by decide) c1_
  have t2_ := eg_ti 2 (by decide) c2_
  omega
theorem dX10_station_0 : decode cX10_station 0 = .ok (.aload_n 0, 1) := by decide +kernel
theorem dX10_station_1 : decode cX10_station 1 = .ok (.getfield 32, 3) := by decide +kernel
theorem dX10_station_4 : decode cX10_station 4 = .ok (.iload_n 1, 1) := by decide +kernel
theorem dX10_station_5 : decode cX10_station 5 = .ok (.invokevirtual 188, 3) := by decide +kernel
theorem dX10_station_8 : decode cX10_station 8 = .ok (.ifCond .ne 5, 3) := by decide +kernel
theorem dX10_station_11 : decode cX10_station 11 = .ok (.iconst (-1), 1) := by decide +kernel
theorem dX10_station_12 : decode cX10_station 12 = .ok (.ireturn, 1) := by decide +kernel
theorem dX10_station_13 : decode cX10_station 13 = .ok (.aload_n 0, 1) := by decide +kernel
theorem dX10_station_14 : decode cX10_station 14 = .ok (.getfield 65, 3) := by decide +kernel
theorem dX10_station_17 : decode cX10_station 17 = .ok (.getfield 191, 3) := by decide +kernel
theorem dX10_station_20 : decode cX10_station 20 = .ok (.iload_n 1, 1) := by decide +kernel
theorem dX10_station_21 : decode cX10_station 21 = .ok (.aaload, 1) := by decide +kernel
theorem dX10_station_22 : decode cX10_station 22 = .ok (.astore_n 3, 1) := by decide +kernel
theorem dX10_station_23 : decode cX10_station 23 = .ok (.iload_n 2, 1) := by decide +kernel
theorem dX10_station_24 : decode cX10_station 24 = .ok (.tableswitch 141 0 9 #[56, 69, 82, 102, 107, 112, 117, 122, 127, 132], 56) := by decide +kernel
theorem dX10_station_80 : decode cX10_station 80 = .ok (.aload_n 0, 1) := by decide +kernel
theorem dX10_station_81 : decode cX10_station 81 = .ok (.getfield 32, 3) := by decide +kernel
theorem dX10_station_84 : decode cX10_station 84 = .ok (.getfield 195, 3) := by decide +kernel
theorem dX10_station_87 : decode cX10_station 87 = .ok (.iload_n 1, 1) := by decide +kernel
theorem dX10_station_88 : decode cX10_station 88 = .ok (.aaload, 1) := by decide +kernel
theorem dX10_station_89 : decode cX10_station 89 = .ok (.getfield 199, 3) := by decide +kernel
theorem dX10_station_92 : decode cX10_station 92 = .ok (.ireturn, 1) := by decide +kernel
theorem dX10_station_93 : decode cX10_station 93 = .ok (.aload_n 0, 1) := by decide +kernel
theorem dX10_station_94 : decode cX10_station 94 = .ok (.getfield 32, 3) := by decide +kernel
theorem dX10_station_97 : decode cX10_station 97 = .ok (.getfield 195, 3) := by decide +kernel
theorem dX10_station_100 : decode cX10_station 100 = .ok (.iload_n 1, 1) := by decide +kernel
theorem dX10_station_101 : decode cX10_station 101 = .ok (.aaload, 1) := by decide +kernel
theorem dX10_station_102 : decode cX10_station 102 = .ok (.getfield 204, 3) := by decide +kernel
theorem dX10_station_105 : decode cX10_station 105 = .ok (.ireturn, 1) := by decide +kernel
theorem dX10_station_106 : decode cX10_station 106 = .ok (.aload_n 0, 1) := by decide +kernel
theorem dX10_station_107 : decode cX10_station 107 = .ok (.getfield 32, 3) := by decide +kernel
theorem dX10_station_110 : decode cX10_station 110 = .ok (.iload_n 1, 1) := by decide +kernel
theorem dX10_station_111 : decode cX10_station 111 = .ok (.invokevirtual 207, 3) := by decide +kernel
theorem dX10_station_114 : decode cX10_station 114 = .ok (.ifCond .eq 10, 3) := by decide +kernel
theorem dX10_station_117 : decode cX10_station 117 = .ok (.aload_n 3, 1) := by decide +kernel
theorem dX10_station_118 : decode cX10_station 118 = .ok (.getfield 210, 3) := by decide +kernel
theorem dX10_station_121 : decode cX10_station 121 = .ok (.goto 4, 3) := by decide +kernel
theorem dX10_station_124 : decode cX10_station 124 = .ok (.iconst (-1), 1) := by decide +kernel
theorem dX10_station_125 : decode cX10_station 125 = .ok (.ireturn, 1) := by decide +kernel
theorem dX10_station_126 : decode cX10_station 126 = .ok (.aload_n 3, 1) := by decide +kernel
theorem dX10_station_127 : decode cX10_station 127 = .ok (.getfield 215, 3) := by decide +kernel
theorem dX10_station_130 : decode cX10_station 130 = .ok (.ireturn, 1) := by decide +kernel
theorem dX10_station_131 : decode cX10_station 131 = .ok (.aload_n 3, 1) := by decide +kernel
theorem dX10_station_132 : decode cX10_station 132 = .ok (.getfield 218, 3) := by decide +kernel
theorem dX10_station_135 : decode cX10_station 135 = .ok (.ireturn, 1) := by decide +kernel
theorem dX10_station_136 : decode cX10_station 136 = .ok (.aload_n 3, 1) := by decide +kernel
theorem dX10_station_137 : decode cX10_station 137 = .ok (.getfield 221, 3) := by decide +kernel
theorem dX10_station_140 : decode cX10_station 140 = .ok (.ireturn, 1) := by decide +kernel
theorem dX10_station_141 : decode cX10_station 141 = .ok (.aload_n 3, 1) := by decide +kernel
theorem dX10_station_142 : decode cX10_station 142 = .ok (.getfield 222, 3) := by decide +kernel
theorem dX10_station_145 : decode cX10_station 145 = .ok (.ireturn, 1) := by decide +kernel
theorem dX10_station_146 : decode cX10_station 146 = .ok (.aload_n 3, 1) := by decide +kernel
theorem dX10_station_147 : decode cX10_station 147 = .ok (.getfield 225, 3) := by decide +kernel
theorem dX10_station_150 : decode cX10_station 150 = .ok (.ireturn, 1) := by decide +kernel
theorem dX10_station_151 : decode cX10_station 151 = .ok (.aload_n 3, 1) := by decide +kernel
theorem dX10_station_152 : decode cX10_station 152 = .ok (.getfield 228, 3) := by decide +kernel
theorem dX10_station_155 : decode cX10_station 155 = .ok (.ireturn, 1) := by decide +kernel
theorem dX10_station_156 : decode cX10_station 156 = .ok (.aload_n 0, 1) := by decide +kernel
theorem dX10_station_157 : decode cX10_station 157 = .ok (.getfield 65, 3) := by decide +kernel
theorem dX10_station_160 : decode cX10_station 160 = .ok (.iload_n 1, 1) := by decide +kernel
theorem dX10_station_161 : decode cX10_station 161 = .ok (.invokevirtual 231, 3) := by decide +kernel
theorem dX10_station_164 : decode cX10_station 164 = .ok (.ireturn, 1) := by decide +kernel
theorem dX10_station_165 : decode cX10_station 165 = .ok (.iconst (-1), 1) := by decide +kernel
theorem dX10_station_166 : decode cX10_station 166 = .ok (.ireturn, 1) := by decide +kernel
set_option maxRecDepth 10000 in
theorem vX10_station_0 {κ : eg_K} {d : Nat} (hd : 1 ≤ d) {post : Int32 → eg_H → Prop} (M : eg_H) (l1 : Int32) (l2 : Int32) (h : (∃ p1 : Nat, p1 < 2 ∧ M.2.2 (10, 0) 3 = (5, p1) ∧ (∀ x3 : Int32, x3 = (fX5_hasStation M p1 l1) → ((¬ x3 = 0) → (vp_in l1 5 ∧ ((¬ l2 = (0 : Int32)) → (¬ l2 = (1 : Int32)) → (¬ l2 = (2 : Int32)) → (¬ l2 = (3 : Int32)) → (¬ l2 = (4 : Int32)) → (¬ l2 = (5 : Int32)) → (¬ l2 = (6 : Int32)) → (¬ l2 = (7 : Int32)) → (¬ l2 = (8 : Int32)) → (¬ l2 = (9 : Int32)) → post (-1 : Int32) M) ∧ (l2 = (0 : Int32) → post (M.1 (1, 5 * p1 + l1.toNatClampNeg) 1) M) ∧ (l2 = (1 : Int32) → post (M.1 (1, 5 * p1 + l1.toNatClampNeg) 2) M) ∧ (l2 = (2 : Int32) → (gX5_hasPan M p1 l1 ∧ (∀ x8 : Int32, x8 = (fX5_hasPan M p1 l1) → (∀ x9 : Int32, x9 = ((if x8 = 0 then (-1 : Int32) else (M.1 (4, 5 * 0 + l1.toNatClampNeg) 0))) → post x9 M)))) ∧ (l2 = (3 : Int32) → post (M.1 (4, 5 * 0 + l1.toNatClampNeg) 1) M) ∧ (l2 = (4 : Int32) → post (M.1 (4, 5 * 0 + l1.toNatClampNeg) 2) M) ∧ (l2 = (5 : Int32) → post (M.1 (4, 5 * 0 + l1.toNatClampNeg) 3) M) ∧ (l2 = (6 : Int32) → post (M.1 (4, 5 * 0 + l1.toNatClampNeg) 4) M) ∧ (l2 = (7 : Int32) → post (M.1 (4, 5 * 0 + l1.toNatClampNeg) 5) M) ∧ (l2 = (8 : Int32) → post (M.1 (4, 5 * 0 + l1.toNatClampNeg) 6) M) ∧ (l2 = (9 : Int32) → (gX7_placeOf M 0 l1 ∧ (∀ x13 : Int32, x13 = (fX7_placeOf M 0 l1) → post x13 M))))) ∧ (x3 = 0 → post (-1 : Int32) M)))) : eg_W κ gC mtX10_station d (eQI κ gC post) 0 [(0, vR (10, 0)), (1, vI l1), (2, vI l2)] [] M := by
  refine eg_aload_n 0 dX10_station_0 rfl rfl ?_
  refine eg_getD dX10_station_1 fl_10_32 rfl rfl (obC_10 z1) ?_
  obtain ⟨p1, hp1, ep1, h⟩ := h
  rw [ep1]
  refine eg_iload_n 1 dX10_station_4 rfl rfl ?_
  refine eg_callVI (av := [vI l1]) (st := []) dX10_station_5 ml_10_188 rfl rfl (obC_5 hp1) (by decide) rfl (Nat.le_of_ble_eq_true rfl) (eg_dd (by omega)) (sX5_hasStation (by omega) M p1 l1 hp1 ) (fun x3 M2 hp => ?_)
  obtain ⟨ex3, eM2⟩ := hp
  rw [eM2]
  have h := h x3 ex3
  refine eg_if_ne (tgt := 13) dX10_station_8 rfl (fun c4 => ?_) (fun c4 => ?_)
  · have h := h.1 c4
    refine eg_aload_n 0 dX10_station_13 rfl rfl ?_
    refine eg_getR dX10_station_14 fl_10_65 rfl rfl (obC_10 z1) ?_
    show eg_W κ gC mtX10_station d (eQI κ gC post) 17 [(0, vR (10, 0)), (1, vI l1), (2, vI l2)] [vR (7, 0)] M
    refine eg_getR dX10_station_17 fl_10_191 rfl rfl (obC_7 (by decide : 0 < 4)) ?_
    show eg_W κ gC mtX10_station d (eQI κ gC post) 20 [(0, vR (10, 0)), (1, vI l1), (2, vI l2)] [vR (41, 0)] M
    refine eg_iload_n 1 dX10_station_20 rfl rfl ?_
    obtain ⟨g5, h⟩ := h
    refine eg_aaload6 dX10_station_21 (arC_41 (by decide : 0 < 4) g5) ?_
    show eg_W κ gC mtX10_station d (eQI κ gC post) 22 [(0, vR (10, 0)), (1, vI l1), (2, vI l2)] [vR (4, 5 * 0 + l1.toNatClampNeg)] M
    refine eg_astore_n dX10_station_22 rfl (by decide) (ls1 := [(3, vR (4, 5 * 0 + l1.toNatClampNeg)), (0, vR (10, 0)), (1, vI l1), (2, vI l2)]) rfl ?_
    refine eg_iload_n 3 dX10_station_23 rfl rfl ?_
    have J : (¬ l2 = (0 : Int32)) → (¬ l2 = (1 : Int32)) → (¬ l2 = (2 : Int32)) → (¬ l2 = (3 : Int32)) → (¬ l2 = (4 : Int32)) → (¬ l2 = (5 : Int32)) → (¬ l2 = (6 : Int32)) → (¬ l2 = (7 : Int32)) → (¬ l2 = (8 : Int32)) → (¬ l2 = (9 : Int32)) → eg_W κ gC mtX10_station d (eQI κ gC post) 165 [(3, vR (4, 5 * 0 + l1.toNatClampNeg)), (0, vR (10, 0)), (1, vI l1), (2, vI l2)] [] M := by
      intro c0_ c1_ c2_ c3_ c4_ c5_ c6_ c7_ c8_ c9_
      have h := h.1 c0_ c1_ c2_ c3_ c4_ c5_ c6_ c7_ c8_ c9_
      refine eg_iconst dX10_station_165 ic_m1 ?_
      exact eg_ireturn dX10_station_166 rfl h
    by_cases c0_ : l2 = (0 : Int32)
    · refine eg_tabI (tgt := 80) dX10_station_24 (by rw [c0_]; decide) (by rw [c0_]; decide) (off := 56) (by rw [c0_]; rfl) rfl ?_
      have h := h.2.1 c0_
      refine eg_aload_n 1 dX10_station_80 rfl rfl ?_
      refine eg_getD dX10_station_81 fl_10_32 rfl rfl (obC_10 z1) ?_
      rw [ep1]
      refine eg_getR dX10_station_84 fl_10_195 rfl rfl (obC_5 hp1) ?_
      show eg_W κ gC mtX10_station d (eQI κ gC post) 87 [(3, vR (4, 5 * 0 + l1.toNatClampNeg)), (0, vR (10, 0)), (1, vI l1), (2, vI l2)] [vR (30, p1)] M
      refine eg_iload_n 2 dX10_station_87 rfl rfl ?_
      refine eg_aaload4 dX10_station_88 (arC_30 hp1 g5) ?_
      show eg_W κ gC mtX10_station d (eQI κ gC post) 89 [(3, vR (4, 5 * 0 + l1.toNatClampNeg)), (0, vR (10, 0)), (1, vI l1), (2, vI l2)] [vR (1, 5 * p1 + l1.toNatClampNeg)] M
      refine eg_getI dX10_station_89 fl_10_199 rfl trivial (obC_1 (ixP5 hp1 g5)) ?_
      exact eg_ireturn dX10_station_92 rfl h
    by_cases c1_ : l2 = (1 : Int32)
    · refine eg_tabI (tgt := 93) dX10_station_24 (by rw [c1_]; decide) (by rw [c1_]; decide) (off := 69) (by rw [c1_]; rfl) rfl ?_
      have h := h.2.2.1 c1_
      refine eg_aload_n 1 dX10_station_93 rfl rfl ?_
      refine eg_getD dX10_station_94 fl_10_32 rfl rfl (obC_10 z1) ?_
      rw [ep1]
      refine eg_getR dX10_station_97 fl_10_195 rfl rfl (obC_5 hp1) ?_
      show eg_W κ gC mtX10_station d (eQI κ gC post) 100 [(3, vR (4, 5 * 0 + l1.toNatClampNeg)), (0, vR (10, 0)), (1, vI l1), (2, vI l2)] [vR (30, p1)] M
      refine eg_iload_n 2 dX10_station_100 rfl rfl ?_
      refine eg_aaload4 dX10_station_101 (arC_30 hp1 g5) ?_
      show eg_W κ gC mtX10_station d (eQI κ gC post) 102 [(3, vR (4, 5 * 0 + l1.toNatClampNeg)), (0, vR (10, 0)), (1, vI l1), (2, vI l2)] [vR (1, 5 * p1 + l1.toNatClampNeg)] M
      refine eg_getI dX10_station_102 fl_10_204 rfl trivial (obC_1 (ixP5 hp1 g5)) ?_
      exact eg_ireturn dX10_station_105 rfl h
    by_cases c2_ : l2 = (2 : Int32)
    · refine eg_tabI (tgt := 106) dX10_station_24 (by rw [c2_]; decide) (by rw [c2_]; decide) (off := 82) (by rw [c2_]; rfl) rfl ?_
      have h := h.2.2.2.1 c2_
      refine eg_aload_n 1 dX10_station_106 rfl rfl ?_
      refine eg_getD dX10_station_107 fl_10_32 rfl rfl (obC_10 z1) ?_
      rw [ep1]
      refine eg_iload_n 2 dX10_station_110 rfl rfl ?_
      obtain ⟨g6, h⟩ := h
      refine eg_callVI (av := [vI l1]) (st := []) dX10_station_111 ml_10_207 rfl rfl (obC_5 hp1) (by decide) rfl (Nat.le_of_ble_eq_true rfl) (eg_dd (by omega)) (sX5_hasPan (by omega) M p1 l1 hp1 g6) (fun x8 M7 hp => ?_)
      obtain ⟨ex8, eM7⟩ := hp
      rw [eM7]
      have h := h x8 ex8
      have J : ∀ x9 : Int32, x9 = (if x8 = 0 then (-1 : Int32) else (M.1 (4, 5 * 0 + l1.toNatClampNeg) 0)) → eg_W κ gC mtX10_station d (eQI κ gC post) 125 [(3, vR (4, 5 * 0 + l1.toNatClampNeg)), (0, vR (10, 0)), (1, vI l1), (2, vI l2)] [vI x9] M := by
        intro x9 ex9
        have h := h x9 ex9
        exact eg_ireturn dX10_station_125 rfl h
      clear h
      refine eg_if_eq (tgt := 124) dX10_station_114 rfl (fun c10 => ?_) (fun c10 => ?_)
      · refine eg_iconst dX10_station_124 ic_m1 ?_
        exact J _ (by rw [if_pos c10])
      · refine eg_aload_n 0 dX10_station_117 rfl rfl ?_
        refine eg_getI dX10_station_118 fl_10_210 rfl trivial (obC_4 (ixT5 (by decide : 0 < 4) g5)) ?_
        refine eg_goto (tgt := 125) dX10_station_121 rfl ?_
        exact J _ (by rw [if_neg c10])
    by_cases c3_ : l2 = (3 : Int32)
    · refine eg_tabI (tgt := 126) dX10_station_24 (by rw [c3_]; decide) (by rw [c3_]; decide) (off := 102) (by rw [c3_]; rfl) rfl ?_
      have h := h.2.2.2.2.1 c3_
      refine eg_aload_n 0 dX10_station_126 rfl rfl ?_
      refine eg_getI dX10_station_127 fl_10_215 rfl trivial (obC_4 (ixT5 (by decide : 0 < 4) g5)) ?_
      exact eg_ireturn dX10_station_130 rfl h
    by_cases c4_ : l2 = (4 : Int32)
    · refine eg_tabI (tgt := 131) dX10_station_24 (by rw [c4_]; decide) (by rw [c4_]; decide) (off := 107) (by rw [c4_]; rfl) rfl ?_
      have h := h.2.2.2.2.2.1 c4_
      refine eg_aload_n 0 dX10_station_131 rfl rfl ?_
      refine eg_getI dX10_station_132 fl_10_218 rfl trivial (obC_4 (ixT5 (by decide : 0 < 4) g5)) ?_
      exact eg_ireturn dX10_station_135 rfl h
    by_cases c5_ : l2 = (5 : Int32)
    · refine eg_tabI (tgt := 136) dX10_station_24 (by rw [c5_]; decide) (by rw [c5_]; decide) (off := 112) (by rw [c5_]; rfl) rfl ?_
      have h := h.2.2.2.2.2.2.1 c5_
      refine eg_aload_n 0 dX10_station_136 rfl rfl ?_
      refine eg_getI dX10_station_137 fl_10_221 rfl trivial (obC_4 (ixT5 (by decide : 0 < 4) g5)) ?_
      exact eg_ireturn dX10_station_140 rfl h
    by_cases c6_ : l2 = (6 : Int32)
    · refine eg_tabI (tgt := 141) dX10_station_24 (by rw [c6_]; decide) (by rw [c6_]; decide) (off := 117) (by rw [c6_]; rfl) rfl ?_
      have h := h.2.2.2.2.2.2.2.1 c6_
      refine eg_aload_n 0 dX10_station_141 rfl rfl ?_
      refine eg_getI dX10_station_142 fl_10_222 rfl trivial (obC_4 (ixT5 (by decide : 0 < 4) g5)) ?_
      exact eg_ireturn dX10_station_145 rfl h
    by_cases c7_ : l2 = (7 : Int32)
    · refine eg_tabI (tgt := 146) dX10_station_24 (by rw [c7_]; decide) (by rw [c7_]; decide) (off := 122) (by rw [c7_]; rfl) rfl ?_
      have h := h.2.2.2.2.2.2.2.2.1 c7_
      refine eg_aload_n 0 dX10_station_146 rfl rfl ?_
      refine eg_getI dX10_station_147 fl_10_225 rfl trivial (obC_4 (ixT5 (by decide : 0 < 4) g5)) ?_
      exact eg_ireturn dX10_station_150 rfl h
    by_cases c8_ : l2 = (8 : Int32)
    · refine eg_tabI (tgt := 151) dX10_station_24 (by rw [c8_]; decide) (by rw [c8_]; decide) (off := 127) (by rw [c8_]; rfl) rfl ?_
      have h := h.2.2.2.2.2.2.2.2.2.1 c8_
      refine eg_aload_n 0 dX10_station_151 rfl rfl ?_
      refine eg_getI dX10_station_152 fl_10_228 rfl trivial (obC_4 (ixT5 (by decide : 0 < 4) g5)) ?_
      exact eg_ireturn dX10_station_155 rfl h
    by_cases c9_ : l2 = (9 : Int32)
    · refine eg_tabI (tgt := 156) dX10_station_24 (by rw [c9_]; decide) (by rw [c9_]; decide) (off := 132) (by rw [c9_]; rfl) rfl ?_
      have h := h.2.2.2.2.2.2.2.2.2.2 c9_
      refine eg_aload_n 1 dX10_station_156 rfl rfl ?_
      refine eg_getR dX10_station_157 fl_10_65 rfl rfl (obC_10 z1) ?_
      show eg_W κ gC mtX10_station d (eQI κ gC post) 160 [(3, vR (4, 5 * 0 + l1.toNatClampNeg)), (0, vR (10, 0)), (1, vI l1), (2, vI l2)] [vR (7, 0)] M
      refine eg_iload_n 2 dX10_station_160 rfl rfl ?_
      obtain ⟨g11, h⟩ := h
      refine eg_callVI (av := [vI l1]) (st := []) dX10_station_161 ml_10_231 rfl rfl (obC_7 (by decide : 0 < 4)) (by decide) rfl (Nat.le_of_ble_eq_true rfl) (eg_dd (by omega)) (sX7_placeOf (by omega) M 0 l1 (by decide : 0 < 4) g11) (fun x13 M12 hp => ?_)
      obtain ⟨ex13, eM12⟩ := hp
      rw [eM12]
      have h := h x13 ex13
      exact eg_ireturn dX10_station_164 rfl h
    refine eg_tabO (tgt := 165) dX10_station_24 ?_ rfl (J c0_ c1_ c2_ c3_ c4_ c5_ c6_ c7_ c8_ c9_)
    have t0_ := eg_ti 0 (by decide) c0_
    have t1_ := eg_ti 1 (by decide) c1_
    have t2_ := eg_ti 2 (by decide) c2_
    have t3_ := eg_ti 3 (by decide) c3_
    have t4_ := eg_ti 4 (by decide) c4_
    have t5_ := eg_ti 5 (by decide) c5_
    have t6_ := eg_ti 6 (by decide) c6_
    have t7_ := eg_ti 7 (by decide) c7_
    have t8_ := eg_ti 8 (by decide) c8_
    have t9_ := eg_ti 9 (by decide) c9_
    omega
  · have h := h.2 c4
    refine eg_iconst dX10_station_11 ic_m1 ?_
    exact eg_ireturn dX10_station_12 rfl h
theorem dX10_row_0 : decode cX10_row 0 = .ok (.aload_n 0, 1) := by decide +kernel
theorem dX10_row_1 : decode cX10_row 1 = .ok (.getfield 32, 3) := by decide +kernel
theorem dX10_row_4 : decode cX10_row 4 = .ok (.iload_n 1, 1) := by decide +kernel
theorem dX10_row_5 : decode cX10_row 5 = .ok (.invokevirtual 188, 3) := by decide +kernel
theorem dX10_row_8 : decode cX10_row 8 = .ok (.ifCond .eq 15, 3) := by decide +kernel
theorem dX10_row_11 : decode cX10_row 11 = .ok (.aload_n 0, 1) := by decide +kernel
theorem dX10_row_12 : decode cX10_row 12 = .ok (.getfield 65, 3) := by decide +kernel
theorem dX10_row_15 : decode cX10_row 15 = .ok (.getfield 234, 3) := by decide +kernel
theorem dX10_row_18 : decode cX10_row 18 = .ok (.iload_n 1, 1) := by decide +kernel
theorem dX10_row_19 : decode cX10_row 19 = .ok (.iaload, 1) := by decide +kernel
theorem dX10_row_20 : decode cX10_row 20 = .ok (.goto 4, 3) := by decide +kernel
theorem dX10_row_23 : decode cX10_row 23 = .ok (.iconst (-1), 1) := by decide +kernel
theorem dX10_row_24 : decode cX10_row 24 = .ok (.ireturn, 1) := by decide +kernel
set_option maxRecDepth 10000 in
theorem vX10_row_0 {κ : eg_K} {d : Nat} (hd : 1 ≤ d) {post : Int32 → eg_H → Prop} (M : eg_H) (l1 : Int32) (h : (∃ p1 : Nat, p1 < 2 ∧ M.2.2 (10, 0) 3 = (5, p1) ∧ (∀ x3 : Int32, x3 = (fX5_hasStation M p1 l1) → (((¬ x3 = 0) → vp_in l1 5) ∧ (∀ x5 : Int32, x5 = ((if x3 = 0 then (-1 : Int32) else (M.1 (40, 0) l1.toNatClampNeg))) → post x5 M))))) : eg_W κ gC mtX10_row d (eQI κ gC post) 0 [(0, vR (10, 0)), (1, vI l1)] [] M := by
  refine eg_aload_n 0 dX10_row_0 rfl rfl ?_
  refine eg_getD dX10_row_1 fl_10_32 rfl rfl (obC_10 z1) ?_
  obtain ⟨p1, hp1, ep1, h⟩ := h
  rw [ep1]
  refine eg_iload_n 1 dX10_row_4 rfl rfl ?_
  refine eg_callVI (av := [vI l1]) (st := []) dX10_row_5 ml_10_188 rfl rfl (obC_5 hp1) (by decide) rfl (Nat.le_of_ble_eq_true rfl) (eg_dd (by omega)) (sX5_hasStation (by omega) M p1 l1 hp1 ) (fun x3 M2 hp => ?_)
  obtain ⟨ex3, eM2⟩ := hp
  rw [eM2]
  have h := h x3 ex3
  obtain ⟨g4, h⟩ := h
  have J : ∀ x5 : Int32, x5 = (if x3 = 0 then (-1 : Int32) else (M.1 (40, 0) l1.toNatClampNeg)) → eg_W κ gC mtX10_row d (eQI κ gC post) 24 [(0, vR (10, 0)), (1, vI l1)] [vI x5] M := by
    intro x5 ex5
    have h := h x5 ex5
    exact eg_ireturn dX10_row_24 rfl h
  clear h
  refine eg_if_eq (tgt := 23) dX10_row_8 rfl (fun c6 => ?_) (fun c6 => ?_)
  · refine eg_iconst dX10_row_23 ic_m1 ?_
    exact J _ (by rw [if_pos c6])
  · refine eg_aload_n 0 dX10_row_11 rfl rfl ?_
    refine eg_getR dX10_row_12 fl_10_65 rfl rfl (obC_10 z1) ?_
    show eg_W κ gC mtX10_row d (eQI κ gC post) 15 [(0, vR (10, 0)), (1, vI l1)] [vR (7, 0)] M
    refine eg_getR dX10_row_15 fl_10_234 rfl rfl (obC_7 (by decide : 0 < 4)) ?_
    show eg_W κ gC mtX10_row d (eQI κ gC post) 18 [(0, vR (10, 0)), (1, vI l1)] [vR (40, 0)] M
    refine eg_iload_n 1 dX10_row_18 rfl rfl ?_
    refine eg_iaload dX10_row_19 (arC_40 (by decide : 0 < 4) (g4 (show (¬ x3 = 0) from by first | exact c6 | exact Classical.not_not.mp c6))) ?_
    refine eg_goto (tgt := 24) dX10_row_20 rfl ?_
    exact J _ (by rw [if_neg c6])
theorem dX10_seconds_0 : decode cX10_seconds 0 = .ok (.iload_n 1, 1) := by decide +kernel
theorem dX10_seconds_1 : decode cX10_seconds 1 = .ok (.ifCond .lt 25, 3) := by decide +kernel
theorem dX10_seconds_4 : decode cX10_seconds 4 = .ok (.iload_n 1, 1) := by decide +kernel
theorem dX10_seconds_5 : decode cX10_seconds 5 = .ok (.sipush 900, 3) := by decide +kernel
theorem dX10_seconds_8 : decode cX10_seconds 8 = .ok (.if_icmp .gt 18, 3) := by decide +kernel
theorem dX10_seconds_11 : decode cX10_seconds 11 = .ok (.aload_n 0, 1) := by decide +kernel
theorem dX10_seconds_12 : decode cX10_seconds 12 = .ok (.getfield 65, 3) := by decide +kernel
theorem dX10_seconds_15 : decode cX10_seconds 15 = .ok (.getfield 243, 3) := by decide +kernel
theorem dX10_seconds_18 : decode cX10_seconds 18 = .ok (.iload_n 1, 1) := by decide +kernel
theorem dX10_seconds_19 : decode cX10_seconds 19 = .ok (.iadd, 1) := by decide +kernel
theorem dX10_seconds_20 : decode cX10_seconds 20 = .ok (.sipush 3600, 3) := by decide +kernel
theorem dX10_seconds_23 : decode cX10_seconds 23 = .ok (.if_icmp .le 5, 3) := by decide +kernel
theorem dX10_seconds_26 : decode cX10_seconds 26 = .ok (.iconst (-1), 1) := by decide +kernel
theorem dX10_seconds_27 : decode cX10_seconds 27 = .ok (.ireturn, 1) := by decide +kernel
theorem dX10_seconds_28 : decode cX10_seconds 28 = .ok (.iload_n 1, 1) := by decide +kernel
theorem dX10_seconds_29 : decode cX10_seconds 29 = .ok (.ifCond .le 8, 3) := by decide +kernel
theorem dX10_seconds_32 : decode cX10_seconds 32 = .ok (.aload_n 0, 1) := by decide +kernel
theorem dX10_seconds_33 : decode cX10_seconds 33 = .ok (.iconst 0, 1) := by decide +kernel
theorem dX10_seconds_34 : decode cX10_seconds 34 = .ok (.putfield 113, 3) := by decide +kernel
theorem dX10_seconds_37 : decode cX10_seconds 37 = .ok (.aload_n 0, 1) := by decide +kernel
theorem dX10_seconds_38 : decode cX10_seconds 38 = .ok (.getfield 65, 3) := by decide +kernel
theorem dX10_seconds_41 : decode cX10_seconds 41 = .ok (.iload_n 1, 1) := by decide +kernel
theorem dX10_seconds_42 : decode cX10_seconds 42 = .ok (.invokevirtual 246, 3) := by decide +kernel
theorem dX10_seconds_45 : decode cX10_seconds 45 = .ok (.aload_n 0, 1) := by decide +kernel
theorem dX10_seconds_46 : decode cX10_seconds 46 = .ok (.getfield 65, 3) := by decide +kernel
theorem dX10_seconds_49 : decode cX10_seconds 49 = .ok (.getfield 243, 3) := by decide +kernel
theorem dX10_seconds_52 : decode cX10_seconds 52 = .ok (.ireturn, 1) := by decide +kernel
set_option maxRecDepth 10000 in
theorem vX10_seconds_0 {κ : eg_K} {d : Nat} (hd : 1 ≤ d) {post : Int32 → eg_H → Prop} (M : eg_H) (l1 : Int32) (h : (l1 < 0 → post (-1 : Int32) M) ∧ ((¬ l1 < 0) → ((900 : Int32) < l1 → post (-1 : Int32) M) ∧ ((¬ (900 : Int32) < l1) → (((M.1 (7, 0) 1) + l1) ≤ (3600 : Int32) → (l1 ≤ 0 → eCV κ gC mtX7_go d [vR (7, 0), vI l1] M (fun M5 => post (M5.1 (7, 0) 1) M5)) ∧ ((¬ l1 ≤ 0) → (∀ M7 : eg_H, M7 = (sI M (10, 0) 11 (0 : Int32)) → eCV κ gC mtX7_go d [vR (7, 0), vI l1] M7 (fun M8 => post (M8.1 (7, 0) 1) M8)))) ∧ ((¬ ((M.1 (7, 0) 1) + l1) ≤ (3600 : Int32)) → post (-1 : Int32) M)))) : eg_W κ gC mtX10_seconds d (eQI κ gC post) 0 [(0, vR (10, 0)), (1, vI l1)] [] M := by
  refine eg_iload_n 1 dX10_seconds_0 rfl rfl ?_
  refine eg_if_lt (tgt := 26) dX10_seconds_1 rfl (fun c1 => ?_) (fun c1 => ?_)
  · have h := h.1 c1
    refine eg_iconst dX10_seconds_26 ic_m1 ?_
    exact eg_ireturn dX10_seconds_27 rfl h
  · have h := h.2 c1
    refine eg_iload_n 1 dX10_seconds_4 rfl rfl ?_
    refine eg_sipush dX10_seconds_5 sp_900 ?_
    refine eg_icmp_gt (tgt := 26) dX10_seconds_8 rfl (fun c2 => ?_) (fun c2 => ?_)
    · have h := h.1 c2
      refine eg_iconst dX10_seconds_26 ic_m1 ?_
      exact eg_ireturn dX10_seconds_27 rfl h
    · have h := h.2 c2
      refine eg_aload_n 0 dX10_seconds_11 rfl rfl ?_
      refine eg_getR dX10_seconds_12 fl_10_65 rfl rfl (obC_10 z1) ?_
      show eg_W κ gC mtX10_seconds d (eQI κ gC post) 15 [(0, vR (10, 0)), (1, vI l1)] [vR (7, 0)] M
      refine eg_getI dX10_seconds_15 fl_10_243 rfl trivial (obC_7 (by decide : 0 < 4)) ?_
      refine eg_iload_n 1 dX10_seconds_18 rfl rfl ?_
      refine eg_iadd dX10_seconds_19 ?_
      refine eg_sipush dX10_seconds_20 sp_3600 ?_
      refine eg_icmp_le (tgt := 28) dX10_seconds_23 rfl (fun c3 => ?_) (fun c3 => ?_)
      · have h := h.1 c3
        refine eg_iload_n 1 dX10_seconds_28 rfl rfl ?_
        refine eg_if_le (tgt := 37) dX10_seconds_29 rfl (fun c4 => ?_) (fun c4 => ?_)
        · have h := h.1 c4
          refine eg_aload_n 0 dX10_seconds_37 rfl rfl ?_
          refine eg_getR dX10_seconds_38 fl_10_65 rfl rfl (obC_10 z1) ?_
          show eg_W κ gC mtX10_seconds d (eQI κ gC post) 41 [(0, vR (10, 0)), (1, vI l1)] [vR (7, 0)] M
          refine eg_iload_n 1 dX10_seconds_41 rfl rfl ?_
          obtain ⟨q6, hq6, h⟩ := h
          refine eg_callVV (av := [vI l1]) (st := []) dX10_seconds_42 ml_10_246 rfl rfl (obC_7 (by decide : 0 < 4)) (by decide) rfl (Nat.le_of_ble_eq_true rfl) (eg_dd (by omega)) hq6 (fun M5 hp => ?_)
          have h := h M5 hp
          refine eg_aload_n 0 dX10_seconds_45 rfl rfl ?_
          refine eg_getR dX10_seconds_46 fl_10_65 rfl rfl (obC_10 z1) ?_
          show eg_W κ gC mtX10_seconds d (eQI κ gC post) 49 [(0, vR (10, 0)), (1, vI l1)] [vR (7, 0)] M5
          refine eg_getI dX10_seconds_49 fl_10_243 rfl trivial (obC_7 (by decide : 0 < 4)) ?_
          exact eg_ireturn dX10_seconds_52 rfl h
        · have h := h.2 c4
          refine eg_aload_n 0 dX10_seconds_32 rfl rfl ?_
          refine eg_iconst dX10_seconds_33 ic_0 ?_
          refine en_putI dX10_seconds_34 fl_10_113 rfl rfl (obC_10 z1) (fun M7 eM7 => ?_)
          have h := h M7 eM7
          refine eg_aload_n 0 dX10_seconds_37 rfl rfl ?_
          refine eg_getR dX10_seconds_38 fl_10_65 rfl rfl (obC_10 z1) ?_
          show eg_W κ gC mtX10_seconds d (eQI κ gC post) 41 [(0, vR (10, 0)), (1, vI l1)] [vR (7, 0)] M7
          refine eg_iload_n 1 dX10_seconds_41 rfl rfl ?_
          obtain ⟨q9, hq9, h⟩ := h
          refine eg_callVV (av := [vI l1]) (st := []) dX10_seconds_42 ml_10_246 rfl rfl (obC_7 (by decide : 0 < 4)) (by decide) rfl (Nat.le_of_ble_eq_true rfl) (eg_dd (by omega)) hq9 (fun M8 hp => ?_)
          have h := h M8 hp
          refine eg_aload_n 0 dX10_seconds_45 rfl rfl ?_
          refine eg_getR dX10_seconds_46 fl_10_65 rfl rfl (obC_10 z1) ?_
          show eg_W κ gC mtX10_seconds d (eQI κ gC post) 49 [(0, vR (10, 0)), (1, vI l1)] [vR (7, 0)] M8
          refine eg_getI dX10_seconds_49 fl_10_243 rfl trivial (obC_7 (by decide : 0 < 4)) ?_
          exact eg_ireturn dX10_seconds_52 rfl h
      · have h := h.2 c3
        refine eg_iconst dX10_seconds_26 ic_m1 ?_
        exact eg_ireturn dX10_seconds_27 rfl h
theorem dX10_put_0 : decode cX10_put 0 = .ok (.aload_n 0, 1) := by decide +kernel
theorem dX10_put_1 : decode cX10_put 1 = .ok (.getfield 32, 3) := by decide +kernel
theorem dX10_put_4 : decode cX10_put 4 = .ok (.iload_n 1, 1) := by decide +kernel
theorem dX10_put_5 : decode cX10_put 5 = .ok (.invokevirtual 207, 3) := by decide +kernel
theorem dX10_put_8 : decode cX10_put 8 = .ok (.ifCond .ne 5, 3) := by decide +kernel
theorem dX10_put_11 : decode cX10_put 11 = .ok (.iconst (-1), 1) := by decide +kernel
theorem dX10_put_12 : decode cX10_put 12 = .ok (.ireturn, 1) := by decide +kernel
theorem dX10_put_13 : decode cX10_put 13 = .ok (.aload_n 0, 1) := by decide +kernel
theorem dX10_put_14 : decode cX10_put 14 = .ok (.iconst 0, 1) := by decide +kernel
theorem dX10_put_15 : decode cX10_put 15 = .ok (.iload_n 1, 1) := by decide +kernel
theorem dX10_put_16 : decode cX10_put 16 = .ok (.iconst 0, 1) := by decide +kernel
theorem dX10_put_17 : decode cX10_put 17 = .ok (.invokevirtual 249, 3) := by decide +kernel
theorem dX10_put_20 : decode cX10_put 20 = .ok (.aload_n 0, 1) := by decide +kernel
theorem dX10_put_21 : decode cX10_put 21 = .ok (.getfield 65, 3) := by decide +kernel
theorem dX10_put_24 : decode cX10_put 24 = .ok (.getfield 191, 3) := by decide +kernel
theorem dX10_put_27 : decode cX10_put 27 = .ok (.iload_n 1, 1) := by decide +kernel
theorem dX10_put_28 : decode cX10_put 28 = .ok (.aaload, 1) := by decide +kernel
theorem dX10_put_29 : decode cX10_put 29 = .ok (.getfield 210, 3) := by decide +kernel
theorem dX10_put_32 : decode cX10_put 32 = .ok (.ireturn, 1) := by decide +kernel
set_option maxRecDepth 10000 in
theorem vX10_put_0 {κ : eg_K} {d : Nat} (hd : 1 ≤ d) {post : Int32 → eg_H → Prop} (M : eg_H) (l1 : Int32) (h : (∃ p1 : Nat, p1 < 2 ∧ M.2.2 (10, 0) 3 = (5, p1) ∧ (gX5_hasPan M p1 l1 ∧ (∀ x4 : Int32, x4 = (fX5_hasPan M p1 l1) → ((¬ x4 = 0) → eCV κ gC mtX10_doByHand d [vR (10, 0), vI (0 : Int32), vI l1, vI (0 : Int32)] M (fun M6 => (vp_in l1 5 ∧ post (M6.1 (4, 5 * 0 + l1.toNatClampNeg) 0) M6))) ∧ (x4 = 0 → post (-1 : Int32) M))))) : eg_W κ gC mtX10_put d (eQI κ gC post) 0 [(0, vR (10, 0)), (1, vI l1)] [] M := by
  refine eg_aload_n 0 dX10_put_0 rfl rfl ?_
  refine eg_getD dX10_put_1 fl_10_32 rfl rfl (obC_10 z1) ?_
  obtain ⟨p1, hp1, ep1, h⟩ := h
  rw [ep1]
  refine eg_iload_n 1 dX10_put_4 rfl rfl ?_
  obtain ⟨g2, h⟩ := h
  refine eg_callVI (av := [vI l1]) (st := []) dX10_put_5 ml_10_207 rfl rfl (obC_5 hp1) (by decide) rfl (Nat.le_of_ble_eq_true rfl) (eg_dd (by omega)) (sX5_hasPan (by omega) M p1 l1 hp1 g2) (fun x4 M3 hp => ?_)
  obtain ⟨ex4, eM3⟩ := hp
  rw [eM3]
  have h := h x4 ex4
  refine eg_if_ne (tgt := 13) dX10_put_8 rfl (fun c5 => ?_) (fun c5 => ?_)
  · have h := h.1 c5
    refine eg_aload_n 0 dX10_put_13 rfl rfl ?_
    refine eg_iconst dX10_put_14 ic_0 ?_
    refine eg_iload_n 1 dX10_put_15 rfl rfl ?_
    refine eg_iconst dX10_put_16 ic_0 ?_
    obtain ⟨q7, hq7, h⟩ := h
    refine eg_callVV (av := [vI (0 : Int32), vI l1, vI (0 : Int32)]) (st := []) dX10_put_17 ml_10_249 rfl rfl (obC_10 z1) (by decide) rfl (Nat.le_of_ble_eq_true rfl) (eg_dd (by omega)) hq7 (fun M6 hp => ?_)
    have h := h M6 hp
    refine eg_aload_n 0 dX10_put_20 rfl rfl ?_
    refine eg_getR dX10_put_21 fl_10_65 rfl rfl (obC_10 z1) ?_
    show eg_W κ gC mtX10_put d (eQI κ gC post) 24 [(0, vR (10, 0)), (1, vI l1)] [vR (7, 0)] M6
    refine eg_getR dX10_put_24 fl_10_191 rfl rfl (obC_7 (by decide : 0 < 4)) ?_
    show eg_W κ gC mtX10_put d (eQI κ gC post) 27 [(0, vR (10, 0)), (1, vI l1)] [vR (41, 0)] M6
    refine eg_iload_n 1 dX10_put_27 rfl rfl ?_
    obtain ⟨g8, h⟩ := h
    refine eg_aaload6 dX10_put_28 (arC_41 (by decide : 0 < 4) g8) ?_
    show eg_W κ gC mtX10_put d (eQI κ gC post) 29 [(0, vR (10, 0)), (1, vI l1)] [vR (4, 5 * 0 + l1.toNatClampNeg)] M6
    refine eg_getI dX10_put_29 fl_10_210 rfl trivial (obC_4 (ixT5 (by decide : 0 < 4) g8)) ?_
    exact eg_ireturn dX10_put_32 rfl h
  · have h := h.2 c5
    refine eg_iconst dX10_put_11 ic_m1 ?_
    exact eg_ireturn dX10_put_12 rfl h
theorem dX10_change_0 : decode cX10_change 0 = .ok (.aload_n 0, 1) := by decide +kernel
theorem dX10_change_1 : decode cX10_change 1 = .ok (.getfield 32, 3) := by decide +kernel
theorem dX10_change_4 : decode cX10_change 4 = .ok (.iload_n 1, 1) := by decide +kernel
theorem dX10_change_5 : decode cX10_change 5 = .ok (.invokevirtual 188, 3) := by decide +kernel
theorem dX10_change_8 : decode cX10_change 8 = .ok (.ifCond .eq 29, 3) := by decide +kernel
theorem dX10_change_11 : decode cX10_change 11 = .ok (.aload_n 0, 1) := by decide +kernel
theorem dX10_change_12 : decode cX10_change 12 = .ok (.getfield 32, 3) := by decide +kernel
theorem dX10_change_15 : decode cX10_change 15 = .ok (.iload_n 2, 1) := by decide +kernel
theorem dX10_change_16 : decode cX10_change 16 = .ok (.invokevirtual 188, 3) := by decide +kernel
theorem dX10_change_19 : decode cX10_change 19 = .ok (.ifCond .eq 18, 3) := by decide +kernel
theorem dX10_change_22 : decode cX10_change 22 = .ok (.iload_n 1, 1) := by decide +kernel
theorem dX10_change_23 : decode cX10_change 23 = .ok (.iload_n 2, 1) := by decide +kernel
theorem dX10_change_24 : decode cX10_change 24 = .ok (.if_icmp .eq 13, 3) := by decide +kernel
theorem dX10_change_27 : decode cX10_change 27 = .ok (.aload_n 0, 1) := by decide +kernel
theorem dX10_change_28 : decode cX10_change 28 = .ok (.getfield 65, 3) := by decide +kernel
theorem dX10_change_31 : decode cX10_change 31 = .ok (.getfield 237, 3) := by decide +kernel
theorem dX10_change_34 : decode cX10_change 34 = .ok (.ifCond .le 5, 3) := by decide +kernel
theorem dX10_change_37 : decode cX10_change 37 = .ok (.iconst 0, 1) := by decide +kernel
theorem dX10_change_38 : decode cX10_change 38 = .ok (.ireturn, 1) := by decide +kernel
theorem dX10_change_39 : decode cX10_change 39 = .ok (.aload_n 0, 1) := by decide +kernel
theorem dX10_change_40 : decode cX10_change 40 = .ok (.iconst 1, 1) := by decide +kernel
theorem dX10_change_41 : decode cX10_change 41 = .ok (.iload_n 1, 1) := by decide +kernel
theorem dX10_change_42 : decode cX10_change 42 = .ok (.iload_n 2, 1) := by decide +kernel
theorem dX10_change_43 : decode cX10_change 43 = .ok (.invokevirtual 249, 3) := by decide +kernel
theorem dX10_change_46 : decode cX10_change 46 = .ok (.iconst 1, 1) := by decide +kernel
theorem dX10_change_47 : decode cX10_change 47 = .ok (.ireturn, 1) := by decide +kernel
set_option maxRecDepth 10000 in
theorem vX10_change_0 {κ : eg_K} {d : Nat} (hd : 1 ≤ d) {post : Int32 → eg_H → Prop} (M : eg_H) (l1 : Int32) (l2 : Int32) (h : (∃ p1 : Nat, p1 < 2 ∧ M.2.2 (10, 0) 3 = (5, p1) ∧ (∀ x3 : Int32, x3 = (fX5_hasStation M p1 l1) → (x3 = 0 → post (0 : Int32) M) ∧ ((¬ x3 = 0) → (∀ x6 : Int32, x6 = (fX5_hasStation M p1 l2) → (x6 = 0 → post (0 : Int32) M) ∧ ((¬ x6 = 0) → (l1 = l2 → post (0 : Int32) M) ∧ ((¬ l1 = l2) → ((M.1 (7, 0) 6) ≤ 0 → eCV κ gC mtX10_doByHand d [vR (10, 0), vI (1 : Int32), vI l1, vI l2] M (fun M10 => post (1 : Int32) M10)) ∧ ((¬ (M.1 (7, 0) 6) ≤ 0) → post (0 : Int32) M)))))))) : eg_W κ gC mtX10_change d (eQI κ gC post) 0 [(0, vR (10, 0)), (1, vI l1), (2, vI l2)] [] M := by
  refine eg_aload_n 0 dX10_change_0 rfl rfl ?_
  refine eg_getD dX10_change_1 fl_10_32 rfl rfl (obC_10 z1) ?_
  obtain ⟨p1, hp1, ep1, h⟩ := h
  rw [ep1]
  refine eg_iload_n 1 dX10_change_4 rfl rfl ?_
  refine eg_callVI (av := [vI l1]) (st := []) dX10_change_5 ml_10_188 rfl rfl (obC_5 hp1) (by decide) rfl (Nat.le_of_ble_eq_true rfl) (eg_dd (by omega)) (sX5_hasStation (by omega) M p1 l1 hp1 ) (fun x3 M2 hp => ?_)
  obtain ⟨ex3, eM2⟩ := hp
  rw [eM2]
  have h := h x3 ex3
  refine eg_if_eq (tgt := 37) dX10_change_8 rfl (fun c4 => ?_) (fun c4 => ?_)
  · have h := h.1 c4
    refine eg_iconst dX10_change_37 ic_0 ?_
    exact eg_zreturn dX10_change_38 rfl (Or.inl rfl) h
  · have h := h.2 c4
    refine eg_aload_n 0 dX10_change_11 rfl rfl ?_
    refine eg_getD dX10_change_12 fl_10_32 rfl rfl (obC_10 z1) ?_
    rw [ep1]
    refine eg_iload_n 2 dX10_change_15 rfl rfl ?_
    refine eg_callVI (av := [vI l2]) (st := []) dX10_change_16 ml_10_188 rfl rfl (obC_5 hp1) (by decide) rfl (Nat.le_of_ble_eq_true rfl) (eg_dd (by omega)) (sX5_hasStation (by omega) M p1 l2 hp1 ) (fun x6 M5 hp => ?_)
    obtain ⟨ex6, eM5⟩ := hp
    rw [eM5]
    have h := h x6 ex6
    refine eg_if_eq (tgt := 37) dX10_change_19 rfl (fun c7 => ?_) (fun c7 => ?_)
    · have h := h.1 c7
      refine eg_iconst dX10_change_37 ic_0 ?_
      exact eg_zreturn dX10_change_38 rfl (Or.inl rfl) h
    · have h := h.2 c7
      refine eg_iload_n 1 dX10_change_22 rfl rfl ?_
      refine eg_iload_n 2 dX10_change_23 rfl rfl ?_
      refine eg_icmp_eq (tgt := 37) dX10_change_24 rfl (fun c8 => ?_) (fun c8 => ?_)
      · have h := h.1 c8
        refine eg_iconst dX10_change_37 ic_0 ?_
        exact eg_zreturn dX10_change_38 rfl (Or.inl rfl) h
      · have h := h.2 c8
        refine eg_aload_n 0 dX10_change_27 rfl rfl ?_
        refine eg_getR dX10_change_28 fl_10_65 rfl rfl (obC_10 z1) ?_
        show eg_W κ gC mtX10_change d (eQI κ gC post) 31 [(0, vR (10, 0)), (1, vI l1), (2, vI l2)] [vR (7, 0)] M
        refine eg_getI dX10_change_31 fl_10_237 rfl trivial (obC_7 (by decide : 0 < 4)) ?_
        refine eg_if_le (tgt := 39) dX10_change_34 rfl (fun c9 => ?_) (fun c9 => ?_)
        · have h := h.1 c9
          refine eg_aload_n 0 dX10_change_39 rfl rfl ?_
          refine eg_iconst dX10_change_40 ic_1 ?_
          refine eg_iload_n 1 dX10_change_41 rfl rfl ?_
          refine eg_iload_n 2 dX10_change_42 rfl rfl ?_
          obtain ⟨q11, hq11, h⟩ := h
          refine eg_callVV (av := [vI (1 : Int32), vI l1, vI l2]) (st := []) dX10_change_43 ml_10_249 rfl rfl (obC_10 z1) (by decide) rfl (Nat.le_of_ble_eq_true rfl) (eg_dd (by omega)) hq11 (fun M10 hp => ?_)
          have h := h M10 hp
          refine eg_iconst dX10_change_46 ic_1 ?_
          exact eg_zreturn dX10_change_47 rfl (Or.inr rfl) h
        · have h := h.2 c9
          refine eg_iconst dX10_change_37 ic_0 ?_
          exact eg_zreturn dX10_change_38 rfl (Or.inl rfl) h
theorem dX10_send_0 : decode cX10_send 0 = .ok (.aload_n 0, 1) := by decide +kernel
theorem dX10_send_1 : decode cX10_send 1 = .ok (.getfield 32, 3) := by decide +kernel
theorem dX10_send_4 : decode cX10_send 4 = .ok (.iload_n 1, 1) := by decide +kernel
theorem dX10_send_5 : decode cX10_send 5 = .ok (.invokevirtual 132, 3) := by decide +kernel
theorem dX10_send_8 : decode cX10_send 8 = .ok (.ifCond .eq 19, 3) := by decide +kernel
theorem dX10_send_11 : decode cX10_send 11 = .ok (.aload_n 0, 1) := by decide +kernel
theorem dX10_send_12 : decode cX10_send 12 = .ok (.getfield 65, 3) := by decide +kernel
theorem dX10_send_15 : decode cX10_send 15 = .ok (.getfield 143, 3) := by decide +kernel
theorem dX10_send_18 : decode cX10_send 18 = .ok (.iload_n 1, 1) := by decide +kernel
theorem dX10_send_19 : decode cX10_send 19 = .ok (.aaload, 1) := by decide +kernel
theorem dX10_send_20 : decode cX10_send 20 = .ok (.getfield 147, 3) := by decide +kernel
theorem dX10_send_23 : decode cX10_send 23 = .ok (.iconst 3, 1) := by decide +kernel
theorem dX10_send_24 : decode cX10_send 24 = .ok (.if_icmp .ne 5, 3) := by decide +kernel
theorem dX10_send_27 : decode cX10_send 27 = .ok (.iconst 0, 1) := by decide +kernel
theorem dX10_send_28 : decode cX10_send 28 = .ok (.ireturn, 1) := by decide +kernel
theorem dX10_send_29 : decode cX10_send 29 = .ok (.aload_n 0, 1) := by decide +kernel
theorem dX10_send_30 : decode cX10_send 30 = .ok (.iconst 2, 1) := by decide +kernel
theorem dX10_send_31 : decode cX10_send 31 = .ok (.iload_n 1, 1) := by decide +kernel
theorem dX10_send_32 : decode cX10_send 32 = .ok (.iconst 0, 1) := by decide +kernel
theorem dX10_send_33 : decode cX10_send 33 = .ok (.invokevirtual 249, 3) := by decide +kernel
theorem dX10_send_36 : decode cX10_send 36 = .ok (.iconst 1, 1) := by decide +kernel
theorem dX10_send_37 : decode cX10_send 37 = .ok (.ireturn, 1) := by decide +kernel
set_option maxRecDepth 10000 in
theorem vX10_send_0 {κ : eg_K} {d : Nat} (hd : 1 ≤ d) {post : Int32 → eg_H → Prop} (M : eg_H) (l1 : Int32) (h : (∃ p1 : Nat, p1 < 2 ∧ M.2.2 (10, 0) 3 = (5, p1) ∧ (∀ x3 : Int32, x3 = (fX5_hasGuest M p1 l1) → (x3 = 0 → post (0 : Int32) M) ∧ ((¬ x3 = 0) → (vp_in l1 15 ∧ ((¬ (M.1 (2, 15 * 0 + l1.toNatClampNeg) 0) = (3 : Int32)) → eCV κ gC mtX10_doByHand d [vR (10, 0), vI (2 : Int32), vI l1, vI (0 : Int32)] M (fun M7 => post (1 : Int32) M7)) ∧ ((M.1 (2, 15 * 0 + l1.toNatClampNeg) 0) = (3 : Int32) → post (0 : Int32) M)))))) : eg_W κ gC mtX10_send d (eQI κ gC post) 0 [(0, vR (10, 0)), (1, vI l1)] [] M := by
  refine eg_aload_n 0 dX10_send_0 rfl rfl ?_
  refine eg_getD dX10_send_1 fl_10_32 rfl rfl (obC_10 z1) ?_
  obtain ⟨p1, hp1, ep1, h⟩ := h
  rw [ep1]
  refine eg_iload_n 1 dX10_send_4 rfl rfl ?_
  refine eg_callVI (av := [vI l1]) (st := []) dX10_send_5 ml_10_132 rfl rfl (obC_5 hp1) (by decide) rfl (Nat.le_of_ble_eq_true rfl) (eg_dd (by omega)) (sX5_hasGuest (by omega) M p1 l1 hp1 ) (fun x3 M2 hp => ?_)
  obtain ⟨ex3, eM2⟩ := hp
  rw [eM2]
  have h := h x3 ex3
  refine eg_if_eq (tgt := 27) dX10_send_8 rfl (fun c4 => ?_) (fun c4 => ?_)
  · have h := h.1 c4
    refine eg_iconst dX10_send_27 ic_0 ?_
    exact eg_zreturn dX10_send_28 rfl (Or.inl rfl) h
  · have h := h.2 c4
    refine eg_aload_n 0 dX10_send_11 rfl rfl ?_
    refine eg_getR dX10_send_12 fl_10_65 rfl rfl (obC_10 z1) ?_
    show eg_W κ gC mtX10_send d (eQI κ gC post) 15 [(0, vR (10, 0)), (1, vI l1)] [vR (7, 0)] M
    refine eg_getR dX10_send_15 fl_10_143 rfl rfl (obC_7 (by decide : 0 < 4)) ?_
    show eg_W κ gC mtX10_send d (eQI κ gC post) 18 [(0, vR (10, 0)), (1, vI l1)] [vR (42, 0)] M
    refine eg_iload_n 1 dX10_send_18 rfl rfl ?_
    obtain ⟨g5, h⟩ := h
    refine eg_aaload7 dX10_send_19 (arC_42 (by decide : 0 < 4) g5) ?_
    show eg_W κ gC mtX10_send d (eQI κ gC post) 20 [(0, vR (10, 0)), (1, vI l1)] [vR (2, 15 * 0 + l1.toNatClampNeg)] M
    refine eg_getI dX10_send_20 fl_10_147 rfl trivial (obC_2 (ixT15 (by decide : 0 < 4) g5)) ?_
    refine eg_iconst dX10_send_23 ic_3 ?_
    refine eg_icmp_ne (tgt := 29) dX10_send_24 rfl (fun c6 => ?_) (fun c6 => ?_)
    · have h := h.1 c6
      refine eg_aload_n 0 dX10_send_29 rfl rfl ?_
      refine eg_iconst dX10_send_30 ic_2 ?_
      refine eg_iload_n 1 dX10_send_31 rfl rfl ?_
      refine eg_iconst dX10_send_32 ic_0 ?_
      obtain ⟨q8, hq8, h⟩ := h
      refine eg_callVV (av := [vI (2 : Int32), vI l1, vI (0 : Int32)]) (st := []) dX10_send_33 ml_10_249 rfl rfl (obC_10 z1) (by decide) rfl (Nat.le_of_ble_eq_true rfl) (eg_dd (by omega)) hq8 (fun M7 hp => ?_)
      have h := h M7 hp
      refine eg_iconst dX10_send_36 ic_1 ?_
      exact eg_zreturn dX10_send_37 rfl (Or.inr rfl) h
    · have h := h.2 c6
      refine eg_iconst dX10_send_27 ic_0 ?_
      exact eg_zreturn dX10_send_28 rfl (Or.inl rfl) h
theorem dX10_undo_0 : decode cX10_undo 0 = .ok (.aload_n 0, 1) := by decide +kernel
theorem dX10_undo_1 : decode cX10_undo 1 = .ok (.getfield 113, 3) := by decide +kernel
theorem dX10_undo_4 : decode cX10_undo 4 = .ok (.ifCond .gt 5, 3) := by decide +kernel
theorem dX10_undo_7 : decode cX10_undo 7 = .ok (.iconst (-1), 1) := by decide +kernel
theorem dX10_undo_8 : decode cX10_undo 8 = .ok (.ireturn, 1) := by decide +kernel
theorem dX10_undo_9 : decode cX10_undo 9 = .ok (.aload_n 0, 1) := by decide +kernel
theorem dX10_undo_10 : decode cX10_undo 10 = .ok (.dup, 1) := by decide +kernel
theorem dX10_undo_11 : decode cX10_undo 11 = .ok (.getfield 113, 3) := by decide +kernel
theorem dX10_undo_14 : decode cX10_undo 14 = .ok (.iconst 1, 1) := by decide +kernel
theorem dX10_undo_15 : decode cX10_undo 15 = .ok (.isub, 1) := by decide +kernel
theorem dX10_undo_16 : decode cX10_undo 16 = .ok (.putfield 113, 3) := by decide +kernel
theorem dX10_undo_19 : decode cX10_undo 19 = .ok (.aload_n 0, 1) := by decide +kernel
theorem dX10_undo_20 : decode cX10_undo 20 = .ok (.getfield 65, 3) := by decide +kernel
theorem dX10_undo_23 : decode cX10_undo 23 = .ok (.aload_n 0, 1) := by decide +kernel
theorem dX10_undo_24 : decode cX10_undo 24 = .ok (.getfield 75, 3) := by decide +kernel
theorem dX10_undo_27 : decode cX10_undo 27 = .ok (.invokevirtual 253, 3) := by decide +kernel
theorem dX10_undo_30 : decode cX10_undo 30 = .ok (.iconst 0, 1) := by decide +kernel
theorem dX10_undo_31 : decode cX10_undo 31 = .ok (.istore_n 1, 1) := by decide +kernel
theorem dX10_undo_32 : decode cX10_undo 32 = .ok (.iload_n 1, 1) := by decide +kernel
theorem dX10_undo_33 : decode cX10_undo 33 = .ok (.aload_n 0, 1) := by decide +kernel
theorem dX10_undo_34 : decode cX10_undo 34 = .ok (.getfield 113, 3) := by decide +kernel
theorem dX10_undo_37 : decode cX10_undo 37 = .ok (.if_icmp .ge 18, 3) := by decide +kernel
theorem dX10_undo_40 : decode cX10_undo 40 = .ok (.aload_n 0, 1) := by decide +kernel
theorem dX10_undo_41 : decode cX10_undo 41 = .ok (.aload_n 0, 1) := by decide +kernel
theorem dX10_undo_42 : decode cX10_undo 42 = .ok (.getfield 65, 3) := by decide +kernel
theorem dX10_undo_45 : decode cX10_undo 45 = .ok (.iload_n 1, 1) := by decide +kernel
theorem dX10_undo_46 : decode cX10_undo 46 = .ok (.invokevirtual 257, 3) := by decide +kernel
theorem dX10_undo_49 : decode cX10_undo 49 = .ok (.iinc 1 1, 3) := by decide +kernel
theorem dX10_undo_52 : decode cX10_undo 52 = .ok (.goto (-20), 3) := by decide +kernel
theorem dX10_undo_55 : decode cX10_undo 55 = .ok (.aload_n 0, 1) := by decide +kernel
theorem dX10_undo_56 : decode cX10_undo 56 = .ok (.getfield 113, 3) := by decide +kernel
theorem dX10_undo_59 : decode cX10_undo 59 = .ok (.ireturn, 1) := by decide +kernel
set_option maxRecDepth 10000 in
theorem vX10_undo_0 {κ : eg_K} {d : Nat} (hd : 1 ≤ d) {post : Int32 → eg_H → Prop} (M : eg_H)  (h : (0 < (M.1 (10, 0) 11) → (∀ M2 : eg_H, M2 = (sI M (10, 0) 11 ((M.1 (10, 0) 11) - (1 : Int32))) → eCV κ gC mtX7_copyFrom d [vR (7, 0), vR (7, 3)] M2 (fun M3 => eg_W κ gC mtX10_undo d (eQI κ gC post) 32 [(0, vR (10, 0)), (1, vI (0 : Int32))] [] M3))) ∧ ((¬ 0 < (M.1 (10, 0) 11)) → post (-1 : Int32) M)) : eg_W κ gC mtX10_undo d (eQI κ gC post) 0 [(0, vR (10, 0))] [] M := by
  refine eg_aload_n 0 dX10_undo_0 rfl rfl ?_
  refine eg_getI dX10_undo_1 fl_10_113 rfl trivial (obC_10 z1) ?_
  refine eg_if_gt (tgt := 9) dX10_undo_4 rfl (fun c1 => ?_) (fun c1 => ?_)
  · have h := h.1 c1
    refine eg_aload_n 0 dX10_undo_9 rfl rfl ?_
    refine eg_dup dX10_undo_10 rfl ?_
    refine eg_getI dX10_undo_11 fl_10_113 rfl trivial (obC_10 z1) ?_
    refine eg_iconst dX10_undo_14 ic_1 ?_
    refine eg_isub dX10_undo_15 ?_
    refine en_putI dX10_undo_16 fl_10_113 rfl rfl (obC_10 z1) (fun M2 eM2 => ?_)
    have h := h M2 eM2
    refine eg_aload_n 0 dX10_undo_19 rfl rfl ?_
    refine eg_getR dX10_undo_20 fl_10_65 rfl rfl (obC_10 z1) ?_
    show eg_W κ gC mtX10_undo d (eQI κ gC post) 23 [(0, vR (10, 0))] [vR (7, 0)] M2
    refine eg_aload_n 0 dX10_undo_23 rfl rfl ?_
    refine eg_getR dX10_undo_24 fl_10_75 rfl rfl (obC_10 z1) ?_
    show eg_W κ gC mtX10_undo d (eQI κ gC post) 27 [(0, vR (10, 0))] [vR (7, 3), vR (7, 0)] M2
    obtain ⟨q4, hq4, h⟩ := h
    refine eg_callVV (av := [vR (7, 3)]) (st := []) dX10_undo_27 ml_10_253 rfl rfl (obC_7 (by decide : 0 < 4)) (by decide) rfl (Nat.le_of_ble_eq_true rfl) (eg_dd (by omega)) hq4 (fun M3 hp => ?_)
    have h := h M3 hp
    refine eg_iconst dX10_undo_30 ic_0 ?_
    refine eg_istore_n dX10_undo_31 rfl (by decide) (ls1 := [(1, vI (0 : Int32)), (0, vR (10, 0))]) rfl ?_
    refine eg_sub [1, 0] rfl ?_
    exact h
  · have h := h.2 c1
    refine eg_iconst dX10_undo_7 ic_m1 ?_
    exact eg_ireturn dX10_undo_8 rfl h
set_option maxRecDepth 10000 in
theorem vX10_undo_32 {κ : eg_K} {d : Nat} (hd : 1 ≤ d) {post : Int32 → eg_H → Prop} (M : eg_H) (l1 : Int32) (h : ((M.1 (10, 0) 11) ≤ l1 → post (M.1 (10, 0) 11) M) ∧ ((¬ (M.1 (10, 0) 11) ≤ l1) → eCV κ gC mtX10_performAgain d [vR (10, 0), vR (7, 0), vI l1] M (fun M2 => (∀ x4 : Int32, x4 = (l1 + (1 : Int32)) → eg_W κ gC mtX10_undo d (eQI κ gC post) 32 [(0, vR (10, 0)), (1, vI x4)] [] M2)))) : eg_W κ gC mtX10_undo d (eQI κ gC post) 32 [(0, vR (10, 0)), (1, vI l1)] [] M := by
  refine eg_iload_n 1 dX10_undo_32 rfl rfl ?_
  refine eg_aload_n 0 dX10_undo_33 rfl rfl ?_
  refine eg_getI dX10_undo_34 fl_10_113 rfl trivial (obC_10 z1) ?_
  refine eg_icmp_ge (tgt := 55) dX10_undo_37 rfl (fun c1 => ?_) (fun c1 => ?_)
  · have h := h.1 c1
    refine eg_aload_n 0 dX10_undo_55 rfl rfl ?_
    refine eg_getI dX10_undo_56 fl_10_113 rfl trivial (obC_10 z1) ?_
    exact eg_ireturn dX10_undo_59 rfl h
  · have h := h.2 c1
    refine eg_aload_n 0 dX10_undo_40 rfl rfl ?_
    refine eg_aload_n 0 dX10_undo_41 rfl rfl ?_
    refine eg_getR dX10_undo_42 fl_10_65 rfl rfl (obC_10 z1) ?_
    show eg_W κ gC mtX10_undo d (eQI κ gC post) 45 [(0, vR (10, 0)), (1, vI l1)] [vR (7, 0), vR (10, 0)] M
    refine eg_iload_n 1 dX10_undo_45 rfl rfl ?_
    obtain ⟨q3, hq3, h⟩ := h
    refine eg_callVV (av := [vR (7, 0), vI l1]) (st := []) dX10_undo_46 ml_10_257 rfl rfl (obC_10 z1) (by decide) rfl (Nat.le_of_ble_eq_true rfl) (eg_dd (by omega)) hq3 (fun M2 hp => ?_)
    have h := h M2 hp
    refine en_iinc (f := fun x4 => [(1, vI x4), (0, vR (10, 0))]) 1 dX10_undo_49 rfl rfl (by decide) rfl (fun x4 ex4 => ?_)
    have h := h x4 ex4
    refine eg_goto (tgt := 32) dX10_undo_52 rfl ?_
    refine eg_sub [1, 0] rfl ?_
    exact h
theorem dX10_doByHand_0 : decode cX10_doByHand 0 = .ok (.aload_n 0, 1) := by decide +kernel
theorem dX10_doByHand_1 : decode cX10_doByHand 1 = .ok (.getfield 113, 3) := by decide +kernel
theorem dX10_doByHand_4 : decode cX10_doByHand 4 = .ok (.ifCond .ne 14, 3) := by decide +kernel
theorem dX10_doByHand_7 : decode cX10_doByHand 7 = .ok (.aload_n 0, 1) := by decide +kernel
theorem dX10_doByHand_8 : decode cX10_doByHand 8 = .ok (.getfield 75, 3) := by decide +kernel
theorem dX10_doByHand_11 : decode cX10_doByHand 11 = .ok (.aload_n 0, 1) := by decide +kernel
theorem dX10_doByHand_12 : decode cX10_doByHand 12 = .ok (.getfield 65, 3) := by decide +kernel
theorem dX10_doByHand_15 : decode cX10_doByHand 15 = .ok (.invokevirtual 253, 3) := by decide +kernel
theorem dX10_doByHand_18 : decode cX10_doByHand 18 = .ok (.aload_n 0, 1) := by decide +kernel
theorem dX10_doByHand_19 : decode cX10_doByHand 19 = .ok (.getfield 113, 3) := by decide +kernel
theorem dX10_doByHand_22 : decode cX10_doByHand 22 = .ok (.bipush 20, 2) := by decide +kernel
theorem dX10_doByHand_24 : decode cX10_doByHand 24 = .ok (.if_icmp .lt 33, 3) := by decide +kernel
theorem dX10_doByHand_27 : decode cX10_doByHand 27 = .ok (.aload_n 0, 1) := by decide +kernel
theorem dX10_doByHand_28 : decode cX10_doByHand 28 = .ok (.aload_n 0, 1) := by decide +kernel
theorem dX10_doByHand_29 : decode cX10_doByHand 29 = .ok (.getfield 75, 3) := by decide +kernel
theorem dX10_doByHand_32 : decode cX10_doByHand 32 = .ok (.iconst 0, 1) := by decide +kernel
theorem dX10_doByHand_33 : decode cX10_doByHand 33 = .ok (.invokevirtual 257, 3) := by decide +kernel
theorem dX10_doByHand_36 : decode cX10_doByHand 36 = .ok (.aload_n 0, 1) := by decide +kernel
theorem dX10_doByHand_37 : decode cX10_doByHand 37 = .ok (.getfield 39, 3) := by decide +kernel
theorem dX10_doByHand_40 : decode cX10_doByHand 40 = .ok (.iconst 3, 1) := by decide +kernel
theorem dX10_doByHand_41 : decode cX10_doByHand 41 = .ok (.aload_n 0, 1) := by decide +kernel
theorem dX10_doByHand_42 : decode cX10_doByHand 42 = .ok (.getfield 39, 3) := by decide +kernel
theorem dX10_doByHand_45 : decode cX10_doByHand 45 = .ok (.iconst 0, 1) := by decide +kernel
theorem dX10_doByHand_46 : decode cX10_doByHand 46 = .ok (.bipush 57, 2) := by decide +kernel
theorem dX10_doByHand_48 : decode cX10_doByHand 48 = .ok (.invokestatic 261, 3) := by decide +kernel
theorem dX10_doByHand_51 : decode cX10_doByHand 51 = .ok (.aload_n 0, 1) := by decide +kernel
theorem dX10_doByHand_52 : decode cX10_doByHand 52 = .ok (.bipush 19, 2) := by decide +kernel
theorem dX10_doByHand_54 : decode cX10_doByHand 54 = .ok (.putfield 113, 3) := by decide +kernel
theorem dX10_doByHand_57 : decode cX10_doByHand 57 = .ok (.aload_n 0, 1) := by decide +kernel
theorem dX10_doByHand_58 : decode cX10_doByHand 58 = .ok (.getfield 113, 3) := by decide +kernel
theorem dX10_doByHand_61 : decode cX10_doByHand 61 = .ok (.iconst 3, 1) := by decide +kernel
theorem dX10_doByHand_62 : decode cX10_doByHand 62 = .ok (.imul, 1) := by decide +kernel
theorem dX10_doByHand_63 : decode cX10_doByHand 63 = .ok (.istore 4, 2) := by decide +kernel
theorem dX10_doByHand_65 : decode cX10_doByHand 65 = .ok (.aload_n 0, 1) := by decide +kernel
theorem dX10_doByHand_66 : decode cX10_doByHand 66 = .ok (.getfield 39, 3) := by decide +kernel
theorem dX10_doByHand_69 : decode cX10_doByHand 69 = .ok (.iload 4, 2) := by decide +kernel
theorem dX10_doByHand_71 : decode cX10_doByHand 71 = .ok (.iload_n 1, 1) := by decide +kernel
theorem dX10_doByHand_72 : decode cX10_doByHand 72 = .ok (.iastore, 1) := by decide +kernel
theorem dX10_doByHand_73 : decode cX10_doByHand 73 = .ok (.aload_n 0, 1) := by decide +kernel
theorem dX10_doByHand_74 : decode cX10_doByHand 74 = .ok (.getfield 39, 3) := by decide +kernel
theorem dX10_doByHand_77 : decode cX10_doByHand 77 = .ok (.iload 4, 2) := by decide +kernel
theorem dX10_doByHand_79 : decode cX10_doByHand 79 = .ok (.iconst 1, 1) := by decide +kernel
theorem dX10_doByHand_80 : decode cX10_doByHand 80 = .ok (.iadd, 1) := by decide +kernel
theorem dX10_doByHand_81 : decode cX10_doByHand 81 = .ok (.iload_n 2, 1) := by decide +kernel
theorem dX10_doByHand_82 : decode cX10_doByHand 82 = .ok (.iastore, 1) := by decide +kernel
theorem dX10_doByHand_83 : decode cX10_doByHand 83 = .ok (.aload_n 0, 1) := by decide +kernel
theorem dX10_doByHand_84 : decode cX10_doByHand 84 = .ok (.getfield 39, 3) := by decide +kernel
theorem dX10_doByHand_87 : decode cX10_doByHand 87 = .ok (.iload 4, 2) := by decide +kernel
theorem dX10_doByHand_89 : decode cX10_doByHand 89 = .ok (.iconst 2, 1) := by decide +kernel
theorem dX10_doByHand_90 : decode cX10_doByHand 90 = .ok (.iadd, 1) := by decide +kernel
theorem dX10_doByHand_91 : decode cX10_doByHand 91 = .ok (.iload_n 3, 1) := by decide +kernel
theorem dX10_doByHand_92 : decode cX10_doByHand 92 = .ok (.iastore, 1) := by decide +kernel
theorem dX10_doByHand_93 : decode cX10_doByHand 93 = .ok (.aload_n 0, 1) := by decide +kernel
theorem dX10_doByHand_94 : decode cX10_doByHand 94 = .ok (.dup, 1) := by decide +kernel
theorem dX10_doByHand_95 : decode cX10_doByHand 95 = .ok (.getfield 113, 3) := by decide +kernel
theorem dX10_doByHand_98 : decode cX10_doByHand 98 = .ok (.iconst 1, 1) := by decide +kernel
theorem dX10_doByHand_99 : decode cX10_doByHand 99 = .ok (.iadd, 1) := by decide +kernel
theorem dX10_doByHand_100 : decode cX10_doByHand 100 = .ok (.putfield 113, 3) := by decide +kernel
theorem dX10_doByHand_103 : decode cX10_doByHand 103 = .ok (.aload_n 0, 1) := by decide +kernel
theorem dX10_doByHand_104 : decode cX10_doByHand 104 = .ok (.getfield 65, 3) := by decide +kernel
theorem dX10_doByHand_107 : decode cX10_doByHand 107 = .ok (.iload_n 1, 1) := by decide +kernel
theorem dX10_doByHand_108 : decode cX10_doByHand 108 = .ok (.iload_n 2, 1) := by decide +kernel
theorem dX10_doByHand_109 : decode cX10_doByHand 109 = .ok (.iload_n 3, 1) := by decide +kernel
theorem dX10_doByHand_110 : decode cX10_doByHand 110 = .ok (.invokevirtual 267, 3) := by decide +kernel
theorem dX10_doByHand_113 : decode cX10_doByHand 113 = .ok (.return_, 1) := by decide +kernel
set_option maxRecDepth 10000 in
theorem vX10_doByHand_0 {κ : eg_K} {d : Nat} (hd : 1 ≤ d) {post : eg_H → Prop} (M : eg_H) (l1 : Int32) (l2 : Int32) (l3 : Int32) (h : ((¬ (M.1 (10, 0) 11) = 0) → eg_W κ gC mtX10_doByHand d (eQV κ gC post) 18 [(0, vR (10, 0)), (1, vI l1), (2, vI l2), (3, vI l3)] [] M) ∧ ((M.1 (10, 0) 11) = 0 → eCV κ gC mtX7_copyFrom d [vR (7, 3), vR (7, 0)] M (fun M2 => eg_W κ gC mtX10_doByHand d (eQV κ gC post) 18 [(0, vR (10, 0)), (1, vI l1), (2, vI l2), (3, vI l3)] [] M2))) : eg_W κ gC mtX10_doByHand d (eQV κ gC post) 0 [(0, vR (10, 0)), (1, vI l1), (2, vI l2), (3, vI l3)] [] M := by
  refine eg_aload_n 0 dX10_doByHand_0 rfl rfl ?_
  refine eg_getI dX10_doByHand_1 fl_10_113 rfl trivial (obC_10 z1) ?_
  refine eg_if_ne (tgt := 18) dX10_doByHand_4 rfl (fun c1 => ?_) (fun c1 => ?_)
  · have h := h.1 c1
    exact h
  · have h := h.2 c1
    refine eg_aload_n 0 dX10_doByHand_7 rfl rfl ?_
    refine eg_getR dX10_doByHand_8 fl_10_75 rfl rfl (obC_10 z1) ?_
    show eg_W κ gC mtX10_doByHand d (eQV κ gC post) 11 [(0, vR (10, 0)), (1, vI l1), (2, vI l2), (3, vI l3)] [vR (7, 3)] M
    refine eg_aload_n 0 dX10_doByHand_11 rfl rfl ?_
    refine eg_getR dX10_doByHand_12 fl_10_65 rfl rfl (obC_10 z1) ?_
    show eg_W κ gC mtX10_doByHand d (eQV κ gC post) 15 [(0, vR (10, 0)), (1, vI l1), (2, vI l2), (3, vI l3)] [vR (7, 0), vR (7, 3)] M
    obtain ⟨q3, hq3, h⟩ := h
    refine eg_callVV (av := [vR (7, 0)]) (st := []) dX10_doByHand_15 ml_10_253 rfl rfl (obC_7 (by decide : 3 < 4)) (by decide) rfl (Nat.le_of_ble_eq_true rfl) (eg_dd (by omega)) hq3 (fun M2 hp => ?_)
    have h := h M2 hp
    exact h
set_option maxRecDepth 10000 in
theorem vX10_doByHand_18 {κ : eg_K} {d : Nat} (hd : 1 ≤ d) {post : eg_H → Prop} (M : eg_H) (l1 : Int32) (l2 : Int32) (l3 : Int32) (h : ((M.1 (10, 0) 11) < (20 : Int32) → eg_W κ gC mtX10_doByHand d (eQV κ gC post) 57 [(0, vR (10, 0)), (1, vI l1), (2, vI l2), (3, vI l3)] [] M) ∧ ((¬ (M.1 (10, 0) 11) < (20 : Int32)) → eCV κ gC mtX10_performAgain d [vR (10, 0), vR (7, 3), vI (0 : Int32)] M (fun M2 => (∀ M4 : eg_H, M4 = (sC M2 (51, 0) (51, 0) (3 : Int32).toNatClampNeg (0 : Int32).toNatClampNeg (57 : Int32).toNatClampNeg) → (∀ M5 : eg_H, M5 = (sI M4 (10, 0) 11 (19 : Int32)) → eg_W κ gC mtX10_doByHand d (eQV κ gC post) 57 [(0, vR (10, 0)), (1, vI l1), (2, vI l2), (3, vI l3)] [] M5))))) : eg_W κ gC mtX10_doByHand d (eQV κ gC post) 18 [(0, vR (10, 0)), (1, vI l1), (2, vI l2), (3, vI l3)] [] M := by
  refine eg_aload_n 0 dX10_doByHand_18 rfl rfl ?_
  refine eg_getI dX10_doByHand_19 fl_10_113 rfl trivial (obC_10 z1) ?_
  refine eg_bipush dX10_doByHand_22 bp_20 ?_
  refine eg_icmp_lt (tgt := 57) dX10_doByHand_24 rfl (fun c1 => ?_) (fun c1 => ?_)
  · have h := h.1 c1
    exact h
  · have h := h.2 c1
    refine eg_aload_n 0 dX10_doByHand_27 rfl rfl ?_
    refine eg_aload_n 0 dX10_doByHand_28 rfl rfl ?_
    refine eg_getR dX10_doByHand_29 fl_10_75 rfl rfl (obC_10 z1) ?_
    show eg_W κ gC mtX10_doByHand d (eQV κ gC post) 32 [(0, vR (10, 0)), (1, vI l1), (2, vI l2), (3, vI l3)] [vR (7, 3), vR (10, 0)] M
    refine eg_iconst dX10_doByHand_32 ic_0 ?_
    obtain ⟨q3, hq3, h⟩ := h
    refine eg_callVV (av := [vR (7, 3), vI (0 : Int32)]) (st := []) dX10_doByHand_33 ml_10_257 rfl rfl (obC_10 z1) (by decide) rfl (Nat.le_of_ble_eq_true rfl) (eg_dd (by omega)) hq3 (fun M2 hp => ?_)
    have h := h M2 hp
    refine eg_aload_n 0 dX10_doByHand_36 rfl rfl ?_
    refine eg_getR dX10_doByHand_37 fl_10_39 rfl rfl (obC_10 z1) ?_
    show eg_W κ gC mtX10_doByHand d (eQV κ gC post) 40 [(0, vR (10, 0)), (1, vI l1), (2, vI l2), (3, vI l3)] [vR (51, 0)] M2
    refine eg_iconst dX10_doByHand_40 ic_3 ?_
    refine eg_aload_n 0 dX10_doByHand_41 rfl rfl ?_
    refine eg_getR dX10_doByHand_42 fl_10_39 rfl rfl (obC_10 z1) ?_
    show eg_W κ gC mtX10_doByHand d (eQV κ gC post) 45 [(0, vR (10, 0)), (1, vI l1), (2, vI l2), (3, vI l3)] [vR (51, 0), vI (3 : Int32), vR (51, 0)] M2
    refine eg_iconst dX10_doByHand_45 ic_0 ?_
    refine eg_bipush dX10_doByHand_46 bp_57 ?_
    refine en_copy dX10_doByHand_48 ml_10_261 (anC_51 z1) (anC_51 z1) (by decide) (Nat.le_of_ble_eq_true rfl) (by omega) (fun M4 eM4 => ?_)
    have h := h M4 eM4
    refine eg_aload_n 0 dX10_doByHand_51 rfl rfl ?_
    refine eg_bipush dX10_doByHand_52 bp_19 ?_
    refine en_putI dX10_doByHand_54 fl_10_113 rfl rfl (obC_10 z1) (fun M5 eM5 => ?_)
    have h := h M5 eM5
    exact h
set_option maxRecDepth 10000 in
theorem vX10_doByHand_57 {κ : eg_K} {d : Nat} (hd : 1 ≤ d) {post : eg_H → Prop} (M : eg_H) (l1 : Int32) (l2 : Int32) (l3 : Int32) (h : (∀ x1 : Int32, x1 = ((M.1 (10, 0) 11) * (3 : Int32)) → (vp_in x1 60 ∧ (∀ M3 : eg_H, M3 = (sI M (51, 0) x1.toNatClampNeg l1) → (vp_in (x1 + (1 : Int32)) 60 ∧ (∀ M5 : eg_H, M5 = (sI M3 (51, 0) (x1 + (1 : Int32)).toNatClampNeg l2) → (vp_in (x1 + (2 : Int32)) 60 ∧ (∀ M7 : eg_H, M7 = (sI M5 (51, 0) (x1 + (2 : Int32)).toNatClampNeg l3) → (∀ M8 : eg_H, M8 = (sI M7 (10, 0) 11 ((M7.1 (10, 0) 11) + (1 : Int32))) → eCV κ gC mtX7_perform d [vR (7, 0), vI l1, vI l2, vI l3] M8 (fun M9 => post M9)))))))))) : eg_W κ gC mtX10_doByHand d (eQV κ gC post) 57 [(0, vR (10, 0)), (1, vI l1), (2, vI l2), (3, vI l3)] [] M := by
  refine eg_aload_n 0 dX10_doByHand_57 rfl rfl ?_
  refine eg_getI dX10_doByHand_58 fl_10_113 rfl trivial (obC_10 z1) ?_
  refine eg_iconst dX10_doByHand_61 ic_3 ?_
  refine eg_imul dX10_doByHand_62 ?_
  refine en_istore (f := fun x1 => [(4, vI x1), (0, vR (10, 0)), (1, vI l1), (2, vI l2), (3, vI l3)]) dX10_doByHand_63 (by decide) rfl (fun x1 ex1 => ?_)
  have h := h x1 ex1
  refine eg_aload_n 1 dX10_doByHand_65 rfl rfl ?_
  refine eg_getR dX10_doByHand_66 fl_10_39 rfl rfl (obC_10 z1) ?_
  show eg_W κ gC mtX10_doByHand d (eQV κ gC post) 69 [(4, vI x1), (0, vR (10, 0)), (1, vI l1), (2, vI l2), (3, vI l3)] [vR (51, 0)] M
  refine eg_iload 0 dX10_doByHand_69 rfl ?_
  refine eg_iload_n 2 dX10_doByHand_71 rfl rfl ?_
  obtain ⟨g2, h⟩ := h
  refine en_iastore dX10_doByHand_72 (arC_51 z1 g2) (fun M3 eM3 => ?_)
  have h := h M3 eM3
  refine eg_aload_n 1 dX10_doByHand_73 rfl rfl ?_
  refine eg_getR dX10_doByHand_74 fl_10_39 rfl rfl (obC_10 z1) ?_
  show eg_W κ gC mtX10_doByHand d (eQV κ gC post) 77 [(4, vI x1), (0, vR (10, 0)), (1, vI l1), (2, vI l2), (3, vI l3)] [vR (51, 0)] M3
  refine eg_iload 0 dX10_doByHand_77 rfl ?_
  refine eg_iconst dX10_doByHand_79 ic_1 ?_
  refine eg_iadd dX10_doByHand_80 ?_
  refine eg_iload_n 3 dX10_doByHand_81 rfl rfl ?_
  obtain ⟨g4, h⟩ := h
  refine en_iastore dX10_doByHand_82 (arC_51 z1 g4) (fun M5 eM5 => ?_)
  have h := h M5 eM5
  refine eg_aload_n 1 dX10_doByHand_83 rfl rfl ?_
  refine eg_getR dX10_doByHand_84 fl_10_39 rfl rfl (obC_10 z1) ?_
  show eg_W κ gC mtX10_doByHand d (eQV κ gC post) 87 [(4, vI x1), (0, vR (10, 0)), (1, vI l1), (2, vI l2), (3, vI l3)] [vR (51, 0)] M5
  refine eg_iload 0 dX10_doByHand_87 rfl ?_
  refine eg_iconst dX10_doByHand_89 ic_2 ?_
  refine eg_iadd dX10_doByHand_90 ?_
  refine eg_iload_n 4 dX10_doByHand_91 rfl rfl ?_
  obtain ⟨g6, h⟩ := h
  refine en_iastore dX10_doByHand_92 (arC_51 z1 g6) (fun M7 eM7 => ?_)
  have h := h M7 eM7
  refine eg_aload_n 1 dX10_doByHand_93 rfl rfl ?_
  refine eg_dup dX10_doByHand_94 rfl ?_
  refine eg_getI dX10_doByHand_95 fl_10_113 rfl trivial (obC_10 z1) ?_
  refine eg_iconst dX10_doByHand_98 ic_1 ?_
  refine eg_iadd dX10_doByHand_99 ?_
  refine en_putI dX10_doByHand_100 fl_10_113 rfl rfl (obC_10 z1) (fun M8 eM8 => ?_)
  have h := h M8 eM8
  refine eg_aload_n 1 dX10_doByHand_103 rfl rfl ?_
  refine eg_getR dX10_doByHand_104 fl_10_65 rfl rfl (obC_10 z1) ?_
  show eg_W κ gC mtX10_doByHand d (eQV κ gC post) 107 [(4, vI x1), (0, vR (10, 0)), (1, vI l1), (2, vI l2), (3, vI l3)] [vR (7, 0)] M8
  refine eg_iload_n 2 dX10_doByHand_107 rfl rfl ?_
  refine eg_iload_n 3 dX10_doByHand_108 rfl rfl ?_
  refine eg_iload_n 4 dX10_doByHand_109 rfl rfl ?_
  obtain ⟨q10, hq10, h⟩ := h
  refine eg_callVV (av := [vI l1, vI l2, vI l3]) (st := []) dX10_doByHand_110 ml_10_267 rfl rfl (obC_7 (by decide : 0 < 4)) (by decide) rfl (Nat.le_of_ble_eq_true rfl) (eg_dd (by omega)) hq10 (fun M9 hp => ?_)
  have h := h M9 hp
  exact eg_vreturn dX10_doByHand_113 rfl h
theorem dX10_performAgain_0 : decode cX10_performAgain 0 = .ok (.iload_n 2, 1) := by decide +kernel
theorem dX10_performAgain_1 : decode cX10_performAgain 1 = .ok (.iconst 3, 1) := by decide +kernel
theorem dX10_performAgain_2 : decode cX10_performAgain 2 = .ok (.imul, 1) := by decide +kernel
theorem dX10_performAgain_3 : decode cX10_performAgain 3 = .ok (.istore_n 3, 1) := by decide +kernel
theorem dX10_performAgain_4 : decode cX10_performAgain 4 = .ok (.aload_n 1, 1) := by decide +kernel
theorem dX10_performAgain_5 : decode cX10_performAgain 5 = .ok (.aload_n 0, 1) := by decide +kernel
theorem dX10_performAgain_6 : decode cX10_performAgain 6 = .ok (.getfield 39, 3) := by decide +kernel
theorem dX10_performAgain_9 : decode cX10_performAgain 9 = .ok (.iload_n 3, 1) := by decide +kernel
theorem dX10_performAgain_10 : decode cX10_performAgain 10 = .ok (.iaload, 1) := by decide +kernel
theorem dX10_performAgain_11 : decode cX10_performAgain 11 = .ok (.aload_n 0, 1) := by decide +kernel
theorem dX10_performAgain_12 : decode cX10_performAgain 12 = .ok (.getfield 39, 3) := by decide +kernel
theorem dX10_performAgain_15 : decode cX10_performAgain 15 = .ok (.iload_n 3, 1) := by decide +kernel
theorem dX10_performAgain_16 : decode cX10_performAgain 16 = .ok (.iconst 1, 1) := by decide +kernel
theorem dX10_performAgain_17 : decode cX10_performAgain 17 = .ok (.iadd, 1) := by decide +kernel
theorem dX10_performAgain_18 : decode cX10_performAgain 18 = .ok (.iaload, 1) := by decide +kernel
theorem dX10_performAgain_19 : decode cX10_performAgain 19 = .ok (.aload_n 0, 1) := by decide +kernel
theorem dX10_performAgain_20 : decode cX10_performAgain 20 = .ok (.getfield 39, 3) := by decide +kernel
theorem dX10_performAgain_23 : decode cX10_performAgain 23 = .ok (.iload_n 3, 1) := by decide +kernel
theorem dX10_performAgain_24 : decode cX10_performAgain 24 = .ok (.iconst 2, 1) := by decide +kernel
theorem dX10_performAgain_25 : decode cX10_performAgain 25 = .ok (.iadd, 1) := by decide +kernel
theorem dX10_performAgain_26 : decode cX10_performAgain 26 = .ok (.iaload, 1) := by decide +kernel
theorem dX10_performAgain_27 : decode cX10_performAgain 27 = .ok (.invokevirtual 267, 3) := by decide +kernel
theorem dX10_performAgain_30 : decode cX10_performAgain 30 = .ok (.return_, 1) := by decide +kernel
set_option maxRecDepth 10000 in
theorem vX10_performAgain_0 {κ : eg_K} {d : Nat} (hd : 1 ≤ d) {post : eg_H → Prop} (M : eg_H) {l1 : Nat} (hl1 : l1 < 4) (l2 : Int32) (h : (∀ x1 : Int32, x1 = (l2 * (3 : Int32)) → (vp_in x1 60 ∧ (vp_in (x1 + (1 : Int32)) 60 ∧ (vp_in (x1 + (2 : Int32)) 60 ∧ eCV κ gC mtX7_perform d [vR (7, l1), vI (M.1 (51, 0) x1.toNatClampNeg), vI (M.1 (51, 0) (x1 + (1 : Int32)).toNatClampNeg), vI (M.1 (51, 0) (x1 + (2 : Int32)).toNatClampNeg)] M (fun M5 => post M5)))))) : eg_W κ gC mtX10_performAgain d (eQV κ gC post) 0 [(0, vR (10, 0)), (1, vR (7, l1)), (2, vI l2)] [] M := by
  refine eg_iload_n 2 dX10_performAgain_0 rfl rfl ?_
  refine eg_iconst dX10_performAgain_1 ic_3 ?_
  refine eg_imul dX10_performAgain_2 ?_
  refine en_istore_n (f := fun x1 => [(3, vI x1), (0, vR (10, 0)), (1, vR (7, l1)), (2, vI l2)]) dX10_performAgain_3 rfl (by decide) rfl (fun x1 ex1 => ?_)
  have h := h x1 ex1
  refine eg_aload_n 2 dX10_performAgain_4 rfl rfl ?_
  refine eg_aload_n 1 dX10_performAgain_5 rfl rfl ?_
  refine eg_getR dX10_performAgain_6 fl_10_39 rfl rfl (obC_10 z1) ?_
  show eg_W κ gC mtX10_performAgain d (eQV κ gC post) 9 [(3, vI x1), (0, vR (10, 0)), (1, vR (7, l1)), (2, vI l2)] [vR (51, 0), vR (7, l1)] M
  refine eg_iload_n 0 dX10_performAgain_9 rfl rfl ?_
  obtain ⟨g2, h⟩ := h
  refine eg_iaload dX10_performAgain_10 (arC_51 z1 g2) ?_
  refine eg_aload_n 1 dX10_performAgain_11 rfl rfl ?_
  refine eg_getR dX10_performAgain_12 fl_10_39 rfl rfl (obC_10 z1) ?_
  show eg_W κ gC mtX10_performAgain d (eQV κ gC post) 15 [(3, vI x1), (0, vR (10, 0)), (1, vR (7, l1)), (2, vI l2)] [vR (51, 0), vI (M.1 (51, 0) x1.toNatClampNeg), vR (7, l1)] M
  refine eg_iload_n 0 dX10_performAgain_15 rfl rfl ?_
  refine eg_iconst dX10_performAgain_16 ic_1 ?_
  refine eg_iadd dX10_performAgain_17 ?_
  obtain ⟨g3, h⟩ := h
  refine eg_iaload dX10_performAgain_18 (arC_51 z1 g3) ?_
  refine eg_aload_n 1 dX10_performAgain_19 rfl rfl ?_
  refine eg_getR dX10_performAgain_20 fl_10_39 rfl rfl (obC_10 z1) ?_
  show eg_W κ gC mtX10_performAgain d (eQV κ gC post) 23 [(3, vI x1), (0, vR (10, 0)), (1, vR (7, l1)), (2, vI l2)] [vR (51, 0), vI (M.1 (51, 0) (x1 + (1 : Int32)).toNatClampNeg), vI (M.1 (51, 0) x1.toNatClampNeg), vR (7, l1)] M
  refine eg_iload_n 0 dX10_performAgain_23 rfl rfl ?_
  refine eg_iconst dX10_performAgain_24 ic_2 ?_
  refine eg_iadd dX10_performAgain_25 ?_
  obtain ⟨g4, h⟩ := h
  refine eg_iaload dX10_performAgain_26 (arC_51 z1 g4) ?_
  obtain ⟨q6, hq6, h⟩ := h
  refine eg_callVV (av := [vI (M.1 (51, 0) x1.toNatClampNeg), vI (M.1 (51, 0) (x1 + (1 : Int32)).toNatClampNeg), vI (M.1 (51, 0) (x1 + (2 : Int32)).toNatClampNeg)]) (st := []) dX10_performAgain_27 ml_10_267 rfl rfl (obC_7 hl1) (by decide) rfl (Nat.le_of_ble_eq_true rfl) (eg_dd (by omega)) hq6 (fun M5 hp => ?_)
  have h := h M5 hp
  exact eg_vreturn dX10_performAgain_30 rfl h
theorem dX10_waited_0 : decode cX10_waited 0 = .ok (.iload_n 1, 1) := by decide +kernel
theorem dX10_waited_1 : decode cX10_waited 1 = .ok (.invokestatic 270, 3) := by decide +kernel
theorem dX10_waited_4 : decode cX10_waited 4 = .ok (.ifCond .eq 15, 3) := by decide +kernel
theorem dX10_waited_7 : decode cX10_waited 7 = .ok (.aload_n 0, 1) := by decide +kernel
theorem dX10_waited_8 : decode cX10_waited 8 = .ok (.aload_n 0, 1) := by decide +kernel
theorem dX10_waited_9 : decode cX10_waited 9 = .ok (.getfield 32, 3) := by decide +kernel
theorem dX10_waited_12 : decode cX10_waited 12 = .ok (.iload_n 1, 1) := by decide +kernel
theorem dX10_waited_13 : decode cX10_waited 13 = .ok (.invokevirtual 273, 3) := by decide +kernel
theorem dX10_waited_16 : decode cX10_waited 16 = .ok (.goto 4, 3) := by decide +kernel
theorem dX10_waited_19 : decode cX10_waited 19 = .ok (.iconst (-1), 1) := by decide +kernel
theorem dX10_waited_20 : decode cX10_waited 20 = .ok (.ireturn, 1) := by decide +kernel
set_option maxRecDepth 10000 in
theorem vX10_waited_0 {κ : eg_K} {d : Nat} (hd : 1 ≤ d) {post : Int32 → eg_H → Prop} (M : eg_H) (l1 : Int32) (h : (∀ x2 : Int32, x2 = (fX10_isLength M l1) → (x2 = 0 → post (-1 : Int32) M) ∧ ((¬ x2 = 0) → (∃ p4 : Nat, p4 < 2 ∧ M.2.2 (10, 0) 3 = (5, p4) ∧ eCI κ gC mtX10_waitedBy d [vR (10, 0), vR (5, p4), vI l1] M (fun x5 M6 => post x5 M6))))) : eg_W κ gC mtX10_waited d (eQI κ gC post) 0 [(0, vR (10, 0)), (1, vI l1)] [] M := by
  refine eg_iload_n 1 dX10_waited_0 rfl rfl ?_
  refine eg_callSI (av := [vI l1]) (st := []) dX10_waited_1 ml_10_270 rfl rfl (Nat.le_of_ble_eq_true rfl) (eg_dd (by omega)) (sX10_isLength (by omega) M l1  ) (fun x2 M1 hp => ?_)
  obtain ⟨ex2, eM1⟩ := hp
  rw [eM1]
  have h := h x2 ex2
  refine eg_if_eq (tgt := 19) dX10_waited_4 rfl (fun c3 => ?_) (fun c3 => ?_)
  · have h := h.1 c3
    refine eg_iconst dX10_waited_19 ic_m1 ?_
    exact eg_ireturn dX10_waited_20 rfl h
  · have h := h.2 c3
    refine eg_aload_n 0 dX10_waited_7 rfl rfl ?_
    refine eg_aload_n 0 dX10_waited_8 rfl rfl ?_
    refine eg_getD dX10_waited_9 fl_10_32 rfl rfl (obC_10 z1) ?_
    obtain ⟨p4, hp4, ep4, h⟩ := h
    rw [ep4]
    refine eg_iload_n 1 dX10_waited_12 rfl rfl ?_
    obtain ⟨q7, hq7, h⟩ := h
    refine eg_callVI (av := [vR (5, p4), vI l1]) (st := []) dX10_waited_13 ml_10_273 rfl rfl (obC_10 z1) (by decide) rfl (Nat.le_of_ble_eq_true rfl) (eg_dd (by omega)) hq7 (fun x5 M6 hp => ?_)
    have h := h x5 M6 hp
    refine eg_goto (tgt := 20) dX10_waited_16 rfl ?_
    exact eg_ireturn dX10_waited_20 rfl h
theorem dX10_waitedBy_0 : decode cX10_waitedBy 0 = .ok (.aload_n 0, 1) := by decide +kernel
theorem dX10_waitedBy_1 : decode cX10_waitedBy 1 = .ok (.getfield 69, 3) := by decide +kernel
theorem dX10_waitedBy_4 : decode cX10_waitedBy 4 = .ok (.aload_n 1, 1) := by decide +kernel
theorem dX10_waitedBy_5 : decode cX10_waitedBy 5 = .ok (.aload_n 0, 1) := by decide +kernel
theorem dX10_waitedBy_6 : decode cX10_waitedBy 6 = .ok (.getfield 65, 3) := by decide +kernel
theorem dX10_waitedBy_9 : decode cX10_waitedBy 9 = .ok (.getfield 234, 3) := by decide +kernel
theorem dX10_waitedBy_12 : decode cX10_waitedBy 12 = .ok (.invokevirtual 106, 3) := by decide +kernel
theorem dX10_waitedBy_15 : decode cX10_waitedBy 15 = .ok (.aload_n 0, 1) := by decide +kernel
theorem dX10_waitedBy_16 : decode cX10_waitedBy 16 = .ok (.getfield 69, 3) := by decide +kernel
theorem dX10_waitedBy_19 : decode cX10_waitedBy 19 = .ok (.iload_n 2, 1) := by decide +kernel
theorem dX10_waitedBy_20 : decode cX10_waitedBy 20 = .ok (.invokevirtual 246, 3) := by decide +kernel
theorem dX10_waitedBy_23 : decode cX10_waitedBy 23 = .ok (.aload_n 0, 1) := by decide +kernel
theorem dX10_waitedBy_24 : decode cX10_waitedBy 24 = .ok (.getfield 69, 3) := by decide +kernel
theorem dX10_waitedBy_27 : decode cX10_waitedBy 27 = .ok (.invokevirtual 277, 3) := by decide +kernel
theorem dX10_waitedBy_30 : decode cX10_waitedBy 30 = .ok (.ireturn, 1) := by decide +kernel
set_option maxRecDepth 10000 in
theorem vX10_waitedBy_0 {κ : eg_K} {d : Nat} (hd : 1 ≤ d) {post : Int32 → eg_H → Prop} (M : eg_H) {l1 : Nat} (hl1 : l1 < 2) (l2 : Int32) (h : eCV κ gC mtX7_begin d [vR (7, 1), vR (5, l1), vR (40, 0)] M (fun M1 => eCV κ gC mtX7_go d [vR (7, 1), vI l2] M1 (fun M3 => (gX7_waitedByAll M3 1 ∧ (∀ x7 : Int32, x7 = (fX7_waitedByAll M3 1) → post x7 M3))))) : eg_W κ gC mtX10_waitedBy d (eQI κ gC post) 0 [(0, vR (10, 0)), (1, vR (5, l1)), (2, vI l2)] [] M := by
  refine eg_aload_n 0 dX10_waitedBy_0 rfl rfl ?_
  refine eg_getR dX10_waitedBy_1 fl_10_69 rfl rfl (obC_10 z1) ?_
  show eg_W κ gC mtX10_waitedBy d (eQI κ gC post) 4 [(0, vR (10, 0)), (1, vR (5, l1)), (2, vI l2)] [vR (7, 1)] M
  refine eg_aload_n 1 dX10_waitedBy_4 rfl rfl ?_
  refine eg_aload_n 0 dX10_waitedBy_5 rfl rfl ?_
  refine eg_getR dX10_waitedBy_6 fl_10_65 rfl rfl (obC_10 z1) ?_
  show eg_W κ gC mtX10_waitedBy d (eQI κ gC post) 9 [(0, vR (10, 0)), (1, vR (5, l1)), (2, vI l2)] [vR (7, 0), vR (5, l1), vR (7, 1)] M
  refine eg_getR dX10_waitedBy_9 fl_10_234 rfl rfl (obC_7 (by decide : 0 < 4)) ?_
  show eg_W κ gC mtX10_waitedBy d (eQI κ gC post) 12 [(0, vR (10, 0)), (1, vR (5, l1)), (2, vI l2)] [vR (40, 0), vR (5, l1), vR (7, 1)] M
  obtain ⟨q2, hq2, h⟩ := h
  refine eg_callVV (av := [vR (5, l1), vR (40, 0)]) (st := []) dX10_waitedBy_12 ml_10_106 rfl rfl (obC_7 (by decide : 1 < 4)) (by decide) rfl (Nat.le_of_ble_eq_true rfl) (eg_dd (by omega)) hq2 (fun M1 hp => ?_)
  have h := h M1 hp
  refine eg_aload_n 0 dX10_waitedBy_15 rfl rfl ?_
  refine eg_getR dX10_waitedBy_16 fl_10_69 rfl rfl (obC_10 z1) ?_
  show eg_W κ gC mtX10_waitedBy d (eQI κ gC post) 19 [(0, vR (10, 0)), (1, vR (5, l1)), (2, vI l2)] [vR (7, 1)] M1
  refine eg_iload_n 2 dX10_waitedBy_19 rfl rfl ?_
  obtain ⟨q4, hq4, h⟩ := h
  refine eg_callVV (av := [vI l2]) (st := []) dX10_waitedBy_20 ml_10_246 rfl rfl (obC_7 (by decide : 1 < 4)) (by decide) rfl (Nat.le_of_ble_eq_true rfl) (eg_dd (by omega)) hq4 (fun M3 hp => ?_)
  have h := h M3 hp
  refine eg_aload_n 0 dX10_waitedBy_23 rfl rfl ?_
  refine eg_getR dX10_waitedBy_24 fl_10_69 rfl rfl (obC_10 z1) ?_
  show eg_W κ gC mtX10_waitedBy d (eQI κ gC post) 27 [(0, vR (10, 0)), (1, vR (5, l1)), (2, vI l2)] [vR (7, 1)] M3
  obtain ⟨g5, h⟩ := h
  refine eg_callVI (av := []) (st := []) dX10_waitedBy_27 ml_10_277 rfl rfl (obC_7 (by decide : 1 < 4)) (by decide) rfl (Nat.le_of_ble_eq_true rfl) (eg_dd (by omega)) (sX7_waitedByAll (by omega) M3 1 (by decide : 1 < 4) g5) (fun x7 M6 hp => ?_)
  obtain ⟨ex7, eM6⟩ := hp
  rw [eM6]
  have h := h x7 ex7
  exact eg_ireturn dX10_waitedBy_30 rfl h
theorem dX10_slow_0 : decode cX10_slow 0 = .ok (.aload_n 0, 1) := by decide +kernel
theorem dX10_slow_1 : decode cX10_slow 1 = .ok (.getfield 32, 3) := by decide +kernel
theorem dX10_slow_4 : decode cX10_slow 4 = .ok (.iload_n 1, 1) := by decide +kernel
theorem dX10_slow_5 : decode cX10_slow 5 = .ok (.invokevirtual 132, 3) := by decide +kernel
theorem dX10_slow_8 : decode cX10_slow 8 = .ok (.ifCond .eq 10, 3) := by decide +kernel
theorem dX10_slow_11 : decode cX10_slow 11 = .ok (.iload_n 2, 1) := by decide +kernel
theorem dX10_slow_12 : decode cX10_slow 12 = .ok (.invokestatic 270, 3) := by decide +kernel
theorem dX10_slow_15 : decode cX10_slow 15 = .ok (.ifCond .ne 7, 3) := by decide +kernel
theorem dX10_slow_18 : decode cX10_slow 18 = .ok (.ldc_w 282, 3) := by decide +kernel
theorem dX10_slow_21 : decode cX10_slow 21 = .ok (.ireturn, 1) := by decide +kernel
theorem dX10_slow_22 : decode cX10_slow 22 = .ok (.aload_n 0, 1) := by decide +kernel
theorem dX10_slow_23 : decode cX10_slow 23 = .ok (.aload_n 0, 1) := by decide +kernel
theorem dX10_slow_24 : decode cX10_slow 24 = .ok (.getfield 32, 3) := by decide +kernel
theorem dX10_slow_27 : decode cX10_slow 27 = .ok (.iload_n 2, 1) := by decide +kernel
theorem dX10_slow_28 : decode cX10_slow 28 = .ok (.invokevirtual 273, 3) := by decide +kernel
theorem dX10_slow_31 : decode cX10_slow 31 = .ok (.istore_n 3, 1) := by decide +kernel
theorem dX10_slow_32 : decode cX10_slow 32 = .ok (.iload_n 3, 1) := by decide +kernel
theorem dX10_slow_33 : decode cX10_slow 33 = .ok (.aload_n 0, 1) := by decide +kernel
theorem dX10_slow_34 : decode cX10_slow 34 = .ok (.getfield 69, 3) := by decide +kernel
theorem dX10_slow_37 : decode cX10_slow 37 = .ok (.getfield 143, 3) := by decide +kernel
theorem dX10_slow_40 : decode cX10_slow 40 = .ok (.iload_n 1, 1) := by decide +kernel
theorem dX10_slow_41 : decode cX10_slow 41 = .ok (.aaload, 1) := by decide +kernel
theorem dX10_slow_42 : decode cX10_slow 42 = .ok (.getfield 165, 3) := by decide +kernel
theorem dX10_slow_45 : decode cX10_slow 45 = .ok (.isub, 1) := by decide +kernel
theorem dX10_slow_46 : decode cX10_slow 46 = .ok (.istore_n 3, 1) := by decide +kernel
theorem dX10_slow_47 : decode cX10_slow 47 = .ok (.aload_n 0, 1) := by decide +kernel
theorem dX10_slow_48 : decode cX10_slow 48 = .ok (.getfield 36, 3) := by decide +kernel
theorem dX10_slow_51 : decode cX10_slow 51 = .ok (.aload_n 0, 1) := by decide +kernel
theorem dX10_slow_52 : decode cX10_slow 52 = .ok (.getfield 32, 3) := by decide +kernel
theorem dX10_slow_55 : decode cX10_slow 55 = .ok (.invokevirtual 283, 3) := by decide +kernel
theorem dX10_slow_58 : decode cX10_slow 58 = .ok (.aload_n 0, 1) := by decide +kernel
theorem dX10_slow_59 : decode cX10_slow 59 = .ok (.getfield 36, 3) := by decide +kernel
theorem dX10_slow_62 : decode cX10_slow 62 = .ok (.getfield 285, 3) := by decide +kernel
theorem dX10_slow_65 : decode cX10_slow 65 = .ok (.iload_n 1, 1) := by decide +kernel
theorem dX10_slow_66 : decode cX10_slow 66 = .ok (.aaload, 1) := by decide +kernel
theorem dX10_slow_67 : decode cX10_slow 67 = .ok (.iconst (-1), 1) := by decide +kernel
theorem dX10_slow_68 : decode cX10_slow 68 = .ok (.putfield 289, 3) := by decide +kernel
theorem dX10_slow_71 : decode cX10_slow 71 = .ok (.iload_n 3, 1) := by decide +kernel
theorem dX10_slow_72 : decode cX10_slow 72 = .ok (.aload_n 0, 1) := by decide +kernel
theorem dX10_slow_73 : decode cX10_slow 73 = .ok (.aload_n 0, 1) := by decide +kernel
theorem dX10_slow_74 : decode cX10_slow 74 = .ok (.getfield 36, 3) := by decide +kernel
theorem dX10_slow_77 : decode cX10_slow 77 = .ok (.iload_n 2, 1) := by decide +kernel
theorem dX10_slow_78 : decode cX10_slow 78 = .ok (.invokevirtual 273, 3) := by decide +kernel
theorem dX10_slow_81 : decode cX10_slow 81 = .ok (.isub, 1) := by decide +kernel
theorem dX10_slow_82 : decode cX10_slow 82 = .ok (.ireturn, 1) := by decide +kernel
set_option maxRecDepth 10000 in
theorem vX10_slow_0 {κ : eg_K} {d : Nat} (hd : 1 ≤ d) {post : Int32 → eg_H → Prop} (M : eg_H) (l1 : Int32) (l2 : Int32) (h : (∃ p1 : Nat, p1 < 2 ∧ M.2.2 (10, 0) 3 = (5, p1) ∧ (∀ x3 : Int32, x3 = (fX5_hasGuest M p1 l1) → (x3 = 0 → post (-2147483648 : Int32) M) ∧ ((¬ x3 = 0) → (∀ x6 : Int32, x6 = (fX10_isLength M l2) → ((¬ x6 = 0) → eCI κ gC mtX10_waitedBy d [vR (10, 0), vR (5, p1), vI l2] M (fun x8 M9 => (vp_in l1 15 ∧ (∀ x12 : Int32, x12 = (x8 - (M9.1 (2, 15 * 1 + l1.toNatClampNeg) 7)) → (∃ p13 : Nat, p13 < 2 ∧ M9.2.2 (10, 0) 4 = (5, p13) ∧ (∃ p14 : Nat, p14 < 2 ∧ M9.2.2 (10, 0) 3 = (5, p14) ∧ eCV κ gC mtX5_copyFrom d [vR (5, p13), vR (5, p14)] M9 (fun M15 => (∃ p17 : Nat, p17 < 2 ∧ M15.2.2 (10, 0) 4 = (5, p17) ∧ (∀ M18 : eg_H, M18 = (sI M15 (0, 15 * p17 + l1.toNatClampNeg) 1 (-1 : Int32)) → eCI κ gC mtX10_waitedBy d [vR (10, 0), vR (5, p17), vI l2] M18 (fun x19 M20 => post (x12 - x19) M20)))))))))) ∧ (x6 = 0 → post (-2147483648 : Int32) M)))))) : eg_W κ gC mtX10_slow d (eQI κ gC post) 0 [(0, vR (10, 0)), (1, vI l1), (2, vI l2)] [] M := by
  refine eg_aload_n 0 dX10_slow_0 rfl rfl ?_
  refine eg_getD dX10_slow_1 fl_10_32 rfl rfl (obC_10 z1) ?_
  obtain ⟨p1, hp1, ep1, h⟩ := h
  rw [ep1]
  refine eg_iload_n 1 dX10_slow_4 rfl rfl ?_
  refine eg_callVI (av := [vI l1]) (st := []) dX10_slow_5 ml_10_132 rfl rfl (obC_5 hp1) (by decide) rfl (Nat.le_of_ble_eq_true rfl) (eg_dd (by omega)) (sX5_hasGuest (by omega) M p1 l1 hp1 ) (fun x3 M2 hp => ?_)
  obtain ⟨ex3, eM2⟩ := hp
  rw [eM2]
  have h := h x3 ex3
  refine eg_if_eq (tgt := 18) dX10_slow_8 rfl (fun c4 => ?_) (fun c4 => ?_)
  · have h := h.1 c4
    refine eg_ldcw dX10_slow_18 kc_10_282 ?_
    exact eg_ireturn dX10_slow_21 rfl h
  · have h := h.2 c4
    refine eg_iload_n 2 dX10_slow_11 rfl rfl ?_
    refine eg_callSI (av := [vI l2]) (st := []) dX10_slow_12 ml_10_270 rfl rfl (Nat.le_of_ble_eq_true rfl) (eg_dd (by omega)) (sX10_isLength (by omega) M l2  ) (fun x6 M5 hp => ?_)
    obtain ⟨ex6, eM5⟩ := hp
    rw [eM5]
    have h := h x6 ex6
    refine eg_if_ne (tgt := 22) dX10_slow_15 rfl (fun c7 => ?_) (fun c7 => ?_)
    · have h := h.1 c7
      refine eg_aload_n 0 dX10_slow_22 rfl rfl ?_
      refine eg_aload_n 0 dX10_slow_23 rfl rfl ?_
      refine eg_getD dX10_slow_24 fl_10_32 rfl rfl (obC_10 z1) ?_
      rw [ep1]
      refine eg_iload_n 2 dX10_slow_27 rfl rfl ?_
      obtain ⟨q10, hq10, h⟩ := h
      refine eg_callVI (av := [vR (5, p1), vI l2]) (st := []) dX10_slow_28 ml_10_273 rfl rfl (obC_10 z1) (by decide) rfl (Nat.le_of_ble_eq_true rfl) (eg_dd (by omega)) hq10 (fun x8 M9 hp => ?_)
      have h := h x8 M9 hp
      refine eg_istore_n dX10_slow_31 rfl (by decide) (ls1 := [(3, vI x8), (0, vR (10, 0)), (1, vI l1), (2, vI l2)]) rfl ?_
      refine eg_iload_n 0 dX10_slow_32 rfl rfl ?_
      refine eg_aload_n 1 dX10_slow_33 rfl rfl ?_
      refine eg_getR dX10_slow_34 fl_10_69 rfl rfl (obC_10 z1) ?_
      show eg_W κ gC mtX10_slow d (eQI κ gC post) 37 [(3, vI x8), (0, vR (10, 0)), (1, vI l1), (2, vI l2)] [vR (7, 1), vI x8] M9
      refine eg_getR dX10_slow_37 fl_10_143 rfl rfl (obC_7 (by decide : 1 < 4)) ?_
      show eg_W κ gC mtX10_slow d (eQI κ gC post) 40 [(3, vI x8), (0, vR (10, 0)), (1, vI l1), (2, vI l2)] [vR (42, 1), vI x8] M9
      refine eg_iload_n 2 dX10_slow_40 rfl rfl ?_
      obtain ⟨g11, h⟩ := h
      refine eg_aaload7 dX10_slow_41 (arC_42 (by decide : 1 < 4) g11) ?_
      show eg_W κ gC mtX10_slow d (eQI κ gC post) 42 [(3, vI x8), (0, vR (10, 0)), (1, vI l1), (2, vI l2)] [vR (2, 15 * 1 + l1.toNatClampNeg), vI x8] M9
      refine eg_getI dX10_slow_42 fl_10_165 rfl trivial (obC_2 (ixT15 (by decide : 1 < 4) g11)) ?_
      refine eg_isub dX10_slow_45 ?_
      refine en_istore_n (f := fun x12 => [(3, vI x12), (0, vR (10, 0)), (1, vI l1), (2, vI l2)]) dX10_slow_46 rfl (by decide) rfl (fun x12 ex12 => ?_)
      have h := h x12 ex12
      refine eg_aload_n 1 dX10_slow_47 rfl rfl ?_
      refine eg_getD dX10_slow_48 fl_10_36 rfl rfl (obC_10 z1) ?_
      obtain ⟨p13, hp13, ep13, h⟩ := h
      rw [ep13]
      refine eg_aload_n 1 dX10_slow_51 rfl rfl ?_
      refine eg_getD dX10_slow_52 fl_10_32 rfl rfl (obC_10 z1) ?_
      obtain ⟨p14, hp14, ep14, h⟩ := h
      rw [ep14]
      obtain ⟨q16, hq16, h⟩ := h
      refine eg_callVV (av := [vR (5, p14)]) (st := []) dX10_slow_55 ml_10_283 rfl rfl (obC_5 hp13) (by decide) rfl (Nat.le_of_ble_eq_true rfl) (eg_dd (by omega)) hq16 (fun M15 hp => ?_)
      have h := h M15 hp
      refine eg_aload_n 1 dX10_slow_58 rfl rfl ?_
      refine eg_getD dX10_slow_59 fl_10_36 rfl rfl (obC_10 z1) ?_
      obtain ⟨p17, hp17, ep17, h⟩ := h
      rw [ep17]
      refine eg_getR dX10_slow_62 fl_10_285 rfl rfl (obC_5 hp17) ?_
      show eg_W κ gC mtX10_slow d (eQI κ gC post) 65 [(3, vI x12), (0, vR (10, 0)), (1, vI l1), (2, vI l2)] [vR (31, p17)] M15
      refine eg_iload_n 2 dX10_slow_65 rfl rfl ?_
      refine eg_aaload5 dX10_slow_66 (arC_31 hp17 g11) ?_
      show eg_W κ gC mtX10_slow d (eQI κ gC post) 67 [(3, vI x12), (0, vR (10, 0)), (1, vI l1), (2, vI l2)] [vR (0, 15 * p17 + l1.toNatClampNeg)] M15
      refine eg_iconst dX10_slow_67 ic_m1 ?_
      refine en_putI dX10_slow_68 fl_10_289 rfl rfl (obC_0 (ixP15 hp17 g11)) (fun M18 eM18 => ?_)
      have h := h M18 eM18
      refine eg_iload_n 0 dX10_slow_71 rfl rfl ?_
      refine eg_aload_n 1 dX10_slow_72 rfl rfl ?_
      refine eg_aload_n 1 dX10_slow_73 rfl rfl ?_
      refine eg_getD dX10_slow_74 fl_10_36 rfl rfl (obC_10 z1) ?_
      rw [(show M18.2.2 (10, 0) 4 = (5, p17) from by rw [eM18]; exact ep17)]
      refine eg_iload_n 3 dX10_slow_77 rfl rfl ?_
      obtain ⟨q21, hq21, h⟩ := h
      refine eg_callVI (av := [vR (5, p17), vI l2]) (st := [vI x12]) dX10_slow_78 ml_10_273 rfl rfl (obC_10 z1) (by decide) rfl (Nat.le_of_ble_eq_true rfl) (eg_dd (by omega)) hq21 (fun x19 M20 hp => ?_)
      have h := h x19 M20 hp
      refine eg_isub dX10_slow_81 ?_
      exact eg_ireturn dX10_slow_82 rfl h
    · have h := h.2 c7
      refine eg_ldcw dX10_slow_18 kc_10_282 ?_
      exact eg_ireturn dX10_slow_21 rfl h
theorem dX10_many_0 : decode cX10_many 0 = .ok (.aload_n 0, 1) := by decide +kernel
theorem dX10_many_1 : decode cX10_many 1 = .ok (.getfield 32, 3) := by decide +kernel
theorem dX10_many_4 : decode cX10_many 4 = .ok (.iload_n 1, 1) := by decide +kernel
theorem dX10_many_5 : decode cX10_many 5 = .ok (.invokevirtual 188, 3) := by decide +kernel
theorem dX10_many_8 : decode cX10_many 8 = .ok (.ifCond .eq 21, 3) := by decide +kernel
theorem dX10_many_11 : decode cX10_many 11 = .ok (.iload_n 2, 1) := by decide +kernel
theorem dX10_many_12 : decode cX10_many 12 = .ok (.invokestatic 270, 3) := by decide +kernel
theorem dX10_many_15 : decode cX10_many 15 = .ok (.ifCond .eq 14, 3) := by decide +kernel
theorem dX10_many_18 : decode cX10_many 18 = .ok (.iload_n 3, 1) := by decide +kernel
theorem dX10_many_19 : decode cX10_many 19 = .ok (.ifCond .lt 10, 3) := by decide +kernel
theorem dX10_many_22 : decode cX10_many 22 = .ok (.iload_n 3, 1) := by decide +kernel
theorem dX10_many_23 : decode cX10_many 23 = .ok (.ldc_w 294, 3) := by decide +kernel
theorem dX10_many_26 : decode cX10_many 26 = .ok (.if_icmp .le 5, 3) := by decide +kernel
theorem dX10_many_29 : decode cX10_many 29 = .ok (.iconst (-1), 1) := by decide +kernel
theorem dX10_many_30 : decode cX10_many 30 = .ok (.ireturn, 1) := by decide +kernel
theorem dX10_many_31 : decode cX10_many 31 = .ok (.aload_n 0, 1) := by decide +kernel
theorem dX10_many_32 : decode cX10_many 32 = .ok (.getfield 36, 3) := by decide +kernel
theorem dX10_many_35 : decode cX10_many 35 = .ok (.aload_n 0, 1) := by decide +kernel
theorem dX10_many_36 : decode cX10_many 36 = .ok (.getfield 32, 3) := by decide +kernel
theorem dX10_many_39 : decode cX10_many 39 = .ok (.invokevirtual 283, 3) := by decide +kernel
theorem dX10_many_42 : decode cX10_many 42 = .ok (.iconst 1, 1) := by decide +kernel
theorem dX10_many_43 : decode cX10_many 43 = .ok (.istore 4, 2) := by decide +kernel
theorem dX10_many_45 : decode cX10_many 45 = .ok (.iload 4, 2) := by decide +kernel
theorem dX10_many_47 : decode cX10_many 47 = .ok (.iconst 4, 1) := by decide +kernel
theorem dX10_many_48 : decode cX10_many 48 = .ok (.if_icmp .gt 39, 3) := by decide +kernel
theorem dX10_many_51 : decode cX10_many 51 = .ok (.aload_n 0, 1) := by decide +kernel
theorem dX10_many_52 : decode cX10_many 52 = .ok (.getfield 36, 3) := by decide +kernel
theorem dX10_many_55 : decode cX10_many 55 = .ok (.getfield 195, 3) := by decide +kernel
theorem dX10_many_58 : decode cX10_many 58 = .ok (.iload_n 1, 1) := by decide +kernel
theorem dX10_many_59 : decode cX10_many 59 = .ok (.aaload, 1) := by decide +kernel
theorem dX10_many_60 : decode cX10_many 60 = .ok (.iload 4, 2) := by decide +kernel
theorem dX10_many_62 : decode cX10_many 62 = .ok (.putfield 204, 3) := by decide +kernel
theorem dX10_many_65 : decode cX10_many 65 = .ok (.aload_n 0, 1) := by decide +kernel
theorem dX10_many_66 : decode cX10_many 66 = .ok (.aload_n 0, 1) := by decide +kernel
theorem dX10_many_67 : decode cX10_many 67 = .ok (.getfield 36, 3) := by decide +kernel
theorem dX10_many_70 : decode cX10_many 70 = .ok (.iload_n 2, 1) := by decide +kernel
theorem dX10_many_71 : decode cX10_many 71 = .ok (.invokevirtual 273, 3) := by decide +kernel
theorem dX10_many_74 : decode cX10_many 74 = .ok (.iload_n 3, 1) := by decide +kernel
theorem dX10_many_75 : decode cX10_many 75 = .ok (.if_icmp .gt 6, 3) := by decide +kernel
theorem dX10_many_78 : decode cX10_many 78 = .ok (.iload 4, 2) := by decide +kernel
theorem dX10_many_80 : decode cX10_many 80 = .ok (.ireturn, 1) := by decide +kernel
theorem dX10_many_81 : decode cX10_many 81 = .ok (.iinc 4 1, 3) := by decide +kernel
theorem dX10_many_84 : decode cX10_many 84 = .ok (.goto (-39), 3) := by decide +kernel
theorem dX10_many_87 : decode cX10_many 87 = .ok (.bipush (-2), 2) := by decide +kernel
theorem dX10_many_89 : decode cX10_many 89 = .ok (.ireturn, 1) := by decide +kernel
set_option maxRecDepth 10000 in
theorem vX10_many_0 {κ : eg_K} {d : Nat} (hd : 1 ≤ d) {post : Int32 → eg_H → Prop} (M : eg_H) (l1 : Int32) (l2 : Int32) (l3 : Int32) (h : (∃ p1 : Nat, p1 < 2 ∧ M.2.2 (10, 0) 3 = (5, p1) ∧ (∀ x3 : Int32, x3 = (fX5_hasStation M p1 l1) → (x3 = 0 → post (-1 : Int32) M) ∧ ((¬ x3 = 0) → (∀ x6 : Int32, x6 = (fX10_isLength M l2) → (x6 = 0 → post (-1 : Int32) M) ∧ ((¬ x6 = 0) → (l3 < 0 → post (-1 : Int32) M) ∧ ((¬ l3 < 0) → (l3 ≤ (99999 : Int32) → (∃ p10 : Nat, p10 < 2 ∧ M.2.2 (10, 0) 4 = (5, p10) ∧ eCV κ gC mtX5_copyFrom d [vR (5, p10), vR (5, p1)] M (fun M11 => eg_W κ gC mtX10_many d (eQI κ gC post) 45 [(0, vR (10, 0)), (1, vI l1), (2, vI l2), (3, vI l3), (4, vI (1 : Int32))] [] M11))) ∧ ((¬ l3 ≤ (99999 : Int32)) → post (-1 : Int32) M)))))))) : eg_W κ gC mtX10_many d (eQI κ gC post) 0 [(0, vR (10, 0)), (1, vI l1), (2, vI l2), (3, vI l3)] [] M := by
  refine eg_aload_n 0 dX10_many_0 rfl rfl ?_
  refine eg_getD dX10_many_1 fl_10_32 rfl rfl (obC_10 z1) ?_
  obtain ⟨p1, hp1, ep1, h⟩ := h
  rw [ep1]
  refine eg_iload_n 1 dX10_many_4 rfl rfl ?_
  refine eg_callVI (av := [vI l1]) (st := []) dX10_many_5 ml_10_188 rfl rfl (obC_5 hp1) (by decide) rfl (Nat.le_of_ble_eq_true rfl) (eg_dd (by omega)) (sX5_hasStation (by omega) M p1 l1 hp1 ) (fun x3 M2 hp => ?_)
  obtain ⟨ex3, eM2⟩ := hp
  rw [eM2]
  have h := h x3 ex3
  refine eg_if_eq (tgt := 29) dX10_many_8 rfl (fun c4 => ?_) (fun c4 => ?_)
  · have h := h.1 c4
    refine eg_iconst dX10_many_29 ic_m1 ?_
    exact eg_ireturn dX10_many_30 rfl h
  · have h := h.2 c4
    refine eg_iload_n 2 dX10_many_11 rfl rfl ?_
    refine eg_callSI (av := [vI l2]) (st := []) dX10_many_12 ml_10_270 rfl rfl (Nat.le_of_ble_eq_true rfl) (eg_dd (by omega)) (sX10_isLength (by omega) M l2  ) (fun x6 M5 hp => ?_)
    obtain ⟨ex6, eM5⟩ := hp
    rw [eM5]
    have h := h x6 ex6
    refine eg_if_eq (tgt := 29) dX10_many_15 rfl (fun c7 => ?_) (fun c7 => ?_)
    · have h := h.1 c7
      refine eg_iconst dX10_many_29 ic_m1 ?_
      exact eg_ireturn dX10_many_30 rfl h
    · have h := h.2 c7
      refine eg_iload_n 3 dX10_many_18 rfl rfl ?_
      refine eg_if_lt (tgt := 29) dX10_many_19 rfl (fun c8 => ?_) (fun c8 => ?_)
      · have h := h.1 c8
        refine eg_iconst dX10_many_29 ic_m1 ?_
        exact eg_ireturn dX10_many_30 rfl h
      · have h := h.2 c8
        refine eg_iload_n 3 dX10_many_22 rfl rfl ?_
        refine eg_ldcw dX10_many_23 kc_10_294 ?_
        refine eg_icmp_le (tgt := 31) dX10_many_26 rfl (fun c9 => ?_) (fun c9 => ?_)
        · have h := h.1 c9
          refine eg_aload_n 0 dX10_many_31 rfl rfl ?_
          refine eg_getD dX10_many_32 fl_10_36 rfl rfl (obC_10 z1) ?_
          obtain ⟨p10, hp10, ep10, h⟩ := h
          rw [ep10]
          refine eg_aload_n 0 dX10_many_35 rfl rfl ?_
          refine eg_getD dX10_many_36 fl_10_32 rfl rfl (obC_10 z1) ?_
          rw [ep1]
          obtain ⟨q12, hq12, h⟩ := h
          refine eg_callVV (av := [vR (5, p1)]) (st := []) dX10_many_39 ml_10_283 rfl rfl (obC_5 hp10) (by decide) rfl (Nat.le_of_ble_eq_true rfl) (eg_dd (by omega)) hq12 (fun M11 hp => ?_)
          have h := h M11 hp
          refine eg_iconst dX10_many_42 ic_1 ?_
          refine eg_istore dX10_many_43 (by decide) (ls1 := [(4, vI (1 : Int32)), (0, vR (10, 0)), (1, vI l1), (2, vI l2), (3, vI l3)]) rfl ?_
          refine eg_sub [1, 2, 3, 4, 0] rfl ?_
          exact h
        · have h := h.2 c9
          refine eg_iconst dX10_many_29 ic_m1 ?_
          exact eg_ireturn dX10_many_30 rfl h
set_option maxRecDepth 10000 in
theorem vX10_many_45 {κ : eg_K} {d : Nat} (hd : 1 ≤ d) {post : Int32 → eg_H → Prop} (M : eg_H) (l1 : Int32) (l2 : Int32) (l3 : Int32) (l4 : Int32) (h : ((4 : Int32) < l4 → post (-2 : Int32) M) ∧ ((¬ (4 : Int32) < l4) → (∃ p2 : Nat, p2 < 2 ∧ M.2.2 (10, 0) 4 = (5, p2) ∧ (vp_in l1 5 ∧ (∀ M4 : eg_H, M4 = (sI M (1, 5 * p2 + l1.toNatClampNeg) 2 l4) → eCI κ gC mtX10_waitedBy d [vR (10, 0), vR (5, p2), vI l2] M4 (fun x5 M6 => (l3 < x5 → (∀ x9 : Int32, x9 = (l4 + (1 : Int32)) → eg_W κ gC mtX10_many d (eQI κ gC post) 45 [(0, vR (10, 0)), (1, vI l1), (2, vI l2), (3, vI l3), (4, vI x9)] [] M6)) ∧ ((¬ l3 < x5) → post l4 M6))))))) : eg_W κ gC mtX10_many d (eQI κ gC post) 45 [(0, vR (10, 0)), (1, vI l1), (2, vI l2), (3, vI l3), (4, vI l4)] [] M := by
  refine eg_iload 4 dX10_many_45 rfl ?_
  refine eg_iconst dX10_many_47 ic_4 ?_
  refine eg_icmp_gt (tgt := 87) dX10_many_48 rfl (fun c1 => ?_) (fun c1 => ?_)
  · have h := h.1 c1
    refine eg_bipush dX10_many_87 bp_m2 ?_
    exact eg_ireturn dX10_many_89 rfl h
  · have h := h.2 c1
    refine eg_aload_n 0 dX10_many_51 rfl rfl ?_
    refine eg_getD dX10_many_52 fl_10_36 rfl rfl (obC_10 z1) ?_
    obtain ⟨p2, hp2, ep2, h⟩ := h
    rw [ep2]
    refine eg_getR dX10_many_55 fl_10_195 rfl rfl (obC_5 hp2) ?_
    show eg_W κ gC mtX10_many d (eQI κ gC post) 58 [(0, vR (10, 0)), (1, vI l1), (2, vI l2), (3, vI l3), (4, vI l4)] [vR (30, p2)] M
    refine eg_iload_n 1 dX10_many_58 rfl rfl ?_
    obtain ⟨g3, h⟩ := h
    refine eg_aaload4 dX10_many_59 (arC_30 hp2 g3) ?_
    show eg_W κ gC mtX10_many d (eQI κ gC post) 60 [(0, vR (10, 0)), (1, vI l1), (2, vI l2), (3, vI l3), (4, vI l4)] [vR (1, 5 * p2 + l1.toNatClampNeg)] M
    refine eg_iload 4 dX10_many_60 rfl ?_
    refine en_putI dX10_many_62 fl_10_204 rfl rfl (obC_1 (ixP5 hp2 g3)) (fun M4 eM4 => ?_)
    have h := h M4 eM4
    refine eg_aload_n 0 dX10_many_65 rfl rfl ?_
    refine eg_aload_n 0 dX10_many_66 rfl rfl ?_
    refine eg_getD dX10_many_67 fl_10_36 rfl rfl (obC_10 z1) ?_
    rw [(show M4.2.2 (10, 0) 4 = (5, p2) from by rw [eM4]; exact ep2)]
    refine eg_iload_n 2 dX10_many_70 rfl rfl ?_
    obtain ⟨q7, hq7, h⟩ := h
    refine eg_callVI (av := [vR (5, p2), vI l2]) (st := []) dX10_many_71 ml_10_273 rfl rfl (obC_10 z1) (by decide) rfl (Nat.le_of_ble_eq_true rfl) (eg_dd (by omega)) hq7 (fun x5 M6 hp => ?_)
    have h := h x5 M6 hp
    refine eg_iload_n 3 dX10_many_74 rfl rfl ?_
    refine eg_icmp_gt (tgt := 81) dX10_many_75 rfl (fun c8 => ?_) (fun c8 => ?_)
    · have h := h.1 c8
      refine en_iinc (f := fun x9 => [(4, vI x9), (0, vR (10, 0)), (1, vI l1), (2, vI l2), (3, vI l3)]) 4 dX10_many_81 rfl rfl (by decide) rfl (fun x9 ex9 => ?_)
      have h := h x9 ex9
      refine eg_goto (tgt := 45) dX10_many_84 rfl ?_
      refine eg_sub [1, 2, 3, 4, 0] rfl ?_
      exact h
    · have h := h.2 c8
      refine eg_iload 4 dX10_many_78 rfl ?_
      exact eg_ireturn dX10_many_80 rfl h
theorem dX10_best_0 : decode cX10_best 0 = .ok (.aload_n 0, 1) := by decide +kernel
theorem dX10_best_1 : decode cX10_best 1 = .ok (.getfield 32, 3) := by decide +kernel
theorem dX10_best_4 : decode cX10_best 4 = .ok (.getfield 295, 3) := by decide +kernel
theorem dX10_best_7 : decode cX10_best 7 = .ok (.ifCond .eq 25, 3) := by decide +kernel
theorem dX10_best_10 : decode cX10_best 10 = .ok (.iload_n 1, 1) := by decide +kernel
theorem dX10_best_11 : decode cX10_best 11 = .ok (.invokestatic 270, 3) := by decide +kernel
theorem dX10_best_14 : decode cX10_best 14 = .ok (.ifCond .eq 18, 3) := by decide +kernel
theorem dX10_best_17 : decode cX10_best 17 = .ok (.iload_n 2, 1) := by decide +kernel
theorem dX10_best_18 : decode cX10_best 18 = .ok (.ifCond .lt 14, 3) := by decide +kernel
theorem dX10_best_21 : decode cX10_best 21 = .ok (.iload_n 2, 1) := by decide +kernel
theorem dX10_best_22 : decode cX10_best 22 = .ok (.aload_n 0, 1) := by decide +kernel
theorem dX10_best_23 : decode cX10_best 23 = .ok (.getfield 32, 3) := by decide +kernel
theorem dX10_best_26 : decode cX10_best 26 = .ok (.getfield 295, 3) := by decide +kernel
theorem dX10_best_29 : decode cX10_best 29 = .ok (.if_icmp .le 5, 3) := by decide +kernel
theorem dX10_best_32 : decode cX10_best 32 = .ok (.iconst (-1), 1) := by decide +kernel
theorem dX10_best_33 : decode cX10_best 33 = .ok (.ireturn, 1) := by decide +kernel
theorem dX10_best_34 : decode cX10_best 34 = .ok (.iconst (-1), 1) := by decide +kernel
theorem dX10_best_35 : decode cX10_best 35 = .ok (.istore_n 3, 1) := by decide +kernel
theorem dX10_best_36 : decode cX10_best 36 = .ok (.aload_n 0, 1) := by decide +kernel
theorem dX10_best_37 : decode cX10_best 37 = .ok (.invokevirtual 103, 3) := by decide +kernel
theorem dX10_best_40 : decode cX10_best 40 = .ok (.iconst 1, 1) := by decide +kernel
theorem dX10_best_41 : decode cX10_best 41 = .ok (.istore 4, 2) := by decide +kernel
theorem dX10_best_43 : decode cX10_best 43 = .ok (.iconst 0, 1) := by decide +kernel
theorem dX10_best_44 : decode cX10_best 44 = .ok (.istore 5, 2) := by decide +kernel
theorem dX10_best_46 : decode cX10_best 46 = .ok (.iload 5, 2) := by decide +kernel
theorem dX10_best_48 : decode cX10_best 48 = .ok (.bipush 120, 2) := by decide +kernel
theorem dX10_best_50 : decode cX10_best 50 = .ok (.if_icmp .ge 87, 3) := by decide +kernel
theorem dX10_best_53 : decode cX10_best 53 = .ok (.iload 4, 2) := by decide +kernel
theorem dX10_best_55 : decode cX10_best 55 = .ok (.ifCond .eq 82, 3) := by decide +kernel
theorem dX10_best_58 : decode cX10_best 58 = .ok (.aload_n 0, 1) := by decide +kernel
theorem dX10_best_59 : decode cX10_best 59 = .ok (.getfield 69, 3) := by decide +kernel
theorem dX10_best_62 : decode cX10_best 62 = .ok (.aload_n 0, 1) := by decide +kernel
theorem dX10_best_63 : decode cX10_best 63 = .ok (.getfield 32, 3) := by decide +kernel
theorem dX10_best_66 : decode cX10_best 66 = .ok (.aload_n 0, 1) := by decide +kernel
theorem dX10_best_67 : decode cX10_best 67 = .ok (.getfield 50, 3) := by decide +kernel
theorem dX10_best_70 : decode cX10_best 70 = .ok (.invokevirtual 106, 3) := by decide +kernel
theorem dX10_best_73 : decode cX10_best 73 = .ok (.aload_n 0, 1) := by decide +kernel
theorem dX10_best_74 : decode cX10_best 74 = .ok (.getfield 69, 3) := by decide +kernel
theorem dX10_best_77 : decode cX10_best 77 = .ok (.iload_n 1, 1) := by decide +kernel
theorem dX10_best_78 : decode cX10_best 78 = .ok (.invokevirtual 246, 3) := by decide +kernel
theorem dX10_best_81 : decode cX10_best 81 = .ok (.aload_n 0, 1) := by decide +kernel
theorem dX10_best_82 : decode cX10_best 82 = .ok (.getfield 69, 3) := by decide +kernel
theorem dX10_best_85 : decode cX10_best 85 = .ok (.invokevirtual 277, 3) := by decide +kernel
theorem dX10_best_88 : decode cX10_best 88 = .ok (.istore 6, 2) := by decide +kernel
theorem dX10_best_90 : decode cX10_best 90 = .ok (.iload_n 3, 1) := by decide +kernel
theorem dX10_best_91 : decode cX10_best 91 = .ok (.iconst (-1), 1) := by decide +kernel
theorem dX10_best_92 : decode cX10_best 92 = .ok (.if_icmp .eq 9, 3) := by decide +kernel
theorem dX10_best_95 : decode cX10_best 95 = .ok (.iload 6, 2) := by decide +kernel
theorem dX10_best_97 : decode cX10_best 97 = .ok (.iload_n 3, 1) := by decide +kernel
theorem dX10_best_98 : decode cX10_best 98 = .ok (.if_icmp .ge 20, 3) := by decide +kernel
theorem dX10_best_101 : decode cX10_best 101 = .ok (.iload 6, 2) := by decide +kernel
theorem dX10_best_103 : decode cX10_best 103 = .ok (.istore_n 3, 1) := by decide +kernel
theorem dX10_best_104 : decode cX10_best 104 = .ok (.aload_n 0, 1) := by decide +kernel
theorem dX10_best_105 : decode cX10_best 105 = .ok (.getfield 50, 3) := by decide +kernel
theorem dX10_best_108 : decode cX10_best 108 = .ok (.iconst 0, 1) := by decide +kernel
theorem dX10_best_109 : decode cX10_best 109 = .ok (.aload_n 0, 1) := by decide +kernel
theorem dX10_best_110 : decode cX10_best 110 = .ok (.getfield 53, 3) := by decide +kernel
theorem dX10_best_113 : decode cX10_best 113 = .ok (.iconst 0, 1) := by decide +kernel
theorem dX10_best_114 : decode cX10_best 114 = .ok (.iconst 5, 1) := by decide +kernel
theorem dX10_best_115 : decode cX10_best 115 = .ok (.invokestatic 261, 3) := by decide +kernel
theorem dX10_best_118 : decode cX10_best 118 = .ok (.aload_n 0, 1) := by decide +kernel
theorem dX10_best_119 : decode cX10_best 119 = .ok (.aload_n 0, 1) := by decide +kernel
theorem dX10_best_120 : decode cX10_best 120 = .ok (.getfield 32, 3) := by decide +kernel
theorem dX10_best_123 : decode cX10_best 123 = .ok (.getfield 295, 3) := by decide +kernel
theorem dX10_best_126 : decode cX10_best 126 = .ok (.invokevirtual 298, 3) := by decide +kernel
theorem dX10_best_129 : decode cX10_best 129 = .ok (.istore 4, 2) := by decide +kernel
theorem dX10_best_131 : decode cX10_best 131 = .ok (.iinc 5 1, 3) := by decide +kernel
theorem dX10_best_134 : decode cX10_best 134 = .ok (.goto (-88), 3) := by decide +kernel
theorem dX10_best_137 : decode cX10_best 137 = .ok (.iload_n 2, 1) := by decide +kernel
theorem dX10_best_138 : decode cX10_best 138 = .ok (.ifCond .ne 7, 3) := by decide +kernel
theorem dX10_best_141 : decode cX10_best 141 = .ok (.iload_n 3, 1) := by decide +kernel
theorem dX10_best_142 : decode cX10_best 142 = .ok (.goto 11, 3) := by decide +kernel
theorem dX10_best_145 : decode cX10_best 145 = .ok (.aload_n 0, 1) := by decide +kernel
theorem dX10_best_146 : decode cX10_best 146 = .ok (.getfield 53, 3) := by decide +kernel
theorem dX10_best_149 : decode cX10_best 149 = .ok (.iload_n 2, 1) := by decide +kernel
theorem dX10_best_150 : decode cX10_best 150 = .ok (.iconst 1, 1) := by decide +kernel
theorem dX10_best_151 : decode cX10_best 151 = .ok (.isub, 1) := by decide +kernel
theorem dX10_best_152 : decode cX10_best 152 = .ok (.iaload, 1) := by decide +kernel
theorem dX10_best_153 : decode cX10_best 153 = .ok (.ireturn, 1) := by decide +kernel
set_option maxRecDepth 10000 in
theorem vX10_best_0 {κ : eg_K} {d : Nat} (hd : 1 ≤ d) {post : Int32 → eg_H → Prop} (M : eg_H) (l1 : Int32) (l2 : Int32) (h : (∃ p1 : Nat, p1 < 2 ∧ M.2.2 (10, 0) 3 = (5, p1) ∧ ((M.1 (5, p1) 0) = 0 → post (-1 : Int32) M) ∧ ((¬ (M.1 (5, p1) 0) = 0) → (∀ x4 : Int32, x4 = (fX10_isLength M l1) → (x4 = 0 → post (-1 : Int32) M) ∧ ((¬ x4 = 0) → (l2 < 0 → post (-1 : Int32) M) ∧ ((¬ l2 < 0) → (l2 ≤ (M.1 (5, p1) 0) → (∀ M8 : eg_H, M8 = (fX10_orderByNumbers M) → eg_W κ gC mtX10_best d (eQI κ gC post) 46 [(0, vR (10, 0)), (1, vI l1), (2, vI l2), (3, vI (-1 : Int32)), (4, vI (1 : Int32)), (5, vI (0 : Int32))] [] M8)) ∧ ((¬ l2 ≤ (M.1 (5, p1) 0)) → post (-1 : Int32) M))))))) : eg_W κ gC mtX10_best d (eQI κ gC post) 0 [(0, vR (10, 0)), (1, vI l1), (2, vI l2)] [] M := by
  refine eg_aload_n 0 dX10_best_0 rfl rfl ?_
  refine eg_getD dX10_best_1 fl_10_32 rfl rfl (obC_10 z1) ?_
  obtain ⟨p1, hp1, ep1, h⟩ := h
  rw [ep1]
  refine eg_getI dX10_best_4 fl_10_295 rfl trivial (obC_5 hp1) ?_
  refine eg_if_eq (tgt := 32) dX10_best_7 rfl (fun c2 => ?_) (fun c2 => ?_)
  · have h := h.1 c2
    refine eg_iconst dX10_best_32 ic_m1 ?_
    exact eg_ireturn dX10_best_33 rfl h
  · have h := h.2 c2
    refine eg_iload_n 1 dX10_best_10 rfl rfl ?_
    refine eg_callSI (av := [vI l1]) (st := []) dX10_best_11 ml_10_270 rfl rfl (Nat.le_of_ble_eq_true rfl) (eg_dd (by omega)) (sX10_isLength (by omega) M l1  ) (fun x4 M3 hp => ?_)
    obtain ⟨ex4, eM3⟩ := hp
    rw [eM3]
    have h := h x4 ex4
    refine eg_if_eq (tgt := 32) dX10_best_14 rfl (fun c5 => ?_) (fun c5 => ?_)
    · have h := h.1 c5
      refine eg_iconst dX10_best_32 ic_m1 ?_
      exact eg_ireturn dX10_best_33 rfl h
    · have h := h.2 c5
      refine eg_iload_n 2 dX10_best_17 rfl rfl ?_
      refine eg_if_lt (tgt := 32) dX10_best_18 rfl (fun c6 => ?_) (fun c6 => ?_)
      · have h := h.1 c6
        refine eg_iconst dX10_best_32 ic_m1 ?_
        exact eg_ireturn dX10_best_33 rfl h
      · have h := h.2 c6
        refine eg_iload_n 2 dX10_best_21 rfl rfl ?_
        refine eg_aload_n 0 dX10_best_22 rfl rfl ?_
        refine eg_getD dX10_best_23 fl_10_32 rfl rfl (obC_10 z1) ?_
        rw [ep1]
        refine eg_getI dX10_best_26 fl_10_295 rfl trivial (obC_5 hp1) ?_
        refine eg_icmp_le (tgt := 34) dX10_best_29 rfl (fun c7 => ?_) (fun c7 => ?_)
        · have h := h.1 c7
          refine eg_iconst dX10_best_34 ic_m1 ?_
          refine eg_istore_n dX10_best_35 rfl (by decide) (ls1 := [(3, vI (-1 : Int32)), (0, vR (10, 0)), (1, vI l1), (2, vI l2)]) rfl ?_
          refine eg_aload_n 1 dX10_best_36 rfl rfl ?_
          refine eg_callVV (av := []) (st := []) dX10_best_37 ml_10_103 rfl rfl (obC_10 z1) (by decide) rfl (Nat.le_of_ble_eq_true rfl) (eg_dd (by omega)) (sX10_orderByNumbers (by omega) M   ) (fun M8 eM8 => ?_)
          have h := h M8 eM8
          refine eg_iconst dX10_best_40 ic_1 ?_
          refine eg_istore dX10_best_41 (by decide) (ls1 := [(4, vI (1 : Int32)), (3, vI (-1 : Int32)), (0, vR (10, 0)), (1, vI l1), (2, vI l2)]) rfl ?_
          refine eg_iconst dX10_best_43 ic_0 ?_
          refine eg_istore dX10_best_44 (by decide) (ls1 := [(5, vI (0 : Int32)), (4, vI (1 : Int32)), (3, vI (-1 : Int32)), (0, vR (10, 0)), (1, vI l1), (2, vI l2)]) rfl ?_
          refine eg_sub [3, 4, 5, 2, 1, 0] rfl ?_
          exact h
        · have h := h.2 c7
          refine eg_iconst dX10_best_32 ic_m1 ?_
          exact eg_ireturn dX10_best_33 rfl h
set_option maxRecDepth 10000 in
theorem vX10_best_46 {κ : eg_K} {d : Nat} (hd : 1 ≤ d) {post : Int32 → eg_H → Prop} (M : eg_H) (l1 : Int32) (l2 : Int32) (l3 : Int32) (l4 : Int32) (l5 : Int32) (h : ((120 : Int32) ≤ l5 → (((¬ l2 = 0) → vp_in (l2 - (1 : Int32)) 5) ∧ (∀ x3 : Int32, x3 = ((if (¬ l2 = 0) then (M.1 (53, 0) (l2 - (1 : Int32)).toNatClampNeg) else l3)) → post x3 M))) ∧ ((¬ (120 : Int32) ≤ l5) → (l4 = 0 → (((¬ l2 = 0) → vp_in (l2 - (1 : Int32)) 5) ∧ (∀ x8 : Int32, x8 = ((if (¬ l2 = 0) then (M.1 (53, 0) (l2 - (1 : Int32)).toNatClampNeg) else l3)) → post x8 M))) ∧ ((¬ l4 = 0) → (∃ p11 : Nat, p11 < 2 ∧ M.2.2 (10, 0) 3 = (5, p11) ∧ eCV κ gC mtX7_begin d [vR (7, 1), vR (5, p11), vR (52, 0)] M (fun M12 => eCV κ gC mtX7_go d [vR (7, 1), vI l1] M12 (fun M14 => (gX7_waitedByAll M14 1 ∧ (∀ x18 : Int32, x18 = (fX7_waitedByAll M14 1) → (l3 = (-1 : Int32) → eg_W κ gC mtX10_best d (eQI κ gC post) 101 [(0, vR (10, 0)), (1, vI l1), (2, vI l2), (5, vI l5), (6, vI x18)] [] M14) ∧ ((¬ l3 = (-1 : Int32)) → (l3 ≤ x18 → (∃ p21 : Nat, p21 < 2 ∧ M14.2.2 (10, 0) 3 = (5, p21) ∧ eCI κ gC mtX10_nextOrder d [vR (10, 0), vI (M14.1 (5, p21) 0)] M14 (fun x22 M23 => (∀ x25 : Int32, x25 = (l5 + (1 : Int32)) → eg_W κ gC mtX10_best d (eQI κ gC post) 46 [(0, vR (10, 0)), (1, vI l1), (2, vI l2), (3, vI l3), (4, vI x22), (5, vI x25)] [] M23)))) ∧ ((¬ l3 ≤ x18) → eg_W κ gC mtX10_best d (eQI κ gC post) 101 [(0, vR (10, 0)), (1, vI l1), (2, vI l2), (5, vI l5), (6, vI x18)] [] M14)))))))))) : eg_W κ gC mtX10_best d (eQI κ gC post) 46 [(0, vR (10, 0)), (1, vI l1), (2, vI l2), (3, vI l3), (4, vI l4), (5, vI l5)] [] M := by
  refine eg_iload 5 dX10_best_46 rfl ?_
  refine eg_bipush dX10_best_48 bp_120 ?_
  refine eg_icmp_ge (tgt := 137) dX10_best_50 rfl (fun c1 => ?_) (fun c1 => ?_)
  · have h := h.1 c1
    refine eg_iload_n 2 dX10_best_137 rfl rfl ?_
    obtain ⟨g2, h⟩ := h
    have J : ∀ x3 : Int32, x3 = (if (¬ l2 = 0) then (M.1 (53, 0) (l2 - (1 : Int32)).toNatClampNeg) else l3) → eg_W κ gC mtX10_best d (eQI κ gC post) 153 [(0, vR (10, 0)), (1, vI l1), (2, vI l2), (3, vI l3), (4, vI l4), (5, vI l5)] [vI x3] M := by
      intro x3 ex3
      have h := h x3 ex3
      exact eg_ireturn dX10_best_153 rfl h
    clear h
    refine eg_if_ne (tgt := 145) dX10_best_138 rfl (fun c4 => ?_) (fun c4 => ?_)
    · refine eg_aload_n 0 dX10_best_145 rfl rfl ?_
      refine eg_getR dX10_best_146 fl_10_53 rfl rfl (obC_10 z1) ?_
      show eg_W κ gC mtX10_best d (eQI κ gC post) 149 [(0, vR (10, 0)), (1, vI l1), (2, vI l2), (3, vI l3), (4, vI l4), (5, vI l5)] [vR (53, 0)] M
      refine eg_iload_n 2 dX10_best_149 rfl rfl ?_
      refine eg_iconst dX10_best_150 ic_1 ?_
      refine eg_isub dX10_best_151 ?_
      refine eg_iaload dX10_best_152 (arC_53 z1 (g2 c4)) ?_
      exact J _ (by rw [if_pos c4])
    · have c5 : ¬ (¬ l2 = 0) := fun z => z c4
      refine eg_iload_n 3 dX10_best_141 rfl rfl ?_
      refine eg_goto (tgt := 153) dX10_best_142 rfl ?_
      exact J _ (by rw [if_neg c5])
  · have h := h.2 c1
    refine eg_iload 4 dX10_best_53 rfl ?_
    refine eg_if_eq (tgt := 137) dX10_best_55 rfl (fun c6 => ?_) (fun c6 => ?_)
    · have h := h.1 c6
      refine eg_iload_n 2 dX10_best_137 rfl rfl ?_
      obtain ⟨g7, h⟩ := h
      have J : ∀ x8 : Int32, x8 = (if (¬ l2 = 0) then (M.1 (53, 0) (l2 - (1 : Int32)).toNatClampNeg) else l3) → eg_W κ gC mtX10_best d (eQI κ gC post) 153 [(0, vR (10, 0)), (1, vI l1), (2, vI l2), (3, vI l3), (4, vI l4), (5, vI l5)] [vI x8] M := by
        intro x8 ex8
        have h := h x8 ex8
        exact eg_ireturn dX10_best_153 rfl h
      clear h
      refine eg_if_ne (tgt := 145) dX10_best_138 rfl (fun c9 => ?_) (fun c9 => ?_)
      · refine eg_aload_n 0 dX10_best_145 rfl rfl ?_
        refine eg_getR dX10_best_146 fl_10_53 rfl rfl (obC_10 z1) ?_
        show eg_W κ gC mtX10_best d (eQI κ gC post) 149 [(0, vR (10, 0)), (1, vI l1), (2, vI l2), (3, vI l3), (4, vI l4), (5, vI l5)] [vR (53, 0)] M
        refine eg_iload_n 2 dX10_best_149 rfl rfl ?_
        refine eg_iconst dX10_best_150 ic_1 ?_
        refine eg_isub dX10_best_151 ?_
        refine eg_iaload dX10_best_152 (arC_53 z1 (g7 c9)) ?_
        exact J _ (by rw [if_pos c9])
      · have c10 : ¬ (¬ l2 = 0) := fun z => z c9
        refine eg_iload_n 3 dX10_best_141 rfl rfl ?_
        refine eg_goto (tgt := 153) dX10_best_142 rfl ?_
        exact J _ (by rw [if_neg c10])
    · have h := h.2 c6
      refine eg_aload_n 0 dX10_best_58 rfl rfl ?_
      refine eg_getR dX10_best_59 fl_10_69 rfl rfl (obC_10 z1) ?_
      show eg_W κ gC mtX10_best d (eQI κ gC post) 62 [(0, vR (10, 0)), (1, vI l1), (2, vI l2), (3, vI l3), (4, vI l4), (5, vI l5)] [vR (7, 1)] M
      refine eg_aload_n 0 dX10_best_62 rfl rfl ?_
      refine eg_getD dX10_best_63 fl_10_32 rfl rfl (obC_10 z1) ?_
      obtain ⟨p11, hp11, ep11, h⟩ := h
      rw [ep11]
      refine eg_aload_n 0 dX10_best_66 rfl rfl ?_
      refine eg_getR dX10_best_67 fl_10_50 rfl rfl (obC_10 z1) ?_
      show eg_W κ gC mtX10_best d (eQI κ gC post) 70 [(0, vR (10, 0)), (1, vI l1), (2, vI l2), (3, vI l3), (4, vI l4), (5, vI l5)] [vR (52, 0), vR (5, p11), vR (7, 1)] M
      obtain ⟨q13, hq13, h⟩ := h
      refine eg_callVV (av := [vR (5, p11), vR (52, 0)]) (st := []) dX10_best_70 ml_10_106 rfl rfl (obC_7 (by decide : 1 < 4)) (by decide) rfl (Nat.le_of_ble_eq_true rfl) (eg_dd (by omega)) hq13 (fun M12 hp => ?_)
      have h := h M12 hp
      refine eg_aload_n 0 dX10_best_73 rfl rfl ?_
      refine eg_getR dX10_best_74 fl_10_69 rfl rfl (obC_10 z1) ?_
      show eg_W κ gC mtX10_best d (eQI κ gC post) 77 [(0, vR (10, 0)), (1, vI l1), (2, vI l2), (3, vI l3), (4, vI l4), (5, vI l5)] [vR (7, 1)] M12
      refine eg_iload_n 1 dX10_best_77 rfl rfl ?_
      obtain ⟨q15, hq15, h⟩ := h
      refine eg_callVV (av := [vI l1]) (st := []) dX10_best_78 ml_10_246 rfl rfl (obC_7 (by decide : 1 < 4)) (by decide) rfl (Nat.le_of_ble_eq_true rfl) (eg_dd (by omega)) hq15 (fun M14 hp => ?_)
      have h := h M14 hp
      refine eg_aload_n 0 dX10_best_81 rfl rfl ?_
      refine eg_getR dX10_best_82 fl_10_69 rfl rfl (obC_10 z1) ?_
      show eg_W κ gC mtX10_best d (eQI κ gC post) 85 [(0, vR (10, 0)), (1, vI l1), (2, vI l2), (3, vI l3), (4, vI l4), (5, vI l5)] [vR (7, 1)] M14
      obtain ⟨g16, h⟩ := h
      refine eg_callVI (av := []) (st := []) dX10_best_85 ml_10_277 rfl rfl (obC_7 (by decide : 1 < 4)) (by decide) rfl (Nat.le_of_ble_eq_true rfl) (eg_dd (by omega)) (sX7_waitedByAll (by omega) M14 1 (by decide : 1 < 4) g16) (fun x18 M17 hp => ?_)
      obtain ⟨ex18, eM17⟩ := hp
      rw [eM17]
      have h := h x18 ex18
      refine eg_istore dX10_best_88 (by decide) (ls1 := [(6, vI x18), (0, vR (10, 0)), (1, vI l1), (2, vI l2), (3, vI l3), (4, vI l4), (5, vI l5)]) rfl ?_
      refine eg_iload_n 4 dX10_best_90 rfl rfl ?_
      refine eg_iconst dX10_best_91 ic_m1 ?_
      refine eg_icmp_eq (tgt := 101) dX10_best_92 rfl (fun c19 => ?_) (fun c19 => ?_)
      · have h := h.1 c19
        refine eg_sub [1, 2, 3, 6, 0] rfl ?_
        exact h
      · have h := h.2 c19
        refine eg_iload 0 dX10_best_95 rfl ?_
        refine eg_iload_n 4 dX10_best_97 rfl rfl ?_
        refine eg_icmp_ge (tgt := 118) dX10_best_98 rfl (fun c20 => ?_) (fun c20 => ?_)
        · have h := h.1 c20
          refine eg_aload_n 1 dX10_best_118 rfl rfl ?_
          refine eg_aload_n 1 dX10_best_119 rfl rfl ?_
          refine eg_getD dX10_best_120 fl_10_32 rfl rfl (obC_10 z1) ?_
          obtain ⟨p21, hp21, ep21, h⟩ := h
          rw [ep21]
          refine eg_getI dX10_best_123 fl_10_295 rfl trivial (obC_5 hp21) ?_
          obtain ⟨q24, hq24, h⟩ := h
          refine eg_callVI (av := [vI (M14.1 (5, p21) 0)]) (st := []) dX10_best_126 ml_10_298 rfl rfl (obC_10 z1) (by decide) rfl (Nat.le_of_ble_eq_true rfl) (eg_dd (by omega)) hq24 (fun x22 M23 hp => ?_)
          have h := h x22 M23 hp
          refine eg_istore dX10_best_129 (by decide) (ls1 := [(4, vI x22), (6, vI x18), (0, vR (10, 0)), (1, vI l1), (2, vI l2), (3, vI l3), (5, vI l5)]) rfl ?_
          refine en_iinc (f := fun x25 => [(5, vI x25), (4, vI x22), (6, vI x18), (0, vR (10, 0)), (1, vI l1), (2, vI l2), (3, vI l3)]) 6 dX10_best_131 rfl rfl (by decide) rfl (fun x25 ex25 => ?_)
          have h := h x25 ex25
          refine eg_goto (tgt := 46) dX10_best_134 rfl ?_
          refine eg_sub [3, 4, 5, 6, 1, 0] rfl ?_
          exact h
        · have h := h.2 c20
          refine eg_sub [1, 2, 3, 6, 0] rfl ?_
          exact h
set_option maxRecDepth 10000 in
theorem vX10_best_101 {κ : eg_K} {d : Nat} (hd : 1 ≤ d) {post : Int32 → eg_H → Prop} (M : eg_H) (l1 : Int32) (l2 : Int32) (l5 : Int32) (l6 : Int32) (h : (∀ M1 : eg_H, M1 = (sC M (52, 0) (53, 0) (0 : Int32).toNatClampNeg (0 : Int32).toNatClampNeg (5 : Int32).toNatClampNeg) → (∃ p2 : Nat, p2 < 2 ∧ M1.2.2 (10, 0) 3 = (5, p2) ∧ eCI κ gC mtX10_nextOrder d [vR (10, 0), vI (M1.1 (5, p2) 0)] M1 (fun x3 M4 => (∀ x6 : Int32, x6 = (l5 + (1 : Int32)) → eg_W κ gC mtX10_best d (eQI κ gC post) 46 [(0, vR (10, 0)), (1, vI l1), (2, vI l2), (3, vI l6), (4, vI x3), (5, vI x6)] [] M4))))) : eg_W κ gC mtX10_best d (eQI κ gC post) 101 [(0, vR (10, 0)), (1, vI l1), (2, vI l2), (5, vI l5), (6, vI l6)] [] M := by
  refine eg_iload 4 dX10_best_101 rfl ?_
  refine eg_istore_n dX10_best_103 rfl (by decide) (ls1 := [(3, vI l6), (0, vR (10, 0)), (1, vI l1), (2, vI l2), (5, vI l5), (6, vI l6)]) rfl ?_
  refine eg_aload_n 1 dX10_best_104 rfl rfl ?_
  refine eg_getR dX10_best_105 fl_10_50 rfl rfl (obC_10 z1) ?_
  show eg_W κ gC mtX10_best d (eQI κ gC post) 108 [(3, vI l6), (0, vR (10, 0)), (1, vI l1), (2, vI l2), (5, vI l5), (6, vI l6)] [vR (52, 0)] M
  refine eg_iconst dX10_best_108 ic_0 ?_
  refine eg_aload_n 1 dX10_best_109 rfl rfl ?_
  refine eg_getR dX10_best_110 fl_10_53 rfl rfl (obC_10 z1) ?_
  show eg_W κ gC mtX10_best d (eQI κ gC post) 113 [(3, vI l6), (0, vR (10, 0)), (1, vI l1), (2, vI l2), (5, vI l5), (6, vI l6)] [vR (53, 0), vI (0 : Int32), vR (52, 0)] M
  refine eg_iconst dX10_best_113 ic_0 ?_
  refine eg_iconst dX10_best_114 ic_5 ?_
  refine en_copy dX10_best_115 ml_10_261 (anC_52 z1) (anC_53 z1) (by decide) (Nat.le_of_ble_eq_true rfl) (by omega) (fun M1 eM1 => ?_)
  have h := h M1 eM1
  refine eg_aload_n 1 dX10_best_118 rfl rfl ?_
  refine eg_aload_n 1 dX10_best_119 rfl rfl ?_
  refine eg_getD dX10_best_120 fl_10_32 rfl rfl (obC_10 z1) ?_
  obtain ⟨p2, hp2, ep2, h⟩ := h
  rw [ep2]
  refine eg_getI dX10_best_123 fl_10_295 rfl trivial (obC_5 hp2) ?_
  obtain ⟨q5, hq5, h⟩ := h
  refine eg_callVI (av := [vI (M1.1 (5, p2) 0)]) (st := []) dX10_best_126 ml_10_298 rfl rfl (obC_10 z1) (by decide) rfl (Nat.le_of_ble_eq_true rfl) (eg_dd (by omega)) hq5 (fun x3 M4 hp => ?_)
  have h := h x3 M4 hp
  refine eg_istore dX10_best_129 (by decide) (ls1 := [(4, vI x3), (3, vI l6), (0, vR (10, 0)), (1, vI l1), (2, vI l2), (5, vI l5), (6, vI l6)]) rfl ?_
  refine en_iinc (f := fun x6 => [(5, vI x6), (4, vI x3), (3, vI l6), (0, vR (10, 0)), (1, vI l1), (2, vI l2), (6, vI l6)]) 5 dX10_best_131 rfl rfl (by decide) rfl (fun x6 ex6 => ?_)
  have h := h x6 ex6
  refine eg_goto (tgt := 46) dX10_best_134 rfl ?_
  refine eg_sub [3, 4, 5, 2, 1, 0] rfl ?_
  exact h
theorem dX10_nextOrder_0 : decode cX10_nextOrder 0 = .ok (.iload_n 1, 1) := by decide +kernel
theorem dX10_nextOrder_1 : decode cX10_nextOrder 1 = .ok (.iconst 2, 1) := by decide +kernel
theorem dX10_nextOrder_2 : decode cX10_nextOrder 2 = .ok (.isub, 1) := by decide +kernel
theorem dX10_nextOrder_3 : decode cX10_nextOrder 3 = .ok (.istore_n 2, 1) := by decide +kernel
theorem dX10_nextOrder_4 : decode cX10_nextOrder 4 = .ok (.iload_n 2, 1) := by decide +kernel
theorem dX10_nextOrder_5 : decode cX10_nextOrder 5 = .ok (.ifCond .lt 26, 3) := by decide +kernel
theorem dX10_nextOrder_8 : decode cX10_nextOrder 8 = .ok (.aload_n 0, 1) := by decide +kernel
theorem dX10_nextOrder_9 : decode cX10_nextOrder 9 = .ok (.getfield 50, 3) := by decide +kernel
theorem dX10_nextOrder_12 : decode cX10_nextOrder 12 = .ok (.iload_n 2, 1) := by decide +kernel
theorem dX10_nextOrder_13 : decode cX10_nextOrder 13 = .ok (.iaload, 1) := by decide +kernel
theorem dX10_nextOrder_14 : decode cX10_nextOrder 14 = .ok (.aload_n 0, 1) := by decide +kernel
theorem dX10_nextOrder_15 : decode cX10_nextOrder 15 = .ok (.getfield 50, 3) := by decide +kernel
theorem dX10_nextOrder_18 : decode cX10_nextOrder 18 = .ok (.iload_n 2, 1) := by decide +kernel
theorem dX10_nextOrder_19 : decode cX10_nextOrder 19 = .ok (.iconst 1, 1) := by decide +kernel
theorem dX10_nextOrder_20 : decode cX10_nextOrder 20 = .ok (.iadd, 1) := by decide +kernel
theorem dX10_nextOrder_21 : decode cX10_nextOrder 21 = .ok (.iaload, 1) := by decide +kernel
theorem dX10_nextOrder_22 : decode cX10_nextOrder 22 = .ok (.if_icmp .le 9, 3) := by decide +kernel
theorem dX10_nextOrder_25 : decode cX10_nextOrder 25 = .ok (.iinc 2 (-1), 3) := by decide +kernel
theorem dX10_nextOrder_28 : decode cX10_nextOrder 28 = .ok (.goto (-24), 3) := by decide +kernel
theorem dX10_nextOrder_31 : decode cX10_nextOrder 31 = .ok (.iload_n 2, 1) := by decide +kernel
theorem dX10_nextOrder_32 : decode cX10_nextOrder 32 = .ok (.ifCond .ge 5, 3) := by decide +kernel
theorem dX10_nextOrder_35 : decode cX10_nextOrder 35 = .ok (.iconst 0, 1) := by decide +kernel
theorem dX10_nextOrder_36 : decode cX10_nextOrder 36 = .ok (.ireturn, 1) := by decide +kernel
theorem dX10_nextOrder_37 : decode cX10_nextOrder 37 = .ok (.iload_n 1, 1) := by decide +kernel
theorem dX10_nextOrder_38 : decode cX10_nextOrder 38 = .ok (.iconst 1, 1) := by decide +kernel
theorem dX10_nextOrder_39 : decode cX10_nextOrder 39 = .ok (.isub, 1) := by decide +kernel
theorem dX10_nextOrder_40 : decode cX10_nextOrder 40 = .ok (.istore_n 3, 1) := by decide +kernel
theorem dX10_nextOrder_41 : decode cX10_nextOrder 41 = .ok (.iload_n 3, 1) := by decide +kernel
theorem dX10_nextOrder_42 : decode cX10_nextOrder 42 = .ok (.iload_n 2, 1) := by decide +kernel
theorem dX10_nextOrder_43 : decode cX10_nextOrder 43 = .ok (.if_icmp .le 24, 3) := by decide +kernel
theorem dX10_nextOrder_46 : decode cX10_nextOrder 46 = .ok (.aload_n 0, 1) := by decide +kernel
theorem dX10_nextOrder_47 : decode cX10_nextOrder 47 = .ok (.getfield 50, 3) := by decide +kernel
theorem dX10_nextOrder_50 : decode cX10_nextOrder 50 = .ok (.iload_n 3, 1) := by decide +kernel
theorem dX10_nextOrder_51 : decode cX10_nextOrder 51 = .ok (.iaload, 1) := by decide +kernel
theorem dX10_nextOrder_52 : decode cX10_nextOrder 52 = .ok (.aload_n 0, 1) := by decide +kernel
theorem dX10_nextOrder_53 : decode cX10_nextOrder 53 = .ok (.getfield 50, 3) := by decide +kernel
theorem dX10_nextOrder_56 : decode cX10_nextOrder 56 = .ok (.iload_n 2, 1) := by decide +kernel
theorem dX10_nextOrder_57 : decode cX10_nextOrder 57 = .ok (.iaload, 1) := by decide +kernel
theorem dX10_nextOrder_58 : decode cX10_nextOrder 58 = .ok (.if_icmp .ge 9, 3) := by decide +kernel
theorem dX10_nextOrder_61 : decode cX10_nextOrder 61 = .ok (.iinc 3 (-1), 3) := by decide +kernel
theorem dX10_nextOrder_64 : decode cX10_nextOrder 64 = .ok (.goto (-23), 3) := by decide +kernel
theorem dX10_nextOrder_67 : decode cX10_nextOrder 67 = .ok (.aload_n 0, 1) := by decide +kernel
theorem dX10_nextOrder_68 : decode cX10_nextOrder 68 = .ok (.iload_n 2, 1) := by decide +kernel
theorem dX10_nextOrder_69 : decode cX10_nextOrder 69 = .ok (.iload_n 3, 1) := by decide +kernel
theorem dX10_nextOrder_70 : decode cX10_nextOrder 70 = .ok (.invokevirtual 301, 3) := by decide +kernel
theorem dX10_nextOrder_73 : decode cX10_nextOrder 73 = .ok (.iload_n 2, 1) := by decide +kernel
theorem dX10_nextOrder_74 : decode cX10_nextOrder 74 = .ok (.iconst 1, 1) := by decide +kernel
theorem dX10_nextOrder_75 : decode cX10_nextOrder 75 = .ok (.iadd, 1) := by decide +kernel
theorem dX10_nextOrder_76 : decode cX10_nextOrder 76 = .ok (.istore 4, 2) := by decide +kernel
theorem dX10_nextOrder_78 : decode cX10_nextOrder 78 = .ok (.iload_n 1, 1) := by decide +kernel
theorem dX10_nextOrder_79 : decode cX10_nextOrder 79 = .ok (.iconst 1, 1) := by decide +kernel
theorem dX10_nextOrder_80 : decode cX10_nextOrder 80 = .ok (.isub, 1) := by decide +kernel
theorem dX10_nextOrder_81 : decode cX10_nextOrder 81 = .ok (.istore 5, 2) := by decide +kernel
theorem dX10_nextOrder_83 : decode cX10_nextOrder 83 = .ok (.iload 4, 2) := by decide +kernel
theorem dX10_nextOrder_85 : decode cX10_nextOrder 85 = .ok (.iload 5, 2) := by decide +kernel
theorem dX10_nextOrder_87 : decode cX10_nextOrder 87 = .ok (.if_icmp .ge 20, 3) := by decide +kernel
theorem dX10_nextOrder_90 : decode cX10_nextOrder 90 = .ok (.aload_n 0, 1) := by decide +kernel
theorem dX10_nextOrder_91 : decode cX10_nextOrder 91 = .ok (.iload 4, 2) := by decide +kernel
theorem dX10_nextOrder_93 : decode cX10_nextOrder 93 = .ok (.iload 5, 2) := by decide +kernel
theorem dX10_nextOrder_95 : decode cX10_nextOrder 95 = .ok (.invokevirtual 301, 3) := by decide +kernel
theorem dX10_nextOrder_98 : decode cX10_nextOrder 98 = .ok (.iinc 4 1, 3) := by decide +kernel
theorem dX10_nextOrder_101 : decode cX10_nextOrder 101 = .ok (.iinc 5 (-1), 3) := by decide +kernel
theorem dX10_nextOrder_104 : decode cX10_nextOrder 104 = .ok (.goto (-21), 3) := by decide +kernel
theorem dX10_nextOrder_107 : decode cX10_nextOrder 107 = .ok (.iconst 1, 1) := by decide +kernel
theorem dX10_nextOrder_108 : decode cX10_nextOrder 108 = .ok (.ireturn, 1) := by decide +kernel
set_option maxRecDepth 10000 in
theorem vX10_nextOrder_0 {κ : eg_K} {d : Nat} {post : Int32 → eg_H → Prop} (M : eg_H) (l1 : Int32) (h : (∀ x1 : Int32, x1 = (l1 - (2 : Int32)) → eg_W κ gC mtX10_nextOrder d (eQI κ gC post) 4 [(0, vR (10, 0)), (1, vI l1), (2, vI x1)] [] M)) : eg_W κ gC mtX10_nextOrder d (eQI κ gC post) 0 [(0, vR (10, 0)), (1, vI l1)] [] M := by
  refine eg_iload_n 1 dX10_nextOrder_0 rfl rfl ?_
  refine eg_iconst dX10_nextOrder_1 ic_2 ?_
  refine eg_isub dX10_nextOrder_2 ?_
  refine en_istore_n (f := fun x1 => [(2, vI x1), (0, vR (10, 0)), (1, vI l1)]) dX10_nextOrder_3 rfl (by decide) rfl (fun x1 ex1 => ?_)
  have h := h x1 ex1
  refine eg_sub [1, 2, 0] rfl ?_
  exact h
set_option maxRecDepth 10000 in
theorem vX10_nextOrder_4 {κ : eg_K} {d : Nat} {post : Int32 → eg_H → Prop} (M : eg_H) (l1 : Int32) (l2 : Int32) (h : (l2 < 0 → (0 ≤ l2 → (∀ x3 : Int32, x3 = (l1 - (1 : Int32)) → eg_W κ gC mtX10_nextOrder d (eQI κ gC post) 41 [(0, vR (10, 0)), (1, vI l1), (2, vI l2), (3, vI x3)] [] M)) ∧ ((¬ 0 ≤ l2) → post (0 : Int32) M)) ∧ ((¬ l2 < 0) → (vp_in l2 5 ∧ (vp_in (l2 + (1 : Int32)) 5 ∧ ((M.1 (52, 0) l2.toNatClampNeg) ≤ (M.1 (52, 0) (l2 + (1 : Int32)).toNatClampNeg) → (0 ≤ l2 → (∀ x8 : Int32, x8 = (l1 - (1 : Int32)) → eg_W κ gC mtX10_nextOrder d (eQI κ gC post) 41 [(0, vR (10, 0)), (1, vI l1), (2, vI l2), (3, vI x8)] [] M)) ∧ ((¬ 0 ≤ l2) → post (0 : Int32) M)) ∧ ((¬ (M.1 (52, 0) l2.toNatClampNeg) ≤ (M.1 (52, 0) (l2 + (1 : Int32)).toNatClampNeg)) → (∀ x9 : Int32, x9 = (l2 + (-1 : Int32)) → eg_W κ gC mtX10_nextOrder d (eQI κ gC post) 4 [(0, vR (10, 0)), (1, vI l1), (2, vI x9)] [] M)))))) : eg_W κ gC mtX10_nextOrder d (eQI κ gC post) 4 [(0, vR (10, 0)), (1, vI l1), (2, vI l2)] [] M := by
  refine eg_iload_n 2 dX10_nextOrder_4 rfl rfl ?_
  refine eg_if_lt (tgt := 31) dX10_nextOrder_5 rfl (fun c1 => ?_) (fun c1 => ?_)
  · have h := h.1 c1
    refine eg_iload_n 2 dX10_nextOrder_31 rfl rfl ?_
    refine eg_if_ge (tgt := 37) dX10_nextOrder_32 rfl (fun c2 => ?_) (fun c2 => ?_)
    · have h := h.1 c2
      refine eg_iload_n 1 dX10_nextOrder_37 rfl rfl ?_
      refine eg_iconst dX10_nextOrder_38 ic_1 ?_
      refine eg_isub dX10_nextOrder_39 ?_
      refine en_istore_n (f := fun x3 => [(3, vI x3), (0, vR (10, 0)), (1, vI l1), (2, vI l2)]) dX10_nextOrder_40 rfl (by decide) rfl (fun x3 ex3 => ?_)
      have h := h x3 ex3
      refine eg_sub [1, 2, 3, 0] rfl ?_
      exact h
    · have h := h.2 c2
      refine eg_iconst dX10_nextOrder_35 ic_0 ?_
      exact eg_zreturn dX10_nextOrder_36 rfl (Or.inl rfl) h
  · have h := h.2 c1
    refine eg_aload_n 0 dX10_nextOrder_8 rfl rfl ?_
    refine eg_getR dX10_nextOrder_9 fl_10_50 rfl rfl (obC_10 z1) ?_
    show eg_W κ gC mtX10_nextOrder d (eQI κ gC post) 12 [(0, vR (10, 0)), (1, vI l1), (2, vI l2)] [vR (52, 0)] M
    refine eg_iload_n 2 dX10_nextOrder_12 rfl rfl ?_
    obtain ⟨g4, h⟩ := h
    refine eg_iaload dX10_nextOrder_13 (arC_52 z1 g4) ?_
    refine eg_aload_n 0 dX10_nextOrder_14 rfl rfl ?_
    refine eg_getR dX10_nextOrder_15 fl_10_50 rfl rfl (obC_10 z1) ?_
    show eg_W κ gC mtX10_nextOrder d (eQI κ gC post) 18 [(0, vR (10, 0)), (1, vI l1), (2, vI l2)] [vR (52, 0), vI (M.1 (52, 0) l2.toNatClampNeg)] M
    refine eg_iload_n 2 dX10_nextOrder_18 rfl rfl ?_
    refine eg_iconst dX10_nextOrder_19 ic_1 ?_
    refine eg_iadd dX10_nextOrder_20 ?_
    obtain ⟨g5, h⟩ := h
    refine eg_iaload dX10_nextOrder_21 (arC_52 z1 g5) ?_
    refine eg_icmp_le (tgt := 31) dX10_nextOrder_22 rfl (fun c6 => ?_) (fun c6 => ?_)
    · have h := h.1 c6
      refine eg_iload_n 2 dX10_nextOrder_31 rfl rfl ?_
      refine eg_if_ge (tgt := 37) dX10_nextOrder_32 rfl (fun c7 => ?_) (fun c7 => ?_)
      · have h := h.1 c7
        refine eg_iload_n 1 dX10_nextOrder_37 rfl rfl ?_
        refine eg_iconst dX10_nextOrder_38 ic_1 ?_
        refine eg_isub dX10_nextOrder_39 ?_
        refine en_istore_n (f := fun x8 => [(3, vI x8), (0, vR (10, 0)), (1, vI l1), (2, vI l2)]) dX10_nextOrder_40 rfl (by decide) rfl (fun x8 ex8 => ?_)
        have h := h x8 ex8
        refine eg_sub [1, 2, 3, 0] rfl ?_
        exact h
      · have h := h.2 c7
        refine eg_iconst dX10_nextOrder_35 ic_0 ?_
        exact eg_zreturn dX10_nextOrder_36 rfl (Or.inl rfl) h
    · have h := h.2 c6
      refine en_iinc (f := fun x9 => [(2, vI x9), (0, vR (10, 0)), (1, vI l1)]) 2 dX10_nextOrder_25 rfl rfl (by decide) rfl (fun x9 ex9 => ?_)
      have h := h x9 ex9
      refine eg_goto (tgt := 4) dX10_nextOrder_28 rfl ?_
      refine eg_sub [1, 2, 0] rfl ?_
      exact h
set_option maxRecDepth 10000 in
theorem vX10_nextOrder_41 {κ : eg_K} {d : Nat} {post : Int32 → eg_H → Prop} (M : eg_H) (l1 : Int32) (l2 : Int32) (l3 : Int32) (h : (l3 ≤ l2 → eg_W κ gC mtX10_nextOrder d (eQI κ gC post) 67 [(0, vR (10, 0)), (1, vI l1), (2, vI l2), (3, vI l3)] [] M) ∧ ((¬ l3 ≤ l2) → (vp_in l3 5 ∧ (vp_in l2 5 ∧ ((M.1 (52, 0) l2.toNatClampNeg) ≤ (M.1 (52, 0) l3.toNatClampNeg) → eg_W κ gC mtX10_nextOrder d (eQI κ gC post) 67 [(0, vR (10, 0)), (1, vI l1), (2, vI l2), (3, vI l3)] [] M) ∧ ((¬ (M.1 (52, 0) l2.toNatClampNeg) ≤ (M.1 (52, 0) l3.toNatClampNeg)) → (∀ x5 : Int32, x5 = (l3 + (-1 : Int32)) → eg_W κ gC mtX10_nextOrder d (eQI κ gC post) 41 [(0, vR (10, 0)), (1, vI l1), (2, vI l2), (3, vI x5)] [] M)))))) : eg_W κ gC mtX10_nextOrder d (eQI κ gC post) 41 [(0, vR (10, 0)), (1, vI l1), (2, vI l2), (3, vI l3)] [] M := by
  refine eg_iload_n 3 dX10_nextOrder_41 rfl rfl ?_
  refine eg_iload_n 2 dX10_nextOrder_42 rfl rfl ?_
  refine eg_icmp_le (tgt := 67) dX10_nextOrder_43 rfl (fun c1 => ?_) (fun c1 => ?_)
  · have h := h.1 c1
    exact h
  · have h := h.2 c1
    refine eg_aload_n 0 dX10_nextOrder_46 rfl rfl ?_
    refine eg_getR dX10_nextOrder_47 fl_10_50 rfl rfl (obC_10 z1) ?_
    show eg_W κ gC mtX10_nextOrder d (eQI κ gC post) 50 [(0, vR (10, 0)), (1, vI l1), (2, vI l2), (3, vI l3)] [vR (52, 0)] M
    refine eg_iload_n 3 dX10_nextOrder_50 rfl rfl ?_
    obtain ⟨g2, h⟩ := h
    refine eg_iaload dX10_nextOrder_51 (arC_52 z1 g2) ?_
    refine eg_aload_n 0 dX10_nextOrder_52 rfl rfl ?_
    refine eg_getR dX10_nextOrder_53 fl_10_50 rfl rfl (obC_10 z1) ?_
    show eg_W κ gC mtX10_nextOrder d (eQI κ gC post) 56 [(0, vR (10, 0)), (1, vI l1), (2, vI l2), (3, vI l3)] [vR (52, 0), vI (M.1 (52, 0) l3.toNatClampNeg)] M
    refine eg_iload_n 2 dX10_nextOrder_56 rfl rfl ?_
    obtain ⟨g3, h⟩ := h
    refine eg_iaload dX10_nextOrder_57 (arC_52 z1 g3) ?_
    refine eg_icmp_ge (tgt := 67) dX10_nextOrder_58 rfl (fun c4 => ?_) (fun c4 => ?_)
    · have h := h.1 c4
      exact h
    · have h := h.2 c4
      refine en_iinc (f := fun x5 => [(3, vI x5), (0, vR (10, 0)), (1, vI l1), (2, vI l2)]) 3 dX10_nextOrder_61 rfl rfl (by decide) rfl (fun x5 ex5 => ?_)
      have h := h x5 ex5
      refine eg_goto (tgt := 41) dX10_nextOrder_64 rfl ?_
      refine eg_sub [1, 2, 3, 0] rfl ?_
      exact h
set_option maxRecDepth 10000 in
theorem vX10_nextOrder_67 {κ : eg_K} {d : Nat} (hd : 1 ≤ d) {post : Int32 → eg_H → Prop} (M : eg_H) (l1 : Int32) (l2 : Int32) (l3 : Int32) (h : (gX10_swapInOrder M l2 l3 ∧ (∀ M2 : eg_H, M2 = (fX10_swapInOrder M l2 l3) → (∀ x4 : Int32, x4 = (l2 + (1 : Int32)) → (∀ x5 : Int32, x5 = (l1 - (1 : Int32)) → eg_W κ gC mtX10_nextOrder d (eQI κ gC post) 83 [(0, vR (10, 0)), (4, vI x4), (5, vI x5)] [] M2))))) : eg_W κ gC mtX10_nextOrder d (eQI κ gC post) 67 [(0, vR (10, 0)), (1, vI l1), (2, vI l2), (3, vI l3)] [] M := by
  refine eg_aload_n 0 dX10_nextOrder_67 rfl rfl ?_
  refine eg_iload_n 2 dX10_nextOrder_68 rfl rfl ?_
  refine eg_iload_n 3 dX10_nextOrder_69 rfl rfl ?_
  obtain ⟨g1, h⟩ := h
  refine eg_callVV (av := [vI l2, vI l3]) (st := []) dX10_nextOrder_70 ml_10_301 rfl rfl (obC_10 z1) (by decide) rfl (Nat.le_of_ble_eq_true rfl) (eg_dd (by omega)) (sX10_swapInOrder (by omega) M l2 l3  g1) (fun M2 eM2 => ?_)
  have h := h M2 eM2
  refine eg_iload_n 2 dX10_nextOrder_73 rfl rfl ?_
  refine eg_iconst dX10_nextOrder_74 ic_1 ?_
  refine eg_iadd dX10_nextOrder_75 ?_
  refine en_istore (f := fun x4 => [(4, vI x4), (0, vR (10, 0)), (1, vI l1), (2, vI l2), (3, vI l3)]) dX10_nextOrder_76 (by decide) rfl (fun x4 ex4 => ?_)
  have h := h x4 ex4
  refine eg_iload_n 2 dX10_nextOrder_78 rfl rfl ?_
  refine eg_iconst dX10_nextOrder_79 ic_1 ?_
  refine eg_isub dX10_nextOrder_80 ?_
  refine en_istore (f := fun x5 => [(5, vI x5), (4, vI x4), (0, vR (10, 0)), (1, vI l1), (2, vI l2), (3, vI l3)]) dX10_nextOrder_81 (by decide) rfl (fun x5 ex5 => ?_)
  have h := h x5 ex5
  refine eg_sub [2, 1, 0] rfl ?_
  exact h
set_option maxRecDepth 10000 in
theorem vX10_nextOrder_83 {κ : eg_K} {d : Nat} (hd : 1 ≤ d) {post : Int32 → eg_H → Prop} (M : eg_H) (l4 : Int32) (l5 : Int32) (h : (l5 ≤ l4 → post (1 : Int32) M) ∧ ((¬ l5 ≤ l4) → (gX10_swapInOrder M l4 l5 ∧ (∀ M3 : eg_H, M3 = (fX10_swapInOrder M l4 l5) → (∀ x5 : Int32, x5 = (l4 + (1 : Int32)) → (∀ x6 : Int32, x6 = (l5 + (-1 : Int32)) → eg_W κ gC mtX10_nextOrder d (eQI κ gC post) 83 [(0, vR (10, 0)), (4, vI x5), (5, vI x6)] [] M3)))))) : eg_W κ gC mtX10_nextOrder d (eQI κ gC post) 83 [(0, vR (10, 0)), (4, vI l4), (5, vI l5)] [] M := by
  refine eg_iload 1 dX10_nextOrder_83 rfl ?_
  refine eg_iload 2 dX10_nextOrder_85 rfl ?_
  refine eg_icmp_ge (tgt := 107) dX10_nextOrder_87 rfl (fun c1 => ?_) (fun c1 => ?_)
  · have h := h.1 c1
    refine eg_iconst dX10_nextOrder_107 ic_1 ?_
    exact eg_zreturn dX10_nextOrder_108 rfl (Or.inr rfl) h
  · have h := h.2 c1
    refine eg_aload_n 0 dX10_nextOrder_90 rfl rfl ?_
    refine eg_iload 1 dX10_nextOrder_91 rfl ?_
    refine eg_iload 2 dX10_nextOrder_93 rfl ?_
    obtain ⟨g2, h⟩ := h
    refine eg_callVV (av := [vI l4, vI l5]) (st := []) dX10_nextOrder_95 ml_10_301 rfl rfl (obC_10 z1) (by decide) rfl (Nat.le_of_ble_eq_true rfl) (eg_dd (by omega)) (sX10_swapInOrder (by omega) M l4 l5  g2) (fun M3 eM3 => ?_)
    have h := h M3 eM3
    refine en_iinc (f := fun x5 => [(4, vI x5), (0, vR (10, 0)), (5, vI l5)]) 1 dX10_nextOrder_98 rfl rfl (by decide) rfl (fun x5 ex5 => ?_)
    have h := h x5 ex5
    refine en_iinc (f := fun x6 => [(5, vI x6), (4, vI x5), (0, vR (10, 0))]) 2 dX10_nextOrder_101 rfl rfl (by decide) rfl (fun x6 ex6 => ?_)
    have h := h x6 ex6
    refine eg_goto (tgt := 83) dX10_nextOrder_104 rfl ?_
    refine eg_sub [2, 1, 0] rfl ?_
    exact h
theorem dX10_seen_0 : decode cX10_seen 0 = .ok (.aload_n 0, 1) := by decide +kernel
theorem dX10_seen_1 : decode cX10_seen 1 = .ok (.getfield 32, 3) := by decide +kernel
theorem dX10_seen_4 : decode cX10_seen 4 = .ok (.iload_n 1, 1) := by decide +kernel
theorem dX10_seen_5 : decode cX10_seen 5 = .ok (.invokevirtual 188, 3) := by decide +kernel
theorem dX10_seen_8 : decode cX10_seen 8 = .ok (.ifCond .eq 10, 3) := by decide +kernel
theorem dX10_seen_11 : decode cX10_seen 11 = .ok (.iload_n 2, 1) := by decide +kernel
theorem dX10_seen_12 : decode cX10_seen 12 = .ok (.invokestatic 270, 3) := by decide +kernel
theorem dX10_seen_15 : decode cX10_seen 15 = .ok (.ifCond .ne 7, 3) := by decide +kernel
theorem dX10_seen_18 : decode cX10_seen 18 = .ok (.ldc_w 282, 3) := by decide +kernel
theorem dX10_seen_21 : decode cX10_seen 21 = .ok (.ireturn, 1) := by decide +kernel
theorem dX10_seen_22 : decode cX10_seen 22 = .ok (.aload_n 0, 1) := by decide +kernel
theorem dX10_seen_23 : decode cX10_seen 23 = .ok (.iload_n 1, 1) := by decide +kernel
theorem dX10_seen_24 : decode cX10_seen 24 = .ok (.iconst 0, 1) := by decide +kernel
theorem dX10_seen_25 : decode cX10_seen 25 = .ok (.iload_n 2, 1) := by decide +kernel
theorem dX10_seen_26 : decode cX10_seen 26 = .ok (.invokevirtual 305, 3) := by decide +kernel
theorem dX10_seen_29 : decode cX10_seen 29 = .ok (.istore_n 3, 1) := by decide +kernel
theorem dX10_seen_30 : decode cX10_seen 30 = .ok (.iload_n 3, 1) := by decide +kernel
theorem dX10_seen_31 : decode cX10_seen 31 = .ok (.aload_n 0, 1) := by decide +kernel
theorem dX10_seen_32 : decode cX10_seen 32 = .ok (.iload_n 1, 1) := by decide +kernel
theorem dX10_seen_33 : decode cX10_seen 33 = .ok (.aload_n 0, 1) := by decide +kernel
theorem dX10_seen_34 : decode cX10_seen 34 = .ok (.getfield 32, 3) := by decide +kernel
theorem dX10_seen_37 : decode cX10_seen 37 = .ok (.getfield 295, 3) := by decide +kernel
theorem dX10_seen_40 : decode cX10_seen 40 = .ok (.iconst 1, 1) := by decide +kernel
theorem dX10_seen_41 : decode cX10_seen 41 = .ok (.isub, 1) := by decide +kernel
theorem dX10_seen_42 : decode cX10_seen 42 = .ok (.iload_n 2, 1) := by decide +kernel
theorem dX10_seen_43 : decode cX10_seen 43 = .ok (.invokevirtual 305, 3) := by decide +kernel
theorem dX10_seen_46 : decode cX10_seen 46 = .ok (.isub, 1) := by decide +kernel
theorem dX10_seen_47 : decode cX10_seen 47 = .ok (.ireturn, 1) := by decide +kernel
set_option maxRecDepth 10000 in
theorem vX10_seen_0 {κ : eg_K} {d : Nat} (hd : 1 ≤ d) {post : Int32 → eg_H → Prop} (M : eg_H) (l1 : Int32) (l2 : Int32) (h : (∃ p1 : Nat, p1 < 2 ∧ M.2.2 (10, 0) 3 = (5, p1) ∧ (∀ x3 : Int32, x3 = (fX5_hasStation M p1 l1) → (x3 = 0 → post (-2147483648 : Int32) M) ∧ ((¬ x3 = 0) → (∀ x6 : Int32, x6 = (fX10_isLength M l2) → ((¬ x6 = 0) → eCI κ gC mtX10_takenAt d [vR (10, 0), vI l1, vI (0 : Int32), vI l2] M (fun x8 M9 => (∃ p11 : Nat, p11 < 2 ∧ M9.2.2 (10, 0) 3 = (5, p11) ∧ eCI κ gC mtX10_takenAt d [vR (10, 0), vI l1, vI ((M9.1 (5, p11) 0) - (1 : Int32)), vI l2] M9 (fun x12 M13 => post (x8 - x12) M13)))) ∧ (x6 = 0 → post (-2147483648 : Int32) M)))))) : eg_W κ gC mtX10_seen d (eQI κ gC post) 0 [(0, vR (10, 0)), (1, vI l1), (2, vI l2)] [] M := by
  refine eg_aload_n 0 dX10_seen_0 rfl rfl ?_
  refine eg_getD dX10_seen_1 fl_10_32 rfl rfl (obC_10 z1) ?_
  obtain ⟨p1, hp1, ep1, h⟩ := h
  rw [ep1]
  refine eg_iload_n 1 dX10_seen_4 rfl rfl ?_
  refine eg_callVI (av := [vI l1]) (st := []) dX10_seen_5 ml_10_188 rfl rfl (obC_5 hp1) (by decide) rfl (Nat.le_of_ble_eq_true rfl) (eg_dd (by omega)) (sX5_hasStation (by omega) M p1 l1 hp1 ) (fun x3 M2 hp => ?_)
  obtain ⟨ex3, eM2⟩ := hp
  rw [eM2]
  have h := h x3 ex3
  refine eg_if_eq (tgt := 18) dX10_seen_8 rfl (fun c4 => ?_) (fun c4 => ?_)
  · have h := h.1 c4
    refine eg_ldcw dX10_seen_18 kc_10_282 ?_
    exact eg_ireturn dX10_seen_21 rfl h
  · have h := h.2 c4
    refine eg_iload_n 2 dX10_seen_11 rfl rfl ?_
    refine eg_callSI (av := [vI l2]) (st := []) dX10_seen_12 ml_10_270 rfl rfl (Nat.le_of_ble_eq_true rfl) (eg_dd (by omega)) (sX10_isLength (by omega) M l2  ) (fun x6 M5 hp => ?_)
    obtain ⟨ex6, eM5⟩ := hp
    rw [eM5]
    have h := h x6 ex6
    refine eg_if_ne (tgt := 22) dX10_seen_15 rfl (fun c7 => ?_) (fun c7 => ?_)
    · have h := h.1 c7
      refine eg_aload_n 0 dX10_seen_22 rfl rfl ?_
      refine eg_iload_n 1 dX10_seen_23 rfl rfl ?_
      refine eg_iconst dX10_seen_24 ic_0 ?_
      refine eg_iload_n 2 dX10_seen_25 rfl rfl ?_
      obtain ⟨q10, hq10, h⟩ := h
      refine eg_callVI (av := [vI l1, vI (0 : Int32), vI l2]) (st := []) dX10_seen_26 ml_10_305 rfl rfl (obC_10 z1) (by decide) rfl (Nat.le_of_ble_eq_true rfl) (eg_dd (by omega)) hq10 (fun x8 M9 hp => ?_)
      have h := h x8 M9 hp
      refine eg_istore_n dX10_seen_29 rfl (by decide) (ls1 := [(3, vI x8), (0, vR (10, 0)), (1, vI l1), (2, vI l2)]) rfl ?_
      refine eg_iload_n 0 dX10_seen_30 rfl rfl ?_
      refine eg_aload_n 1 dX10_seen_31 rfl rfl ?_
      refine eg_iload_n 2 dX10_seen_32 rfl rfl ?_
      refine eg_aload_n 1 dX10_seen_33 rfl rfl ?_
      refine eg_getD dX10_seen_34 fl_10_32 rfl rfl (obC_10 z1) ?_
      obtain ⟨p11, hp11, ep11, h⟩ := h
      rw [ep11]
      refine eg_getI dX10_seen_37 fl_10_295 rfl trivial (obC_5 hp11) ?_
      refine eg_iconst dX10_seen_40 ic_1 ?_
      refine eg_isub dX10_seen_41 ?_
      refine eg_iload_n 3 dX10_seen_42 rfl rfl ?_
      obtain ⟨q14, hq14, h⟩ := h
      refine eg_callVI (av := [vI l1, vI ((M9.1 (5, p11) 0) - (1 : Int32)), vI l2]) (st := [vI x8]) dX10_seen_43 ml_10_305 rfl rfl (obC_10 z1) (by decide) rfl (Nat.le_of_ble_eq_true rfl) (eg_dd (by omega)) hq14 (fun x12 M13 hp => ?_)
      have h := h x12 M13 hp
      refine eg_isub dX10_seen_46 ?_
      exact eg_ireturn dX10_seen_47 rfl h
    · have h := h.2 c7
      refine eg_ldcw dX10_seen_18 kc_10_282 ?_
      exact eg_ireturn dX10_seen_21 rfl h
theorem dX10_takenAt_0 : decode cX10_takenAt 0 = .ok (.aload_n 0, 1) := by decide +kernel
theorem dX10_takenAt_1 : decode cX10_takenAt 1 = .ok (.invokevirtual 103, 3) := by decide +kernel
theorem dX10_takenAt_4 : decode cX10_takenAt 4 = .ok (.iload_n 2, 1) := by decide +kernel
theorem dX10_takenAt_5 : decode cX10_takenAt 5 = .ok (.ifCond .ne 7, 3) := by decide +kernel
theorem dX10_takenAt_8 : decode cX10_takenAt 8 = .ok (.iconst 1, 1) := by decide +kernel
theorem dX10_takenAt_9 : decode cX10_takenAt 9 = .ok (.goto 4, 3) := by decide +kernel
theorem dX10_takenAt_12 : decode cX10_takenAt 12 = .ok (.iconst 0, 1) := by decide +kernel
theorem dX10_takenAt_13 : decode cX10_takenAt 13 = .ok (.istore 4, 2) := by decide +kernel
theorem dX10_takenAt_15 : decode cX10_takenAt 15 = .ok (.iconst 0, 1) := by decide +kernel
theorem dX10_takenAt_16 : decode cX10_takenAt 16 = .ok (.istore 5, 2) := by decide +kernel
theorem dX10_takenAt_18 : decode cX10_takenAt 18 = .ok (.iload 5, 2) := by decide +kernel
theorem dX10_takenAt_20 : decode cX10_takenAt 20 = .ok (.aload_n 0, 1) := by decide +kernel
theorem dX10_takenAt_21 : decode cX10_takenAt 21 = .ok (.getfield 32, 3) := by decide +kernel
theorem dX10_takenAt_24 : decode cX10_takenAt 24 = .ok (.getfield 295, 3) := by decide +kernel
theorem dX10_takenAt_27 : decode cX10_takenAt 27 = .ok (.if_icmp .ge 49, 3) := by decide +kernel
theorem dX10_takenAt_30 : decode cX10_takenAt 30 = .ok (.iload 4, 2) := by decide +kernel
theorem dX10_takenAt_32 : decode cX10_takenAt 32 = .ok (.iconst 5, 1) := by decide +kernel
theorem dX10_takenAt_33 : decode cX10_takenAt 33 = .ok (.if_icmp .ge 43, 3) := by decide +kernel
theorem dX10_takenAt_36 : decode cX10_takenAt 36 = .ok (.aload_n 0, 1) := by decide +kernel
theorem dX10_takenAt_37 : decode cX10_takenAt 37 = .ok (.getfield 65, 3) := by decide +kernel
theorem dX10_takenAt_40 : decode cX10_takenAt 40 = .ok (.getfield 234, 3) := by decide +kernel
theorem dX10_takenAt_43 : decode cX10_takenAt 43 = .ok (.iload 5, 2) := by decide +kernel
theorem dX10_takenAt_45 : decode cX10_takenAt 45 = .ok (.iaload, 1) := by decide +kernel
theorem dX10_takenAt_46 : decode cX10_takenAt 46 = .ok (.iload_n 1, 1) := by decide +kernel
theorem dX10_takenAt_47 : decode cX10_takenAt 47 = .ok (.if_icmp .eq 23, 3) := by decide +kernel
theorem dX10_takenAt_50 : decode cX10_takenAt 50 = .ok (.aload_n 0, 1) := by decide +kernel
theorem dX10_takenAt_51 : decode cX10_takenAt 51 = .ok (.getfield 50, 3) := by decide +kernel
theorem dX10_takenAt_54 : decode cX10_takenAt 54 = .ok (.iload 4, 2) := by decide +kernel
theorem dX10_takenAt_56 : decode cX10_takenAt 56 = .ok (.aload_n 0, 1) := by decide +kernel
theorem dX10_takenAt_57 : decode cX10_takenAt 57 = .ok (.getfield 65, 3) := by decide +kernel
theorem dX10_takenAt_60 : decode cX10_takenAt 60 = .ok (.getfield 234, 3) := by decide +kernel
theorem dX10_takenAt_63 : decode cX10_takenAt 63 = .ok (.iload 5, 2) := by decide +kernel
theorem dX10_takenAt_65 : decode cX10_takenAt 65 = .ok (.iaload, 1) := by decide +kernel
theorem dX10_takenAt_66 : decode cX10_takenAt 66 = .ok (.iastore, 1) := by decide +kernel
theorem dX10_takenAt_67 : decode cX10_takenAt 67 = .ok (.iinc 4 1, 3) := by decide +kernel
theorem dX10_takenAt_70 : decode cX10_takenAt 70 = .ok (.iinc 5 1, 3) := by decide +kernel
theorem dX10_takenAt_73 : decode cX10_takenAt 73 = .ok (.goto (-55), 3) := by decide +kernel
theorem dX10_takenAt_76 : decode cX10_takenAt 76 = .ok (.aload_n 0, 1) := by decide +kernel
theorem dX10_takenAt_77 : decode cX10_takenAt 77 = .ok (.getfield 50, 3) := by decide +kernel
theorem dX10_takenAt_80 : decode cX10_takenAt 80 = .ok (.iload_n 2, 1) := by decide +kernel
theorem dX10_takenAt_81 : decode cX10_takenAt 81 = .ok (.iload_n 1, 1) := by decide +kernel
theorem dX10_takenAt_82 : decode cX10_takenAt 82 = .ok (.iastore, 1) := by decide +kernel
theorem dX10_takenAt_83 : decode cX10_takenAt 83 = .ok (.aload_n 0, 1) := by decide +kernel
theorem dX10_takenAt_84 : decode cX10_takenAt 84 = .ok (.getfield 69, 3) := by decide +kernel
theorem dX10_takenAt_87 : decode cX10_takenAt 87 = .ok (.aload_n 0, 1) := by decide +kernel
theorem dX10_takenAt_88 : decode cX10_takenAt 88 = .ok (.getfield 32, 3) := by decide +kernel
theorem dX10_takenAt_91 : decode cX10_takenAt 91 = .ok (.aload_n 0, 1) := by decide +kernel
theorem dX10_takenAt_92 : decode cX10_takenAt 92 = .ok (.getfield 50, 3) := by decide +kernel
theorem dX10_takenAt_95 : decode cX10_takenAt 95 = .ok (.invokevirtual 106, 3) := by decide +kernel
theorem dX10_takenAt_98 : decode cX10_takenAt 98 = .ok (.aload_n 0, 1) := by decide +kernel
theorem dX10_takenAt_99 : decode cX10_takenAt 99 = .ok (.getfield 69, 3) := by decide +kernel
theorem dX10_takenAt_102 : decode cX10_takenAt 102 = .ok (.iload_n 3, 1) := by decide +kernel
theorem dX10_takenAt_103 : decode cX10_takenAt 103 = .ok (.invokevirtual 246, 3) := by decide +kernel
theorem dX10_takenAt_106 : decode cX10_takenAt 106 = .ok (.aload_n 0, 1) := by decide +kernel
theorem dX10_takenAt_107 : decode cX10_takenAt 107 = .ok (.getfield 69, 3) := by decide +kernel
theorem dX10_takenAt_110 : decode cX10_takenAt 110 = .ok (.getfield 191, 3) := by decide +kernel
theorem dX10_takenAt_113 : decode cX10_takenAt 113 = .ok (.iload_n 1, 1) := by decide +kernel
theorem dX10_takenAt_114 : decode cX10_takenAt 114 = .ok (.aaload, 1) := by decide +kernel
theorem dX10_takenAt_115 : decode cX10_takenAt 115 = .ok (.getfield 221, 3) := by decide +kernel
theorem dX10_takenAt_118 : decode cX10_takenAt 118 = .ok (.ireturn, 1) := by decide +kernel
set_option maxRecDepth 10000 in
theorem vX10_takenAt_0 {κ : eg_K} {d : Nat} (hd : 1 ≤ d) {post : Int32 → eg_H → Prop} (M : eg_H) (l1 : Int32) (l2 : Int32) (l3 : Int32) (h : (∀ M1 : eg_H, M1 = (fX10_orderByNumbers M) → (∀ x3 : Int32, x3 = ((if (¬ l2 = 0) then (0 : Int32) else (1 : Int32))) → eg_W κ gC mtX10_takenAt d (eQI κ gC post) 18 [(0, vR (10, 0)), (1, vI l1), (2, vI l2), (3, vI l3), (4, vI x3), (5, vI (0 : Int32))] [] M1))) : eg_W κ gC mtX10_takenAt d (eQI κ gC post) 0 [(0, vR (10, 0)), (1, vI l1), (2, vI l2), (3, vI l3)] [] M := by
  refine eg_aload_n 0 dX10_takenAt_0 rfl rfl ?_
  refine eg_callVV (av := []) (st := []) dX10_takenAt_1 ml_10_103 rfl rfl (obC_10 z1) (by decide) rfl (Nat.le_of_ble_eq_true rfl) (eg_dd (by omega)) (sX10_orderByNumbers (by omega) M   ) (fun M1 eM1 => ?_)
  have h := h M1 eM1
  refine eg_iload_n 2 dX10_takenAt_4 rfl rfl ?_
  have J : ∀ x3 : Int32, x3 = (if (¬ l2 = 0) then (0 : Int32) else (1 : Int32)) → eg_W κ gC mtX10_takenAt d (eQI κ gC post) 13 [(0, vR (10, 0)), (1, vI l1), (2, vI l2), (3, vI l3)] [vI x3] M1 := by
    intro x3 ex3
    have h := h x3 ex3
    refine eg_istore dX10_takenAt_13 (by decide) (ls1 := [(4, vI x3), (0, vR (10, 0)), (1, vI l1), (2, vI l2), (3, vI l3)]) rfl ?_
    refine eg_iconst dX10_takenAt_15 ic_0 ?_
    refine eg_istore dX10_takenAt_16 (by decide) (ls1 := [(5, vI (0 : Int32)), (4, vI x3), (0, vR (10, 0)), (1, vI l1), (2, vI l2), (3, vI l3)]) rfl ?_
    refine eg_sub [2, 3, 4, 5, 1, 0] rfl ?_
    exact h
  clear h
  refine eg_if_ne (tgt := 12) dX10_takenAt_5 rfl (fun c4 => ?_) (fun c4 => ?_)
  · refine eg_iconst dX10_takenAt_12 ic_0 ?_
    exact J _ (by rw [if_pos c4])
  · have c5 : ¬ (¬ l2 = 0) := fun z => z c4
    refine eg_iconst dX10_takenAt_8 ic_1 ?_
    refine eg_goto (tgt := 13) dX10_takenAt_9 rfl ?_
    exact J _ (by rw [if_neg c5])
set_option maxRecDepth 10000 in
theorem vX10_takenAt_18 {κ : eg_K} {d : Nat} {post : Int32 → eg_H → Prop} (M : eg_H) (l1 : Int32) (l2 : Int32) (l3 : Int32) (l4 : Int32) (l5 : Int32) (h : (∃ p1 : Nat, p1 < 2 ∧ M.2.2 (10, 0) 3 = (5, p1) ∧ ((M.1 (5, p1) 0) ≤ l5 → eg_W κ gC mtX10_takenAt d (eQI κ gC post) 76 [(0, vR (10, 0)), (1, vI l1), (2, vI l2), (3, vI l3)] [] M) ∧ ((¬ (M.1 (5, p1) 0) ≤ l5) → ((5 : Int32) ≤ l4 → eg_W κ gC mtX10_takenAt d (eQI κ gC post) 76 [(0, vR (10, 0)), (1, vI l1), (2, vI l2), (3, vI l3)] [] M) ∧ ((¬ (5 : Int32) ≤ l4) → (vp_in l5 5 ∧ ((M.1 (40, 0) l5.toNatClampNeg) = l1 → (∀ x6 : Int32, x6 = (l5 + (1 : Int32)) → eg_W κ gC mtX10_takenAt d (eQI κ gC post) 18 [(0, vR (10, 0)), (1, vI l1), (2, vI l2), (3, vI l3), (4, vI l4), (5, vI x6)] [] M)) ∧ ((¬ (M.1 (40, 0) l5.toNatClampNeg) = l1) → (vp_in l4 5 ∧ (∀ M8 : eg_H, M8 = (sI M (52, 0) l4.toNatClampNeg (M.1 (40, 0) l5.toNatClampNeg)) → (∀ x9 : Int32, x9 = (l4 + (1 : Int32)) → (∀ x10 : Int32, x10 = (l5 + (1 : Int32)) → eg_W κ gC mtX10_takenAt d (eQI κ gC post) 18 [(0, vR (10, 0)), (1, vI l1), (2, vI l2), (3, vI l3), (4, vI x9), (5, vI x10)] [] M8)))))))))) : eg_W κ gC mtX10_takenAt d (eQI κ gC post) 18 [(0, vR (10, 0)), (1, vI l1), (2, vI l2), (3, vI l3), (4, vI l4), (5, vI l5)] [] M := by
  refine eg_iload 5 dX10_takenAt_18 rfl ?_
  refine eg_aload_n 0 dX10_takenAt_20 rfl rfl ?_
  refine eg_getD dX10_takenAt_21 fl_10_32 rfl rfl (obC_10 z1) ?_
  obtain ⟨p1, hp1, ep1, h⟩ := h
  rw [ep1]
  refine eg_getI dX10_takenAt_24 fl_10_295 rfl trivial (obC_5 hp1) ?_
  refine eg_icmp_ge (tgt := 76) dX10_takenAt_27 rfl (fun c2 => ?_) (fun c2 => ?_)
  · have h := h.1 c2
    refine eg_sub [0, 1, 2, 3] rfl ?_
    exact h
  · have h := h.2 c2
    refine eg_iload 4 dX10_takenAt_30 rfl ?_
    refine eg_iconst dX10_takenAt_32 ic_5 ?_
    refine eg_icmp_ge (tgt := 76) dX10_takenAt_33 rfl (fun c3 => ?_) (fun c3 => ?_)
    · have h := h.1 c3
      refine eg_sub [0, 1, 2, 3] rfl ?_
      exact h
    · have h := h.2 c3
      refine eg_aload_n 0 dX10_takenAt_36 rfl rfl ?_
      refine eg_getR dX10_takenAt_37 fl_10_65 rfl rfl (obC_10 z1) ?_
      show eg_W κ gC mtX10_takenAt d (eQI κ gC post) 40 [(0, vR (10, 0)), (1, vI l1), (2, vI l2), (3, vI l3), (4, vI l4), (5, vI l5)] [vR (7, 0)] M
      refine eg_getR dX10_takenAt_40 fl_10_234 rfl rfl (obC_7 (by decide : 0 < 4)) ?_
      show eg_W κ gC mtX10_takenAt d (eQI κ gC post) 43 [(0, vR (10, 0)), (1, vI l1), (2, vI l2), (3, vI l3), (4, vI l4), (5, vI l5)] [vR (40, 0)] M
      refine eg_iload 5 dX10_takenAt_43 rfl ?_
      obtain ⟨g4, h⟩ := h
      refine eg_iaload dX10_takenAt_45 (arC_40 (by decide : 0 < 4) g4) ?_
      refine eg_iload_n 1 dX10_takenAt_46 rfl rfl ?_
      refine eg_icmp_eq (tgt := 70) dX10_takenAt_47 rfl (fun c5 => ?_) (fun c5 => ?_)
      · have h := h.1 c5
        refine en_iinc (f := fun x6 => [(5, vI x6), (0, vR (10, 0)), (1, vI l1), (2, vI l2), (3, vI l3), (4, vI l4)]) 5 dX10_takenAt_70 rfl rfl (by decide) rfl (fun x6 ex6 => ?_)
        have h := h x6 ex6
        refine eg_goto (tgt := 18) dX10_takenAt_73 rfl ?_
        refine eg_sub [1, 2, 3, 4, 5, 0] rfl ?_
        exact h
      · have h := h.2 c5
        refine eg_aload_n 0 dX10_takenAt_50 rfl rfl ?_
        refine eg_getR dX10_takenAt_51 fl_10_50 rfl rfl (obC_10 z1) ?_
        show eg_W κ gC mtX10_takenAt d (eQI κ gC post) 54 [(0, vR (10, 0)), (1, vI l1), (2, vI l2), (3, vI l3), (4, vI l4), (5, vI l5)] [vR (52, 0)] M
        refine eg_iload 4 dX10_takenAt_54 rfl ?_
        refine eg_aload_n 0 dX10_takenAt_56 rfl rfl ?_
        refine eg_getR dX10_takenAt_57 fl_10_65 rfl rfl (obC_10 z1) ?_
        show eg_W κ gC mtX10_takenAt d (eQI κ gC post) 60 [(0, vR (10, 0)), (1, vI l1), (2, vI l2), (3, vI l3), (4, vI l4), (5, vI l5)] [vR (7, 0), vI l4, vR (52, 0)] M
        refine eg_getR dX10_takenAt_60 fl_10_234 rfl rfl (obC_7 (by decide : 0 < 4)) ?_
        show eg_W κ gC mtX10_takenAt d (eQI κ gC post) 63 [(0, vR (10, 0)), (1, vI l1), (2, vI l2), (3, vI l3), (4, vI l4), (5, vI l5)] [vR (40, 0), vI l4, vR (52, 0)] M
        refine eg_iload 5 dX10_takenAt_63 rfl ?_
        refine eg_iaload dX10_takenAt_65 (arC_40 (by decide : 0 < 4) g4) ?_
        obtain ⟨g7, h⟩ := h
        refine en_iastore dX10_takenAt_66 (arC_52 z1 g7) (fun M8 eM8 => ?_)
        have h := h M8 eM8
        refine en_iinc (f := fun x9 => [(4, vI x9), (0, vR (10, 0)), (1, vI l1), (2, vI l2), (3, vI l3), (5, vI l5)]) 4 dX10_takenAt_67 rfl rfl (by decide) rfl (fun x9 ex9 => ?_)
        have h := h x9 ex9
        refine en_iinc (f := fun x10 => [(5, vI x10), (4, vI x9), (0, vR (10, 0)), (1, vI l1), (2, vI l2), (3, vI l3)]) 5 dX10_takenAt_70 rfl rfl (by decide) rfl (fun x10 ex10 => ?_)
        have h := h x10 ex10
        refine eg_goto (tgt := 18) dX10_takenAt_73 rfl ?_
        refine eg_sub [2, 3, 4, 5, 1, 0] rfl ?_
        exact h
set_option maxRecDepth 10000 in
theorem vX10_takenAt_76 {κ : eg_K} {d : Nat} (hd : 1 ≤ d) {post : Int32 → eg_H → Prop} (M : eg_H) (l1 : Int32) (l2 : Int32) (l3 : Int32) (h : (vp_in l2 5 ∧ (∀ M2 : eg_H, M2 = (sI M (52, 0) l2.toNatClampNeg l1) → (∃ p3 : Nat, p3 < 2 ∧ M2.2.2 (10, 0) 3 = (5, p3) ∧ eCV κ gC mtX7_begin d [vR (7, 1), vR (5, p3), vR (52, 0)] M2 (fun M4 => eCV κ gC mtX7_go d [vR (7, 1), vI l3] M4 (fun M6 => (vp_in l1 5 ∧ post (M6.1 (4, 5 * 1 + l1.toNatClampNeg) 3) M6))))))) : eg_W κ gC mtX10_takenAt d (eQI κ gC post) 76 [(0, vR (10, 0)), (1, vI l1), (2, vI l2), (3, vI l3)] [] M := by
  refine eg_aload_n 0 dX10_takenAt_76 rfl rfl ?_
  refine eg_getR dX10_takenAt_77 fl_10_50 rfl rfl (obC_10 z1) ?_
  show eg_W κ gC mtX10_takenAt d (eQI κ gC post) 80 [(0, vR (10, 0)), (1, vI l1), (2, vI l2), (3, vI l3)] [vR (52, 0)] M
  refine eg_iload_n 2 dX10_takenAt_80 rfl rfl ?_
  refine eg_iload_n 1 dX10_takenAt_81 rfl rfl ?_
  obtain ⟨g1, h⟩ := h
  refine en_iastore dX10_takenAt_82 (arC_52 z1 g1) (fun M2 eM2 => ?_)
  have h := h M2 eM2
  refine eg_aload_n 0 dX10_takenAt_83 rfl rfl ?_
  refine eg_getR dX10_takenAt_84 fl_10_69 rfl rfl (obC_10 z1) ?_
  show eg_W κ gC mtX10_takenAt d (eQI κ gC post) 87 [(0, vR (10, 0)), (1, vI l1), (2, vI l2), (3, vI l3)] [vR (7, 1)] M2
  refine eg_aload_n 0 dX10_takenAt_87 rfl rfl ?_
  refine eg_getD dX10_takenAt_88 fl_10_32 rfl rfl (obC_10 z1) ?_
  obtain ⟨p3, hp3, ep3, h⟩ := h
  rw [ep3]
  refine eg_aload_n 0 dX10_takenAt_91 rfl rfl ?_
  refine eg_getR dX10_takenAt_92 fl_10_50 rfl rfl (obC_10 z1) ?_
  show eg_W κ gC mtX10_takenAt d (eQI κ gC post) 95 [(0, vR (10, 0)), (1, vI l1), (2, vI l2), (3, vI l3)] [vR (52, 0), vR (5, p3), vR (7, 1)] M2
  obtain ⟨q5, hq5, h⟩ := h
  refine eg_callVV (av := [vR (5, p3), vR (52, 0)]) (st := []) dX10_takenAt_95 ml_10_106 rfl rfl (obC_7 (by decide : 1 < 4)) (by decide) rfl (Nat.le_of_ble_eq_true rfl) (eg_dd (by omega)) hq5 (fun M4 hp => ?_)
  have h := h M4 hp
  refine eg_aload_n 0 dX10_takenAt_98 rfl rfl ?_
  refine eg_getR dX10_takenAt_99 fl_10_69 rfl rfl (obC_10 z1) ?_
  show eg_W κ gC mtX10_takenAt d (eQI κ gC post) 102 [(0, vR (10, 0)), (1, vI l1), (2, vI l2), (3, vI l3)] [vR (7, 1)] M4
  refine eg_iload_n 3 dX10_takenAt_102 rfl rfl ?_
  obtain ⟨q7, hq7, h⟩ := h
  refine eg_callVV (av := [vI l3]) (st := []) dX10_takenAt_103 ml_10_246 rfl rfl (obC_7 (by decide : 1 < 4)) (by decide) rfl (Nat.le_of_ble_eq_true rfl) (eg_dd (by omega)) hq7 (fun M6 hp => ?_)
  have h := h M6 hp
  refine eg_aload_n 0 dX10_takenAt_106 rfl rfl ?_
  refine eg_getR dX10_takenAt_107 fl_10_69 rfl rfl (obC_10 z1) ?_
  show eg_W κ gC mtX10_takenAt d (eQI κ gC post) 110 [(0, vR (10, 0)), (1, vI l1), (2, vI l2), (3, vI l3)] [vR (7, 1)] M6
  refine eg_getR dX10_takenAt_110 fl_10_191 rfl rfl (obC_7 (by decide : 1 < 4)) ?_
  show eg_W κ gC mtX10_takenAt d (eQI κ gC post) 113 [(0, vR (10, 0)), (1, vI l1), (2, vI l2), (3, vI l3)] [vR (41, 1)] M6
  refine eg_iload_n 1 dX10_takenAt_113 rfl rfl ?_
  obtain ⟨g8, h⟩ := h
  refine eg_aaload6 dX10_takenAt_114 (arC_41 (by decide : 1 < 4) g8) ?_
  show eg_W κ gC mtX10_takenAt d (eQI κ gC post) 115 [(0, vR (10, 0)), (1, vI l1), (2, vI l2), (3, vI l3)] [vR (4, 5 * 1 + l1.toNatClampNeg)] M6
  refine eg_getI dX10_takenAt_115 fl_10_221 rfl trivial (obC_4 (ixT5 (by decide : 1 < 4) g8)) ?_
  exact eg_ireturn dX10_takenAt_118 rfl h
theorem dX10_plates_0 : decode cX10_plates 0 = .ok (.iload_n 1, 1) := by decide +kernel
theorem dX10_plates_1 : decode cX10_plates 1 = .ok (.iconst 1, 1) := by decide +kernel
theorem dX10_plates_2 : decode cX10_plates 2 = .ok (.if_icmp .lt 25, 3) := by decide +kernel
theorem dX10_plates_5 : decode cX10_plates 5 = .ok (.iload_n 1, 1) := by decide +kernel
theorem dX10_plates_6 : decode cX10_plates 6 = .ok (.bipush 20, 2) := by decide +kernel
theorem dX10_plates_8 : decode cX10_plates 8 = .ok (.if_icmp .gt 19, 3) := by decide +kernel
theorem dX10_plates_11 : decode cX10_plates 11 = .ok (.iload_n 2, 1) := by decide +kernel
theorem dX10_plates_12 : decode cX10_plates 12 = .ok (.invokestatic 270, 3) := by decide +kernel
theorem dX10_plates_15 : decode cX10_plates 15 = .ok (.ifCond .eq 12, 3) := by decide +kernel
theorem dX10_plates_18 : decode cX10_plates 18 = .ok (.iload_n 3, 1) := by decide +kernel
theorem dX10_plates_19 : decode cX10_plates 19 = .ok (.ifCond .lt 8, 3) := by decide +kernel
theorem dX10_plates_22 : decode cX10_plates 22 = .ok (.iload_n 3, 1) := by decide +kernel
theorem dX10_plates_23 : decode cX10_plates 23 = .ok (.iconst 3, 1) := by decide +kernel
theorem dX10_plates_24 : decode cX10_plates 24 = .ok (.if_icmp .le 5, 3) := by decide +kernel
theorem dX10_plates_27 : decode cX10_plates 27 = .ok (.iconst (-1), 1) := by decide +kernel
theorem dX10_plates_28 : decode cX10_plates 28 = .ok (.ireturn, 1) := by decide +kernel
theorem dX10_plates_29 : decode cX10_plates 29 = .ok (.aload_n 0, 1) := by decide +kernel
theorem dX10_plates_30 : decode cX10_plates 30 = .ok (.getfield 36, 3) := by decide +kernel
theorem dX10_plates_33 : decode cX10_plates 33 = .ok (.aload_n 0, 1) := by decide +kernel
theorem dX10_plates_34 : decode cX10_plates 34 = .ok (.getfield 32, 3) := by decide +kernel
theorem dX10_plates_37 : decode cX10_plates 37 = .ok (.invokevirtual 283, 3) := by decide +kernel
theorem dX10_plates_40 : decode cX10_plates 40 = .ok (.iconst 0, 1) := by decide +kernel
theorem dX10_plates_41 : decode cX10_plates 41 = .ok (.istore 4, 2) := by decide +kernel
theorem dX10_plates_43 : decode cX10_plates 43 = .ok (.iload 4, 2) := by decide +kernel
theorem dX10_plates_45 : decode cX10_plates 45 = .ok (.aload_n 0, 1) := by decide +kernel
theorem dX10_plates_46 : decode cX10_plates 46 = .ok (.getfield 36, 3) := by decide +kernel
theorem dX10_plates_49 : decode cX10_plates 49 = .ok (.getfield 309, 3) := by decide +kernel
theorem dX10_plates_52 : decode cX10_plates 52 = .ok (.if_icmp .ge 23, 3) := by decide +kernel
theorem dX10_plates_55 : decode cX10_plates 55 = .ok (.aload_n 0, 1) := by decide +kernel
theorem dX10_plates_56 : decode cX10_plates 56 = .ok (.getfield 36, 3) := by decide +kernel
theorem dX10_plates_59 : decode cX10_plates 59 = .ok (.getfield 285, 3) := by decide +kernel
theorem dX10_plates_62 : decode cX10_plates 62 = .ok (.iload 4, 2) := by decide +kernel
theorem dX10_plates_64 : decode cX10_plates 64 = .ok (.aaload, 1) := by decide +kernel
theorem dX10_plates_65 : decode cX10_plates 65 = .ok (.iload_n 1, 1) := by decide +kernel
theorem dX10_plates_66 : decode cX10_plates 66 = .ok (.putfield 311, 3) := by decide +kernel
theorem dX10_plates_69 : decode cX10_plates 69 = .ok (.iinc 4 1, 3) := by decide +kernel
theorem dX10_plates_72 : decode cX10_plates 72 = .ok (.goto (-29), 3) := by decide +kernel
theorem dX10_plates_75 : decode cX10_plates 75 = .ok (.aload_n 0, 1) := by decide +kernel
theorem dX10_plates_76 : decode cX10_plates 76 = .ok (.aload_n 0, 1) := by decide +kernel
theorem dX10_plates_77 : decode cX10_plates 77 = .ok (.getfield 36, 3) := by decide +kernel
theorem dX10_plates_80 : decode cX10_plates 80 = .ok (.iload_n 2, 1) := by decide +kernel
theorem dX10_plates_81 : decode cX10_plates 81 = .ok (.invokevirtual 273, 3) := by decide +kernel
theorem dX10_plates_84 : decode cX10_plates 84 = .ok (.istore 4, 2) := by decide +kernel
theorem dX10_plates_86 : decode cX10_plates 86 = .ok (.iload_n 3, 1) := by decide +kernel
theorem dX10_plates_87 : decode cX10_plates 87 = .ok (.tableswitch 49 0 2 #[25, 33, 41], 25) := by decide +kernel
theorem dX10_plates_112 : decode cX10_plates 112 = .ok (.aload_n 0, 1) := by decide +kernel
theorem dX10_plates_113 : decode cX10_plates 113 = .ok (.getfield 69, 3) := by decide +kernel
theorem dX10_plates_116 : decode cX10_plates 116 = .ok (.invokevirtual 314, 3) := by decide +kernel
theorem dX10_plates_119 : decode cX10_plates 119 = .ok (.ireturn, 1) := by decide +kernel
theorem dX10_plates_120 : decode cX10_plates 120 = .ok (.aload_n 0, 1) := by decide +kernel
theorem dX10_plates_121 : decode cX10_plates 121 = .ok (.getfield 69, 3) := by decide +kernel
theorem dX10_plates_124 : decode cX10_plates 124 = .ok (.invokevirtual 317, 3) := by decide +kernel
theorem dX10_plates_127 : decode cX10_plates 127 = .ok (.ireturn, 1) := by decide +kernel
theorem dX10_plates_128 : decode cX10_plates 128 = .ok (.aload_n 0, 1) := by decide +kernel
theorem dX10_plates_129 : decode cX10_plates 129 = .ok (.getfield 69, 3) := by decide +kernel
theorem dX10_plates_132 : decode cX10_plates 132 = .ok (.invokevirtual 320, 3) := by decide +kernel
theorem dX10_plates_135 : decode cX10_plates 135 = .ok (.ireturn, 1) := by decide +kernel
theorem dX10_plates_136 : decode cX10_plates 136 = .ok (.iload 4, 2) := by decide +kernel
theorem dX10_plates_138 : decode cX10_plates 138 = .ok (.ireturn, 1) := by decide +kernel
set_option maxRecDepth 10000 in
theorem vX10_plates_0 {κ : eg_K} {d : Nat} (hd : 1 ≤ d) {post : Int32 → eg_H → Prop} (M : eg_H) (l1 : Int32) (l2 : Int32) (l3 : Int32) (h : (l1 < (1 : Int32) → post (-1 : Int32) M) ∧ ((¬ l1 < (1 : Int32)) → ((20 : Int32) < l1 → post (-1 : Int32) M) ∧ ((¬ (20 : Int32) < l1) → (∀ x4 : Int32, x4 = (fX10_isLength M l2) → (x4 = 0 → post (-1 : Int32) M) ∧ ((¬ x4 = 0) → (l3 < 0 → post (-1 : Int32) M) ∧ ((¬ l3 < 0) → (l3 ≤ (3 : Int32) → (∃ p8 : Nat, p8 < 2 ∧ M.2.2 (10, 0) 4 = (5, p8) ∧ (∃ p9 : Nat, p9 < 2 ∧ M.2.2 (10, 0) 3 = (5, p9) ∧ eCV κ gC mtX5_copyFrom d [vR (5, p8), vR (5, p9)] M (fun M10 => eg_W κ gC mtX10_plates d (eQI κ gC post) 43 [(0, vR (10, 0)), (1, vI l1), (2, vI l2), (3, vI l3), (4, vI (0 : Int32))] [] M10)))) ∧ ((¬ l3 ≤ (3 : Int32)) → post (-1 : Int32) M))))))) : eg_W κ gC mtX10_plates d (eQI κ gC post) 0 [(0, vR (10, 0)), (1, vI l1), (2, vI l2), (3, vI l3)] [] M := by
  refine eg_iload_n 1 dX10_plates_0 rfl rfl ?_
  refine eg_iconst dX10_plates_1 ic_1 ?_
  refine eg_icmp_lt (tgt := 27) dX10_plates_2 rfl (fun c1 => ?_) (fun c1 => ?_)
  · have h := h.1 c1
    refine eg_iconst dX10_plates_27 ic_m1 ?_
    exact eg_ireturn dX10_plates_28 rfl h
  · have h := h.2 c1
    refine eg_iload_n 1 dX10_plates_5 rfl rfl ?_
    refine eg_bipush dX10_plates_6 bp_20 ?_
    refine eg_icmp_gt (tgt := 27) dX10_plates_8 rfl (fun c2 => ?_) (fun c2 => ?_)
    · have h := h.1 c2
      refine eg_iconst dX10_plates_27 ic_m1 ?_
      exact eg_ireturn dX10_plates_28 rfl h
    · have h := h.2 c2
      refine eg_iload_n 2 dX10_plates_11 rfl rfl ?_
      refine eg_callSI (av := [vI l2]) (st := []) dX10_plates_12 ml_10_270 rfl rfl (Nat.le_of_ble_eq_true rfl) (eg_dd (by omega)) (sX10_isLength (by omega) M l2  ) (fun x4 M3 hp => ?_)
      obtain ⟨ex4, eM3⟩ := hp
      rw [eM3]
      have h := h x4 ex4
      refine eg_if_eq (tgt := 27) dX10_plates_15 rfl (fun c5 => ?_) (fun c5 => ?_)
      · have h := h.1 c5
        refine eg_iconst dX10_plates_27 ic_m1 ?_
        exact eg_ireturn dX10_plates_28 rfl h
      · have h := h.2 c5
        refine eg_iload_n 3 dX10_plates_18 rfl rfl ?_
        refine eg_if_lt (tgt := 27) dX10_plates_19 rfl (fun c6 => ?_) (fun c6 => ?_)
        · have h := h.1 c6
          refine eg_iconst dX10_plates_27 ic_m1 ?_
          exact eg_ireturn dX10_plates_28 rfl h
        · have h := h.2 c6
          refine eg_iload_n 3 dX10_plates_22 rfl rfl ?_
          refine eg_iconst dX10_plates_23 ic_3 ?_
          refine eg_icmp_le (tgt := 29) dX10_plates_24 rfl (fun c7 => ?_) (fun c7 => ?_)
          · have h := h.1 c7
            refine eg_aload_n 0 dX10_plates_29 rfl rfl ?_
            refine eg_getD dX10_plates_30 fl_10_36 rfl rfl (obC_10 z1) ?_
            obtain ⟨p8, hp8, ep8, h⟩ := h
            rw [ep8]
            refine eg_aload_n 0 dX10_plates_33 rfl rfl ?_
            refine eg_getD dX10_plates_34 fl_10_32 rfl rfl (obC_10 z1) ?_
            obtain ⟨p9, hp9, ep9, h⟩ := h
            rw [ep9]
            obtain ⟨q11, hq11, h⟩ := h
            refine eg_callVV (av := [vR (5, p9)]) (st := []) dX10_plates_37 ml_10_283 rfl rfl (obC_5 hp8) (by decide) rfl (Nat.le_of_ble_eq_true rfl) (eg_dd (by omega)) hq11 (fun M10 hp => ?_)
            have h := h M10 hp
            refine eg_iconst dX10_plates_40 ic_0 ?_
            refine eg_istore dX10_plates_41 (by decide) (ls1 := [(4, vI (0 : Int32)), (0, vR (10, 0)), (1, vI l1), (2, vI l2), (3, vI l3)]) rfl ?_
            refine eg_sub [1, 2, 3, 4, 0] rfl ?_
            exact h
          · have h := h.2 c7
            refine eg_iconst dX10_plates_27 ic_m1 ?_
            exact eg_ireturn dX10_plates_28 rfl h
set_option maxRecDepth 10000 in
theorem vX10_plates_43 {κ : eg_K} {d : Nat} (hd : 1 ≤ d) {post : Int32 → eg_H → Prop} (M : eg_H) (l1 : Int32) (l2 : Int32) (l3 : Int32) (l4 : Int32) (h : (∃ p1 : Nat, p1 < 2 ∧ M.2.2 (10, 0) 4 = (5, p1) ∧ ((M.1 (5, p1) 2) ≤ l4 → eCI κ gC mtX10_waitedBy d [vR (10, 0), vR (5, p1), vI l2] M (fun x3 M4 => ((¬ l3 = (0 : Int32)) → (¬ l3 = (1 : Int32)) → (¬ l3 = (2 : Int32)) → post x3 M4) ∧ (l3 = (0 : Int32) → (gX7_takenInAll M4 1 ∧ (∀ x8 : Int32, x8 = (fX7_takenInAll M4 1) → post x8 M4))) ∧ (l3 = (1 : Int32) → (gX7_leftInAll M4 1 ∧ (∀ x11 : Int32, x11 = (fX7_leftInAll M4 1) → post x11 M4))) ∧ (l3 = (2 : Int32) → (gX7_cameAgain M4 1 ∧ (∀ x14 : Int32, x14 = (fX7_cameAgain M4 1) → post x14 M4))))) ∧ ((¬ (M.1 (5, p1) 2) ≤ l4) → (vp_in l4 15 ∧ (∀ M16 : eg_H, M16 = (sI M (0, 15 * p1 + l4.toNatClampNeg) 2 l1) → (∀ x17 : Int32, x17 = (l4 + (1 : Int32)) → eg_W κ gC mtX10_plates d (eQI κ gC post) 43 [(0, vR (10, 0)), (1, vI l1), (2, vI l2), (3, vI l3), (4, vI x17)] [] M16)))))) : eg_W κ gC mtX10_plates d (eQI κ gC post) 43 [(0, vR (10, 0)), (1, vI l1), (2, vI l2), (3, vI l3), (4, vI l4)] [] M := by
  refine eg_iload 4 dX10_plates_43 rfl ?_
  refine eg_aload_n 0 dX10_plates_45 rfl rfl ?_
  refine eg_getD dX10_plates_46 fl_10_36 rfl rfl (obC_10 z1) ?_
  obtain ⟨p1, hp1, ep1, h⟩ := h
  rw [ep1]
  refine eg_getI dX10_plates_49 fl_10_309 rfl trivial (obC_5 hp1) ?_
  refine eg_icmp_ge (tgt := 75) dX10_plates_52 rfl (fun c2 => ?_) (fun c2 => ?_)
  · have h := h.1 c2
    refine eg_aload_n 0 dX10_plates_75 rfl rfl ?_
    refine eg_aload_n 0 dX10_plates_76 rfl rfl ?_
    refine eg_getD dX10_plates_77 fl_10_36 rfl rfl (obC_10 z1) ?_
    rw [ep1]
    refine eg_iload_n 2 dX10_plates_80 rfl rfl ?_
    obtain ⟨q5, hq5, h⟩ := h
    refine eg_callVI (av := [vR (5, p1), vI l2]) (st := []) dX10_plates_81 ml_10_273 rfl rfl (obC_10 z1) (by decide) rfl (Nat.le_of_ble_eq_true rfl) (eg_dd (by omega)) hq5 (fun x3 M4 hp => ?_)
    have h := h x3 M4 hp
    refine eg_istore dX10_plates_84 (by decide) (ls1 := [(4, vI x3), (0, vR (10, 0)), (1, vI l1), (2, vI l2), (3, vI l3)]) rfl ?_
    refine eg_iload_n 4 dX10_plates_86 rfl rfl ?_
    have J : (¬ l3 = (0 : Int32)) → (¬ l3 = (1 : Int32)) → (¬ l3 = (2 : Int32)) → eg_W κ gC mtX10_plates d (eQI κ gC post) 136 [(4, vI x3), (0, vR (10, 0)), (1, vI l1), (2, vI l2), (3, vI l3)] [] M4 := by
      intro c0_ c1_ c2_
      have h := h.1 c0_ c1_ c2_
      refine eg_iload 0 dX10_plates_136 rfl ?_
      exact eg_ireturn dX10_plates_138 rfl h
    by_cases c0_ : l3 = (0 : Int32)
    · refine eg_tabI (tgt := 112) dX10_plates_87 (by rw [c0_]; decide) (by rw [c0_]; decide) (off := 25) (by rw [c0_]; rfl) rfl ?_
      have h := h.2.1 c0_
      refine eg_aload_n 1 dX10_plates_112 rfl rfl ?_
      refine eg_getR dX10_plates_113 fl_10_69 rfl rfl (obC_10 z1) ?_
      show eg_W κ gC mtX10_plates d (eQI κ gC post) 116 [(4, vI x3), (0, vR (10, 0)), (1, vI l1), (2, vI l2), (3, vI l3)] [vR (7, 1)] M4
      obtain ⟨g6, h⟩ := h
      refine eg_callVI (av := []) (st := []) dX10_plates_116 ml_10_314 rfl rfl (obC_7 (by decide : 1 < 4)) (by decide) rfl (Nat.le_of_ble_eq_true rfl) (eg_dd (by omega)) (sX7_takenInAll (by omega) M4 1 (by decide : 1 < 4) g6) (fun x8 M7 hp => ?_)
      obtain ⟨ex8, eM7⟩ := hp
      rw [eM7]
      have h := h x8 ex8
      exact eg_ireturn dX10_plates_119 rfl h
    by_cases c1_ : l3 = (1 : Int32)
    · refine eg_tabI (tgt := 120) dX10_plates_87 (by rw [c1_]; decide) (by rw [c1_]; decide) (off := 33) (by rw [c1_]; rfl) rfl ?_
      have h := h.2.2.1 c1_
      refine eg_aload_n 1 dX10_plates_120 rfl rfl ?_
      refine eg_getR dX10_plates_121 fl_10_69 rfl rfl (obC_10 z1) ?_
      show eg_W κ gC mtX10_plates d (eQI κ gC post) 124 [(4, vI x3), (0, vR (10, 0)), (1, vI l1), (2, vI l2), (3, vI l3)] [vR (7, 1)] M4
      obtain ⟨g9, h⟩ := h
      refine eg_callVI (av := []) (st := []) dX10_plates_124 ml_10_317 rfl rfl (obC_7 (by decide : 1 < 4)) (by decide) rfl (Nat.le_of_ble_eq_true rfl) (eg_dd (by omega)) (sX7_leftInAll (by omega) M4 1 (by decide : 1 < 4) g9) (fun x11 M10 hp => ?_)
      obtain ⟨ex11, eM10⟩ := hp
      rw [eM10]
      have h := h x11 ex11
      exact eg_ireturn dX10_plates_127 rfl h
    by_cases c2_ : l3 = (2 : Int32)
    · refine eg_tabI (tgt := 128) dX10_plates_87 (by rw [c2_]; decide) (by rw [c2_]; decide) (off := 41) (by rw [c2_]; rfl) rfl ?_
      have h := h.2.2.2 c2_
      refine eg_aload_n 1 dX10_plates_128 rfl rfl ?_
      refine eg_getR dX10_plates_129 fl_10_69 rfl rfl (obC_10 z1) ?_
      show eg_W κ gC mtX10_plates d (eQI κ gC post) 132 [(4, vI x3), (0, vR (10, 0)), (1, vI l1), (2, vI l2), (3, vI l3)] [vR (7, 1)] M4
      obtain ⟨g12, h⟩ := h
      refine eg_callVI (av := []) (st := []) dX10_plates_132 ml_10_320 rfl rfl (obC_7 (by decide : 1 < 4)) (by decide) rfl (Nat.le_of_ble_eq_true rfl) (eg_dd (by omega)) (sX7_cameAgain (by omega) M4 1 (by decide : 1 < 4) g12) (fun x14 M13 hp => ?_)
      obtain ⟨ex14, eM13⟩ := hp
      rw [eM13]
      have h := h x14 ex14
      exact eg_ireturn dX10_plates_135 rfl h
    refine eg_tabO (tgt := 136) dX10_plates_87 ?_ rfl (J c0_ c1_ c2_)
    have t0_ := eg_ti 0 (by decide) c0_
    have t1_ := eg_ti 1 (by decide) c1_
    have t2_ := eg_ti 2 (by decide) c2_
    omega
  · have h := h.2 c2
    refine eg_aload_n 0 dX10_plates_55 rfl rfl ?_
    refine eg_getD dX10_plates_56 fl_10_36 rfl rfl (obC_10 z1) ?_
    rw [ep1]
    refine eg_getR dX10_plates_59 fl_10_285 rfl rfl (obC_5 hp1) ?_
    show eg_W κ gC mtX10_plates d (eQI κ gC post) 62 [(0, vR (10, 0)), (1, vI l1), (2, vI l2), (3, vI l3), (4, vI l4)] [vR (31, p1)] M
    refine eg_iload 4 dX10_plates_62 rfl ?_
    obtain ⟨g15, h⟩ := h
    refine eg_aaload5 dX10_plates_64 (arC_31 hp1 g15) ?_
    show eg_W κ gC mtX10_plates d (eQI κ gC post) 65 [(0, vR (10, 0)), (1, vI l1), (2, vI l2), (3, vI l3), (4, vI l4)] [vR (0, 15 * p1 + l4.toNatClampNeg)] M
    refine eg_iload_n 1 dX10_plates_65 rfl rfl ?_
    refine en_putI dX10_plates_66 fl_10_311 rfl rfl (obC_0 (ixP15 hp1 g15)) (fun M16 eM16 => ?_)
    have h := h M16 eM16
    refine en_iinc (f := fun x17 => [(4, vI x17), (0, vR (10, 0)), (1, vI l1), (2, vI l2), (3, vI l3)]) 4 dX10_plates_69 rfl rfl (by decide) rfl (fun x17 ex17 => ?_)
    have h := h x17 ex17
    refine eg_goto (tgt := 43) dX10_plates_72 rfl ?_
    refine eg_sub [1, 2, 3, 4, 0] rfl ?_
    exact h
theorem dX10_worth_0 : decode cX10_worth 0 = .ok (.iload_n 1, 1) := by decide +kernel
theorem dX10_worth_1 : decode cX10_worth 1 = .ok (.invokestatic 270, 3) := by decide +kernel
theorem dX10_worth_4 : decode cX10_worth 4 = .ok (.ifCond .ne 7, 3) := by decide +kernel
theorem dX10_worth_7 : decode cX10_worth 7 = .ok (.ldc_w 282, 3) := by decide +kernel
theorem dX10_worth_10 : decode cX10_worth 10 = .ok (.ireturn, 1) := by decide +kernel
theorem dX10_worth_11 : decode cX10_worth 11 = .ok (.aload_n 0, 1) := by decide +kernel
theorem dX10_worth_12 : decode cX10_worth 12 = .ok (.getfield 36, 3) := by decide +kernel
theorem dX10_worth_15 : decode cX10_worth 15 = .ok (.aload_n 0, 1) := by decide +kernel
theorem dX10_worth_16 : decode cX10_worth 16 = .ok (.getfield 32, 3) := by decide +kernel
theorem dX10_worth_19 : decode cX10_worth 19 = .ok (.invokevirtual 283, 3) := by decide +kernel
theorem dX10_worth_22 : decode cX10_worth 22 = .ok (.aload_n 0, 1) := by decide +kernel
theorem dX10_worth_23 : decode cX10_worth 23 = .ok (.getfield 36, 3) := by decide +kernel
theorem dX10_worth_26 : decode cX10_worth 26 = .ok (.iconst 0, 1) := by decide +kernel
theorem dX10_worth_27 : decode cX10_worth 27 = .ok (.putfield 323, 3) := by decide +kernel
theorem dX10_worth_30 : decode cX10_worth 30 = .ok (.aload_n 0, 1) := by decide +kernel
theorem dX10_worth_31 : decode cX10_worth 31 = .ok (.aload_n 0, 1) := by decide +kernel
theorem dX10_worth_32 : decode cX10_worth 32 = .ok (.getfield 36, 3) := by decide +kernel
theorem dX10_worth_35 : decode cX10_worth 35 = .ok (.iload_n 1, 1) := by decide +kernel
theorem dX10_worth_36 : decode cX10_worth 36 = .ok (.invokevirtual 273, 3) := by decide +kernel
theorem dX10_worth_39 : decode cX10_worth 39 = .ok (.istore_n 2, 1) := by decide +kernel
theorem dX10_worth_40 : decode cX10_worth 40 = .ok (.aload_n 0, 1) := by decide +kernel
theorem dX10_worth_41 : decode cX10_worth 41 = .ok (.getfield 36, 3) := by decide +kernel
theorem dX10_worth_44 : decode cX10_worth 44 = .ok (.iconst 1, 1) := by decide +kernel
theorem dX10_worth_45 : decode cX10_worth 45 = .ok (.putfield 323, 3) := by decide +kernel
theorem dX10_worth_48 : decode cX10_worth 48 = .ok (.iload_n 2, 1) := by decide +kernel
theorem dX10_worth_49 : decode cX10_worth 49 = .ok (.aload_n 0, 1) := by decide +kernel
theorem dX10_worth_50 : decode cX10_worth 50 = .ok (.aload_n 0, 1) := by decide +kernel
theorem dX10_worth_51 : decode cX10_worth 51 = .ok (.getfield 36, 3) := by decide +kernel
theorem dX10_worth_54 : decode cX10_worth 54 = .ok (.iload_n 1, 1) := by decide +kernel
theorem dX10_worth_55 : decode cX10_worth 55 = .ok (.invokevirtual 273, 3) := by decide +kernel
theorem dX10_worth_58 : decode cX10_worth 58 = .ok (.isub, 1) := by decide +kernel
theorem dX10_worth_59 : decode cX10_worth 59 = .ok (.ireturn, 1) := by decide +kernel
set_option maxRecDepth 10000 in
theorem vX10_worth_0 {κ : eg_K} {d : Nat} (hd : 1 ≤ d) {post : Int32 → eg_H → Prop} (M : eg_H) (l1 : Int32) (h : (∀ x2 : Int32, x2 = (fX10_isLength M l1) → ((¬ x2 = 0) → (∃ p4 : Nat, p4 < 2 ∧ M.2.2 (10, 0) 4 = (5, p4) ∧ (∃ p5 : Nat, p5 < 2 ∧ M.2.2 (10, 0) 3 = (5, p5) ∧ eCV κ gC mtX5_copyFrom d [vR (5, p4), vR (5, p5)] M (fun M6 => (∃ p8 : Nat, p8 < 2 ∧ M6.2.2 (10, 0) 4 = (5, p8) ∧ (∀ M9 : eg_H, M9 = (sI M6 (5, p8) 4 (0 : Int32)) → eCI κ gC mtX10_waitedBy d [vR (10, 0), vR (5, p8), vI l1] M9 (fun x10 M11 => (∃ p13 : Nat, p13 < 2 ∧ M11.2.2 (10, 0) 4 = (5, p13) ∧ (∀ M14 : eg_H, M14 = (sI M11 (5, p13) 4 (1 : Int32)) → eCI κ gC mtX10_waitedBy d [vR (10, 0), vR (5, p13), vI l1] M14 (fun x15 M16 => post (x10 - x15) M16)))))))))) ∧ (x2 = 0 → post (-2147483648 : Int32) M))) : eg_W κ gC mtX10_worth d (eQI κ gC post) 0 [(0, vR (10, 0)), (1, vI l1)] [] M := by
  refine eg_iload_n 1 dX10_worth_0 rfl rfl ?_
  refine eg_callSI (av := [vI l1]) (st := []) dX10_worth_1 ml_10_270 rfl rfl (Nat.le_of_ble_eq_true rfl) (eg_dd (by omega)) (sX10_isLength (by omega) M l1  ) (fun x2 M1 hp => ?_)
  obtain ⟨ex2, eM1⟩ := hp
  rw [eM1]
  have h := h x2 ex2
  refine eg_if_ne (tgt := 11) dX10_worth_4 rfl (fun c3 => ?_) (fun c3 => ?_)
  · have h := h.1 c3
    refine eg_aload_n 0 dX10_worth_11 rfl rfl ?_
    refine eg_getD dX10_worth_12 fl_10_36 rfl rfl (obC_10 z1) ?_
    obtain ⟨p4, hp4, ep4, h⟩ := h
    rw [ep4]
    refine eg_aload_n 0 dX10_worth_15 rfl rfl ?_
    refine eg_getD dX10_worth_16 fl_10_32 rfl rfl (obC_10 z1) ?_
    obtain ⟨p5, hp5, ep5, h⟩ := h
    rw [ep5]
    obtain ⟨q7, hq7, h⟩ := h
    refine eg_callVV (av := [vR (5, p5)]) (st := []) dX10_worth_19 ml_10_283 rfl rfl (obC_5 hp4) (by decide) rfl (Nat.le_of_ble_eq_true rfl) (eg_dd (by omega)) hq7 (fun M6 hp => ?_)
    have h := h M6 hp
    refine eg_aload_n 0 dX10_worth_22 rfl rfl ?_
    refine eg_getD dX10_worth_23 fl_10_36 rfl rfl (obC_10 z1) ?_
    obtain ⟨p8, hp8, ep8, h⟩ := h
    rw [ep8]
    refine eg_iconst dX10_worth_26 ic_0 ?_
    refine en_putZ dX10_worth_27 fl_10_323 rfl rfl (Or.inl rfl) (obC_5 hp8) (fun M9 eM9 => ?_)
    have h := h M9 eM9
    refine eg_aload_n 0 dX10_worth_30 rfl rfl ?_
    refine eg_aload_n 0 dX10_worth_31 rfl rfl ?_
    refine eg_getD dX10_worth_32 fl_10_36 rfl rfl (obC_10 z1) ?_
    rw [(show M9.2.2 (10, 0) 4 = (5, p8) from by rw [eM9]; exact ep8)]
    refine eg_iload_n 1 dX10_worth_35 rfl rfl ?_
    obtain ⟨q12, hq12, h⟩ := h
    refine eg_callVI (av := [vR (5, p8), vI l1]) (st := []) dX10_worth_36 ml_10_273 rfl rfl (obC_10 z1) (by decide) rfl (Nat.le_of_ble_eq_true rfl) (eg_dd (by omega)) hq12 (fun x10 M11 hp => ?_)
    have h := h x10 M11 hp
    refine eg_istore_n dX10_worth_39 rfl (by decide) (ls1 := [(2, vI x10), (0, vR (10, 0)), (1, vI l1)]) rfl ?_
    refine eg_aload_n 1 dX10_worth_40 rfl rfl ?_
    refine eg_getD dX10_worth_41 fl_10_36 rfl rfl (obC_10 z1) ?_
    obtain ⟨p13, hp13, ep13, h⟩ := h
    rw [ep13]
    refine eg_iconst dX10_worth_44 ic_1 ?_
    refine en_putZ dX10_worth_45 fl_10_323 rfl rfl (Or.inr rfl) (obC_5 hp13) (fun M14 eM14 => ?_)
    have h := h M14 eM14
    refine eg_iload_n 0 dX10_worth_48 rfl rfl ?_
    refine eg_aload_n 1 dX10_worth_49 rfl rfl ?_
    refine eg_aload_n 1 dX10_worth_50 rfl rfl ?_
    refine eg_getD dX10_worth_51 fl_10_36 rfl rfl (obC_10 z1) ?_
    rw [(show M14.2.2 (10, 0) 4 = (5, p13) from by rw [eM14]; exact ep13)]
    refine eg_iload_n 2 dX10_worth_54 rfl rfl ?_
    obtain ⟨q17, hq17, h⟩ := h
    refine eg_callVI (av := [vR (5, p13), vI l1]) (st := [vI x10]) dX10_worth_55 ml_10_273 rfl rfl (obC_10 z1) (by decide) rfl (Nat.le_of_ble_eq_true rfl) (eg_dd (by omega)) hq17 (fun x15 M16 hp => ?_)
    have h := h x15 M16 hp
    refine eg_isub dX10_worth_58 ?_
    exact eg_ireturn dX10_worth_59 rfl h
  · have h := h.2 c3
    refine eg_ldcw dX10_worth_7 kc_10_282 ?_
    exact eg_ireturn dX10_worth_10 rfl h
theorem dX10_fill_0 : decode cX10_fill 0 = .ok (.aload_n 0, 1) := by decide +kernel
theorem dX10_fill_1 : decode cX10_fill 1 = .ok (.iload_n 1, 1) := by decide +kernel
theorem dX10_fill_2 : decode cX10_fill 2 = .ok (.iload_n 2, 1) := by decide +kernel
theorem dX10_fill_3 : decode cX10_fill 3 = .ok (.iload_n 3, 1) := by decide +kernel
theorem dX10_fill_4 : decode cX10_fill 4 = .ok (.iload 4, 2) := by decide +kernel
theorem dX10_fill_6 : decode cX10_fill 6 = .ok (.iload 5, 2) := by decide +kernel
theorem dX10_fill_8 : decode cX10_fill 8 = .ok (.invokevirtual 326, 3) := by decide +kernel
theorem dX10_fill_11 : decode cX10_fill 11 = .ok (.ifCond .eq 18, 3) := by decide +kernel
theorem dX10_fill_14 : decode cX10_fill 14 = .ok (.aload_n 0, 1) := by decide +kernel
theorem dX10_fill_15 : decode cX10_fill 15 = .ok (.iload_n 1, 1) := by decide +kernel
theorem dX10_fill_16 : decode cX10_fill 16 = .ok (.iload_n 2, 1) := by decide +kernel
theorem dX10_fill_17 : decode cX10_fill 17 = .ok (.iload_n 3, 1) := by decide +kernel
theorem dX10_fill_18 : decode cX10_fill 18 = .ok (.iload 4, 2) := by decide +kernel
theorem dX10_fill_20 : decode cX10_fill 20 = .ok (.iload 5, 2) := by decide +kernel
theorem dX10_fill_22 : decode cX10_fill 22 = .ok (.iconst 1, 1) := by decide +kernel
theorem dX10_fill_23 : decode cX10_fill 23 = .ok (.invokevirtual 330, 3) := by decide +kernel
theorem dX10_fill_26 : decode cX10_fill 26 = .ok (.goto 4, 3) := by decide +kernel
theorem dX10_fill_29 : decode cX10_fill 29 = .ok (.iconst (-1), 1) := by decide +kernel
theorem dX10_fill_30 : decode cX10_fill 30 = .ok (.ireturn, 1) := by decide +kernel
set_option maxRecDepth 10000 in
theorem vX10_fill_0 {κ : eg_K} {d : Nat} (hd : 1 ≤ d) {post : Int32 → eg_H → Prop} (M : eg_H) (l1 : Int32) (l2 : Int32) (l3 : Int32) (l4 : Int32) (l5 : Int32) (h : eCI κ gC mtX10_canWeigh d [vR (10, 0), vI l1, vI l2, vI l3, vI l4, vI l5] M (fun x1 M2 => (x1 = 0 → post (-1 : Int32) M2) ∧ ((¬ x1 = 0) → eCI κ gC mtX10_cheapest d [vR (10, 0), vI l1, vI l2, vI l3, vI l4, vI l5, vI (1 : Int32)] M2 (fun x5 M6 => post x5 M6)))) : eg_W κ gC mtX10_fill d (eQI κ gC post) 0 [(0, vR (10, 0)), (1, vI l1), (2, vI l2), (3, vI l3), (4, vI l4), (5, vI l5)] [] M := by
  refine eg_aload_n 0 dX10_fill_0 rfl rfl ?_
  refine eg_iload_n 1 dX10_fill_1 rfl rfl ?_
  refine eg_iload_n 2 dX10_fill_2 rfl rfl ?_
  refine eg_iload_n 3 dX10_fill_3 rfl rfl ?_
  refine eg_iload 4 dX10_fill_4 rfl ?_
  refine eg_iload 5 dX10_fill_6 rfl ?_
  obtain ⟨q3, hq3, h⟩ := h
  refine eg_callVI (av := [vI l1, vI l2, vI l3, vI l4, vI l5]) (st := []) dX10_fill_8 ml_10_326 rfl rfl (obC_10 z1) (by decide) rfl (Nat.le_of_ble_eq_true rfl) (eg_dd (by omega)) hq3 (fun x1 M2 hp => ?_)
  have h := h x1 M2 hp
  refine eg_if_eq (tgt := 29) dX10_fill_11 rfl (fun c4 => ?_) (fun c4 => ?_)
  · have h := h.1 c4
    refine eg_iconst dX10_fill_29 ic_m1 ?_
    exact eg_ireturn dX10_fill_30 rfl h
  · have h := h.2 c4
    refine eg_aload_n 0 dX10_fill_14 rfl rfl ?_
    refine eg_iload_n 1 dX10_fill_15 rfl rfl ?_
    refine eg_iload_n 2 dX10_fill_16 rfl rfl ?_
    refine eg_iload_n 3 dX10_fill_17 rfl rfl ?_
    refine eg_iload 4 dX10_fill_18 rfl ?_
    refine eg_iload 5 dX10_fill_20 rfl ?_
    refine eg_iconst dX10_fill_22 ic_1 ?_
    obtain ⟨q7, hq7, h⟩ := h
    refine eg_callVI (av := [vI l1, vI l2, vI l3, vI l4, vI l5, vI (1 : Int32)]) (st := []) dX10_fill_23 ml_10_330 rfl rfl (obC_10 z1) (by decide) rfl (Nat.le_of_ble_eq_true rfl) (eg_dd (by omega)) hq7 (fun x5 M6 hp => ?_)
    have h := h x5 M6 hp
    refine eg_goto (tgt := 30) dX10_fill_26 rfl ?_
    exact eg_ireturn dX10_fill_30 rfl h
theorem dX10_rule_0 : decode cX10_rule 0 = .ok (.aload_n 0, 1) := by decide +kernel
theorem dX10_rule_1 : decode cX10_rule 1 = .ok (.iload_n 1, 1) := by decide +kernel
theorem dX10_rule_2 : decode cX10_rule 2 = .ok (.iload_n 2, 1) := by decide +kernel
theorem dX10_rule_3 : decode cX10_rule 3 = .ok (.iload_n 3, 1) := by decide +kernel
theorem dX10_rule_4 : decode cX10_rule 4 = .ok (.iload 4, 2) := by decide +kernel
theorem dX10_rule_6 : decode cX10_rule 6 = .ok (.iload 5, 2) := by decide +kernel
theorem dX10_rule_8 : decode cX10_rule 8 = .ok (.invokevirtual 326, 3) := by decide +kernel
theorem dX10_rule_11 : decode cX10_rule 11 = .ok (.ifCond .eq 18, 3) := by decide +kernel
theorem dX10_rule_14 : decode cX10_rule 14 = .ok (.aload_n 0, 1) := by decide +kernel
theorem dX10_rule_15 : decode cX10_rule 15 = .ok (.iload_n 1, 1) := by decide +kernel
theorem dX10_rule_16 : decode cX10_rule 16 = .ok (.iload_n 2, 1) := by decide +kernel
theorem dX10_rule_17 : decode cX10_rule 17 = .ok (.iload_n 3, 1) := by decide +kernel
theorem dX10_rule_18 : decode cX10_rule 18 = .ok (.iload 4, 2) := by decide +kernel
theorem dX10_rule_20 : decode cX10_rule 20 = .ok (.iload 5, 2) := by decide +kernel
theorem dX10_rule_22 : decode cX10_rule 22 = .ok (.iconst 0, 1) := by decide +kernel
theorem dX10_rule_23 : decode cX10_rule 23 = .ok (.invokevirtual 330, 3) := by decide +kernel
theorem dX10_rule_26 : decode cX10_rule 26 = .ok (.goto 4, 3) := by decide +kernel
theorem dX10_rule_29 : decode cX10_rule 29 = .ok (.iconst (-1), 1) := by decide +kernel
theorem dX10_rule_30 : decode cX10_rule 30 = .ok (.ireturn, 1) := by decide +kernel
set_option maxRecDepth 10000 in
theorem vX10_rule_0 {κ : eg_K} {d : Nat} (hd : 1 ≤ d) {post : Int32 → eg_H → Prop} (M : eg_H) (l1 : Int32) (l2 : Int32) (l3 : Int32) (l4 : Int32) (l5 : Int32) (h : eCI κ gC mtX10_canWeigh d [vR (10, 0), vI l1, vI l2, vI l3, vI l4, vI l5] M (fun x1 M2 => (x1 = 0 → post (-1 : Int32) M2) ∧ ((¬ x1 = 0) → eCI κ gC mtX10_cheapest d [vR (10, 0), vI l1, vI l2, vI l3, vI l4, vI l5, vI (0 : Int32)] M2 (fun x5 M6 => post x5 M6)))) : eg_W κ gC mtX10_rule d (eQI κ gC post) 0 [(0, vR (10, 0)), (1, vI l1), (2, vI l2), (3, vI l3), (4, vI l4), (5, vI l5)] [] M := by
  refine eg_aload_n 0 dX10_rule_0 rfl rfl ?_
  refine eg_iload_n 1 dX10_rule_1 rfl rfl ?_
  refine eg_iload_n 2 dX10_rule_2 rfl rfl ?_
  refine eg_iload_n 3 dX10_rule_3 rfl rfl ?_
  refine eg_iload 4 dX10_rule_4 rfl ?_
  refine eg_iload 5 dX10_rule_6 rfl ?_
  obtain ⟨q3, hq3, h⟩ := h
  refine eg_callVI (av := [vI l1, vI l2, vI l3, vI l4, vI l5]) (st := []) dX10_rule_8 ml_10_326 rfl rfl (obC_10 z1) (by decide) rfl (Nat.le_of_ble_eq_true rfl) (eg_dd (by omega)) hq3 (fun x1 M2 hp => ?_)
  have h := h x1 M2 hp
  refine eg_if_eq (tgt := 29) dX10_rule_11 rfl (fun c4 => ?_) (fun c4 => ?_)
  · have h := h.1 c4
    refine eg_iconst dX10_rule_29 ic_m1 ?_
    exact eg_ireturn dX10_rule_30 rfl h
  · have h := h.2 c4
    refine eg_aload_n 0 dX10_rule_14 rfl rfl ?_
    refine eg_iload_n 1 dX10_rule_15 rfl rfl ?_
    refine eg_iload_n 2 dX10_rule_16 rfl rfl ?_
    refine eg_iload_n 3 dX10_rule_17 rfl rfl ?_
    refine eg_iload 4 dX10_rule_18 rfl ?_
    refine eg_iload 5 dX10_rule_20 rfl ?_
    refine eg_iconst dX10_rule_22 ic_0 ?_
    obtain ⟨q7, hq7, h⟩ := h
    refine eg_callVI (av := [vI l1, vI l2, vI l3, vI l4, vI l5, vI (0 : Int32)]) (st := []) dX10_rule_23 ml_10_330 rfl rfl (obC_10 z1) (by decide) rfl (Nat.le_of_ble_eq_true rfl) (eg_dd (by omega)) hq7 (fun x5 M6 hp => ?_)
    have h := h x5 M6 hp
    refine eg_goto (tgt := 30) dX10_rule_26 rfl ?_
    exact eg_ireturn dX10_rule_30 rfl h
theorem dX10_canWeigh_0 : decode cX10_canWeigh 0 = .ok (.iload_n 3, 1) := by decide +kernel
theorem dX10_canWeigh_1 : decode cX10_canWeigh 1 = .ok (.ifCond .lt 25, 3) := by decide +kernel
theorem dX10_canWeigh_4 : decode cX10_canWeigh 4 = .ok (.iload_n 3, 1) := by decide +kernel
theorem dX10_canWeigh_5 : decode cX10_canWeigh 5 = .ok (.bipush 99, 2) := by decide +kernel
theorem dX10_canWeigh_7 : decode cX10_canWeigh 7 = .ok (.if_icmp .gt 19, 3) := by decide +kernel
theorem dX10_canWeigh_10 : decode cX10_canWeigh 10 = .ok (.iload 4, 2) := by decide +kernel
theorem dX10_canWeigh_12 : decode cX10_canWeigh 12 = .ok (.ifCond .lt 14, 3) := by decide +kernel
theorem dX10_canWeigh_15 : decode cX10_canWeigh 15 = .ok (.iload 4, 2) := by decide +kernel
theorem dX10_canWeigh_17 : decode cX10_canWeigh 17 = .ok (.bipush 99, 2) := by decide +kernel
theorem dX10_canWeigh_19 : decode cX10_canWeigh 19 = .ok (.if_icmp .gt 7, 3) := by decide +kernel
theorem dX10_canWeigh_22 : decode cX10_canWeigh 22 = .ok (.iconst 1, 1) := by decide +kernel
theorem dX10_canWeigh_23 : decode cX10_canWeigh 23 = .ok (.goto 4, 3) := by decide +kernel
theorem dX10_canWeigh_26 : decode cX10_canWeigh 26 = .ok (.iconst 0, 1) := by decide +kernel
theorem dX10_canWeigh_27 : decode cX10_canWeigh 27 = .ok (.istore 6, 2) := by decide +kernel
theorem dX10_canWeigh_29 : decode cX10_canWeigh 29 = .ok (.aload_n 0, 1) := by decide +kernel
theorem dX10_canWeigh_30 : decode cX10_canWeigh 30 = .ok (.getfield 32, 3) := by decide +kernel
theorem dX10_canWeigh_33 : decode cX10_canWeigh 33 = .ok (.iload_n 1, 1) := by decide +kernel
theorem dX10_canWeigh_34 : decode cX10_canWeigh 34 = .ok (.invokevirtual 207, 3) := by decide +kernel
theorem dX10_canWeigh_37 : decode cX10_canWeigh 37 = .ok (.ifCond .eq 30, 3) := by decide +kernel
theorem dX10_canWeigh_40 : decode cX10_canWeigh 40 = .ok (.iload_n 2, 1) := by decide +kernel
theorem dX10_canWeigh_41 : decode cX10_canWeigh 41 = .ok (.invokestatic 270, 3) := by decide +kernel
theorem dX10_canWeigh_44 : decode cX10_canWeigh 44 = .ok (.ifCond .eq 23, 3) := by decide +kernel
theorem dX10_canWeigh_47 : decode cX10_canWeigh 47 = .ok (.iload 6, 2) := by decide +kernel
theorem dX10_canWeigh_49 : decode cX10_canWeigh 49 = .ok (.ifCond .eq 18, 3) := by decide +kernel
theorem dX10_canWeigh_52 : decode cX10_canWeigh 52 = .ok (.iload 5, 2) := by decide +kernel
theorem dX10_canWeigh_54 : decode cX10_canWeigh 54 = .ok (.ifCond .eq 9, 3) := by decide +kernel
theorem dX10_canWeigh_57 : decode cX10_canWeigh 57 = .ok (.iload 5, 2) := by decide +kernel
theorem dX10_canWeigh_59 : decode cX10_canWeigh 59 = .ok (.iconst 1, 1) := by decide +kernel
theorem dX10_canWeigh_60 : decode cX10_canWeigh 60 = .ok (.if_icmp .ne 7, 3) := by decide +kernel
theorem dX10_canWeigh_63 : decode cX10_canWeigh 63 = .ok (.iconst 1, 1) := by decide +kernel
theorem dX10_canWeigh_64 : decode cX10_canWeigh 64 = .ok (.goto 4, 3) := by decide +kernel
theorem dX10_canWeigh_67 : decode cX10_canWeigh 67 = .ok (.iconst 0, 1) := by decide +kernel
theorem dX10_canWeigh_68 : decode cX10_canWeigh 68 = .ok (.ireturn, 1) := by decide +kernel
set_option maxRecDepth 10000 in
theorem vX10_canWeigh_0 {κ : eg_K} {d : Nat} (hd : 1 ≤ d) {post : Int32 → eg_H → Prop} (M : eg_H) (l1 : Int32) (l2 : Int32) (l3 : Int32) (l4 : Int32) (l5 : Int32) (h : (∀ x1 : Int32, x1 = ((if l3 < 0 then (0 : Int32) else (if (99 : Int32) < l3 then (0 : Int32) else (if l4 < 0 then (0 : Int32) else (if (99 : Int32) < l4 then (0 : Int32) else (1 : Int32)))))) → (∃ p2 : Nat, p2 < 2 ∧ M.2.2 (10, 0) 3 = (5, p2) ∧ (gX5_hasPan M p2 l1 ∧ (∀ x5 : Int32, x5 = (fX5_hasPan M p2 l1) → (x5 = 0 → post (0 : Int32) M) ∧ ((¬ x5 = 0) → (∀ x8 : Int32, x8 = (fX10_isLength M l2) → (∀ x9 : Int32, x9 = ((if x8 = 0 then (0 : Int32) else (if x1 = 0 then (0 : Int32) else (if l5 = 0 then (1 : Int32) else (if (¬ l5 = (1 : Int32)) then (0 : Int32) else (1 : Int32)))))) → post x9 M)))))))) : eg_W κ gC mtX10_canWeigh d (eQI κ gC post) 0 [(0, vR (10, 0)), (1, vI l1), (2, vI l2), (3, vI l3), (4, vI l4), (5, vI l5)] [] M := by
  refine eg_iload_n 3 dX10_canWeigh_0 rfl rfl ?_
  have J : ∀ x1 : Int32, x1 = (if l3 < 0 then (0 : Int32) else (if (99 : Int32) < l3 then (0 : Int32) else (if l4 < 0 then (0 : Int32) else (if (99 : Int32) < l4 then (0 : Int32) else (1 : Int32))))) → eg_W κ gC mtX10_canWeigh d (eQI κ gC post) 27 [(0, vR (10, 0)), (1, vI l1), (2, vI l2), (3, vI l3), (4, vI l4), (5, vI l5)] [vI x1] M := by
    intro x1 ex1
    have h := h x1 ex1
    refine eg_istore dX10_canWeigh_27 (by decide) (ls1 := [(6, vI x1), (0, vR (10, 0)), (1, vI l1), (2, vI l2), (3, vI l3), (4, vI l4), (5, vI l5)]) rfl ?_
    refine eg_aload_n 1 dX10_canWeigh_29 rfl rfl ?_
    refine eg_getD dX10_canWeigh_30 fl_10_32 rfl rfl (obC_10 z1) ?_
    obtain ⟨p2, hp2, ep2, h⟩ := h
    rw [ep2]
    refine eg_iload_n 2 dX10_canWeigh_33 rfl rfl ?_
    obtain ⟨g3, h⟩ := h
    refine eg_callVI (av := [vI l1]) (st := []) dX10_canWeigh_34 ml_10_207 rfl rfl (obC_5 hp2) (by decide) rfl (Nat.le_of_ble_eq_true rfl) (eg_dd (by omega)) (sX5_hasPan (by omega) M p2 l1 hp2 g3) (fun x5 M4 hp => ?_)
    obtain ⟨ex5, eM4⟩ := hp
    rw [eM4]
    have h := h x5 ex5
    refine eg_if_eq (tgt := 67) dX10_canWeigh_37 rfl (fun c6 => ?_) (fun c6 => ?_)
    · have h := h.1 c6
      refine eg_iconst dX10_canWeigh_67 ic_0 ?_
      exact eg_zreturn dX10_canWeigh_68 rfl (Or.inl rfl) h
    · have h := h.2 c6
      refine eg_iload_n 3 dX10_canWeigh_40 rfl rfl ?_
      refine eg_callSI (av := [vI l2]) (st := []) dX10_canWeigh_41 ml_10_270 rfl rfl (Nat.le_of_ble_eq_true rfl) (eg_dd (by omega)) (sX10_isLength (by omega) M l2  ) (fun x8 M7 hp => ?_)
      obtain ⟨ex8, eM7⟩ := hp
      rw [eM7]
      have h := h x8 ex8
      have J : ∀ x9 : Int32, x9 = (if x8 = 0 then (0 : Int32) else (if x1 = 0 then (0 : Int32) else (if l5 = 0 then (1 : Int32) else (if (¬ l5 = (1 : Int32)) then (0 : Int32) else (1 : Int32))))) → eg_W κ gC mtX10_canWeigh d (eQI κ gC post) 68 [(6, vI x1), (0, vR (10, 0)), (1, vI l1), (2, vI l2), (3, vI l3), (4, vI l4), (5, vI l5)] [vI x9] M := by
        intro x9 ex9
        have h := h x9 ex9
        exact eg_zreturn dX10_canWeigh_68 rfl (show x9 = 0 ∨ x9 = 1 from by rw [ex9]; exact (eg_zi (Or.inl rfl) (eg_zi (Or.inl rfl) (eg_zi (Or.inr rfl) (eg_zi (Or.inl rfl) (Or.inr rfl)))))) h
      clear h
      refine eg_if_eq (tgt := 67) dX10_canWeigh_44 rfl (fun c10 => ?_) (fun c10 => ?_)
      · refine eg_iconst dX10_canWeigh_67 ic_0 ?_
        exact J _ (by rw [if_pos c10])
      · refine eg_iload 0 dX10_canWeigh_47 rfl ?_
        refine eg_if_eq (tgt := 67) dX10_canWeigh_49 rfl (fun c11 => ?_) (fun c11 => ?_)
        · refine eg_iconst dX10_canWeigh_67 ic_0 ?_
          exact J _ (by rw [if_neg c10, if_pos c11])
        · refine eg_iload 6 dX10_canWeigh_52 rfl ?_
          refine eg_if_eq (tgt := 63) dX10_canWeigh_54 rfl (fun c12 => ?_) (fun c12 => ?_)
          · refine eg_iconst dX10_canWeigh_63 ic_1 ?_
            refine eg_goto (tgt := 68) dX10_canWeigh_64 rfl ?_
            exact J _ (by rw [if_neg c10, if_neg c11, if_pos c12])
          · refine eg_iload 6 dX10_canWeigh_57 rfl ?_
            refine eg_iconst dX10_canWeigh_59 ic_1 ?_
            refine eg_icmp_ne (tgt := 67) dX10_canWeigh_60 rfl (fun c13 => ?_) (fun c13 => ?_)
            · refine eg_iconst dX10_canWeigh_67 ic_0 ?_
              exact J _ (by rw [if_neg c10, if_neg c11, if_neg c12, if_pos c13])
            · have c14 : ¬ (¬ l5 = (1 : Int32)) := fun z => z c13
              refine eg_iconst dX10_canWeigh_63 ic_1 ?_
              refine eg_goto (tgt := 68) dX10_canWeigh_64 rfl ?_
              exact J _ (by rw [if_neg c10, if_neg c11, if_neg c12, if_neg c14])
  clear h
  refine eg_if_lt (tgt := 26) dX10_canWeigh_1 rfl (fun c15 => ?_) (fun c15 => ?_)
  · refine eg_iconst dX10_canWeigh_26 ic_0 ?_
    exact J _ (by rw [if_pos c15])
  · refine eg_iload_n 3 dX10_canWeigh_4 rfl rfl ?_
    refine eg_bipush dX10_canWeigh_5 bp_99 ?_
    refine eg_icmp_gt (tgt := 26) dX10_canWeigh_7 rfl (fun c16 => ?_) (fun c16 => ?_)
    · refine eg_iconst dX10_canWeigh_26 ic_0 ?_
      exact J _ (by rw [if_neg c15, if_pos c16])
    · refine eg_iload 4 dX10_canWeigh_10 rfl ?_
      refine eg_if_lt (tgt := 26) dX10_canWeigh_12 rfl (fun c17 => ?_) (fun c17 => ?_)
      · refine eg_iconst dX10_canWeigh_26 ic_0 ?_
        exact J _ (by rw [if_neg c15, if_neg c16, if_pos c17])
      · refine eg_iload 4 dX10_canWeigh_15 rfl ?_
        refine eg_bipush dX10_canWeigh_17 bp_99 ?_
        refine eg_icmp_gt (tgt := 26) dX10_canWeigh_19 rfl (fun c18 => ?_) (fun c18 => ?_)
        · refine eg_iconst dX10_canWeigh_26 ic_0 ?_
          exact J _ (by rw [if_neg c15, if_neg c16, if_neg c17, if_pos c18])
        · refine eg_iconst dX10_canWeigh_22 ic_1 ?_
          refine eg_goto (tgt := 27) dX10_canWeigh_23 rfl ?_
          exact J _ (by rw [if_neg c15, if_neg c16, if_neg c17, if_neg c18])
theorem dX10_cheapest_0 : decode cX10_cheapest 0 = .ok (.aload_n 0, 1) := by decide +kernel
theorem dX10_cheapest_1 : decode cX10_cheapest 1 = .ok (.getfield 36, 3) := by decide +kernel
theorem dX10_cheapest_4 : decode cX10_cheapest 4 = .ok (.aload_n 0, 1) := by decide +kernel
theorem dX10_cheapest_5 : decode cX10_cheapest 5 = .ok (.getfield 32, 3) := by decide +kernel
theorem dX10_cheapest_8 : decode cX10_cheapest 8 = .ok (.invokevirtual 283, 3) := by decide +kernel
theorem dX10_cheapest_11 : decode cX10_cheapest 11 = .ok (.aload_n 0, 1) := by decide +kernel
theorem dX10_cheapest_12 : decode cX10_cheapest 12 = .ok (.getfield 36, 3) := by decide +kernel
theorem dX10_cheapest_15 : decode cX10_cheapest 15 = .ok (.getfield 195, 3) := by decide +kernel
theorem dX10_cheapest_18 : decode cX10_cheapest 18 = .ok (.iload_n 1, 1) := by decide +kernel
theorem dX10_cheapest_19 : decode cX10_cheapest 19 = .ok (.aaload, 1) := by decide +kernel
theorem dX10_cheapest_20 : decode cX10_cheapest 20 = .ok (.astore 7, 2) := by decide +kernel
theorem dX10_cheapest_22 : decode cX10_cheapest 22 = .ok (.aload_n 0, 1) := by decide +kernel
theorem dX10_cheapest_23 : decode cX10_cheapest 23 = .ok (.getfield 69, 3) := by decide +kernel
theorem dX10_cheapest_26 : decode cX10_cheapest 26 = .ok (.getfield 191, 3) := by decide +kernel
theorem dX10_cheapest_29 : decode cX10_cheapest 29 = .ok (.iload_n 1, 1) := by decide +kernel
theorem dX10_cheapest_30 : decode cX10_cheapest 30 = .ok (.aaload, 1) := by decide +kernel
theorem dX10_cheapest_31 : decode cX10_cheapest 31 = .ok (.astore 8, 2) := by decide +kernel
theorem dX10_cheapest_33 : decode cX10_cheapest 33 = .ok (.iconst (-1), 1) := by decide +kernel
theorem dX10_cheapest_34 : decode cX10_cheapest 34 = .ok (.istore 9, 2) := by decide +kernel
theorem dX10_cheapest_36 : decode cX10_cheapest 36 = .ok (.iconst (-1), 1) := by decide +kernel
theorem dX10_cheapest_37 : decode cX10_cheapest 37 = .ok (.istore 10, 2) := by decide +kernel
theorem dX10_cheapest_39 : decode cX10_cheapest 39 = .ok (.iload 6, 2) := by decide +kernel
theorem dX10_cheapest_41 : decode cX10_cheapest 41 = .ok (.ifCond .eq 8, 3) := by decide +kernel
theorem dX10_cheapest_44 : decode cX10_cheapest 44 = .ok (.bipush 59, 2) := by decide +kernel
theorem dX10_cheapest_46 : decode cX10_cheapest 46 = .ok (.goto 5, 3) := by decide +kernel
theorem dX10_cheapest_49 : decode cX10_cheapest 49 = .ok (.bipush 60, 2) := by decide +kernel
theorem dX10_cheapest_51 : decode cX10_cheapest 51 = .ok (.istore 11, 2) := by decide +kernel
theorem dX10_cheapest_53 : decode cX10_cheapest 53 = .ok (.iload 6, 2) := by decide +kernel
theorem dX10_cheapest_55 : decode cX10_cheapest 55 = .ok (.ifCond .eq 7, 3) := by decide +kernel
theorem dX10_cheapest_58 : decode cX10_cheapest 58 = .ok (.iconst 0, 1) := by decide +kernel
theorem dX10_cheapest_59 : decode cX10_cheapest 59 = .ok (.goto 4, 3) := by decide +kernel
theorem dX10_cheapest_62 : decode cX10_cheapest 62 = .ok (.iconst 1, 1) := by decide +kernel
theorem dX10_cheapest_63 : decode cX10_cheapest 63 = .ok (.istore 12, 2) := by decide +kernel
theorem dX10_cheapest_65 : decode cX10_cheapest 65 = .ok (.iload 12, 2) := by decide +kernel
theorem dX10_cheapest_67 : decode cX10_cheapest 67 = .ok (.iload 11, 2) := by decide +kernel
theorem dX10_cheapest_69 : decode cX10_cheapest 69 = .ok (.if_icmp .gt 114, 3) := by decide +kernel
theorem dX10_cheapest_72 : decode cX10_cheapest 72 = .ok (.aload 7, 2) := by decide +kernel
theorem dX10_cheapest_74 : decode cX10_cheapest 74 = .ok (.iload 6, 2) := by decide +kernel
theorem dX10_cheapest_76 : decode cX10_cheapest 76 = .ok (.ifCond .eq 8, 3) := by decide +kernel
theorem dX10_cheapest_79 : decode cX10_cheapest 79 = .ok (.iload 12, 2) := by decide +kernel
theorem dX10_cheapest_81 : decode cX10_cheapest 81 = .ok (.goto 8, 3) := by decide +kernel
theorem dX10_cheapest_84 : decode cX10_cheapest 84 = .ok (.aload 7, 2) := by decide +kernel
theorem dX10_cheapest_86 : decode cX10_cheapest 86 = .ok (.getfield 334, 3) := by decide +kernel
theorem dX10_cheapest_89 : decode cX10_cheapest 89 = .ok (.putfield 334, 3) := by decide +kernel
theorem dX10_cheapest_92 : decode cX10_cheapest 92 = .ok (.aload 7, 2) := by decide +kernel
theorem dX10_cheapest_94 : decode cX10_cheapest 94 = .ok (.iload 6, 2) := by decide +kernel
theorem dX10_cheapest_96 : decode cX10_cheapest 96 = .ok (.ifCond .eq 11, 3) := by decide +kernel
theorem dX10_cheapest_99 : decode cX10_cheapest 99 = .ok (.aload 7, 2) := by decide +kernel
theorem dX10_cheapest_101 : decode cX10_cheapest 101 = .ok (.getfield 337, 3) := by decide +kernel
theorem dX10_cheapest_104 : decode cX10_cheapest 104 = .ok (.goto 5, 3) := by decide +kernel
theorem dX10_cheapest_107 : decode cX10_cheapest 107 = .ok (.iload 12, 2) := by decide +kernel
theorem dX10_cheapest_109 : decode cX10_cheapest 109 = .ok (.putfield 337, 3) := by decide +kernel
theorem dX10_cheapest_112 : decode cX10_cheapest 112 = .ok (.aload_n 0, 1) := by decide +kernel
theorem dX10_cheapest_113 : decode cX10_cheapest 113 = .ok (.getfield 69, 3) := by decide +kernel
theorem dX10_cheapest_116 : decode cX10_cheapest 116 = .ok (.aload_n 0, 1) := by decide +kernel
theorem dX10_cheapest_117 : decode cX10_cheapest 117 = .ok (.getfield 36, 3) := by decide +kernel
theorem dX10_cheapest_120 : decode cX10_cheapest 120 = .ok (.aload_n 0, 1) := by decide +kernel
theorem dX10_cheapest_121 : decode cX10_cheapest 121 = .ok (.getfield 65, 3) := by decide +kernel
theorem dX10_cheapest_124 : decode cX10_cheapest 124 = .ok (.getfield 234, 3) := by decide +kernel
theorem dX10_cheapest_127 : decode cX10_cheapest 127 = .ok (.invokevirtual 106, 3) := by decide +kernel
theorem dX10_cheapest_130 : decode cX10_cheapest 130 = .ok (.aload_n 0, 1) := by decide +kernel
theorem dX10_cheapest_131 : decode cX10_cheapest 131 = .ok (.getfield 69, 3) := by decide +kernel
theorem dX10_cheapest_134 : decode cX10_cheapest 134 = .ok (.iload_n 2, 1) := by decide +kernel
theorem dX10_cheapest_135 : decode cX10_cheapest 135 = .ok (.invokevirtual 246, 3) := by decide +kernel
theorem dX10_cheapest_138 : decode cX10_cheapest 138 = .ok (.iload_n 3, 1) := by decide +kernel
theorem dX10_cheapest_139 : decode cX10_cheapest 139 = .ok (.aload 8, 2) := by decide +kernel
theorem dX10_cheapest_141 : decode cX10_cheapest 141 = .ok (.getfield 225, 3) := by decide +kernel
theorem dX10_cheapest_144 : decode cX10_cheapest 144 = .ok (.imul, 1) := by decide +kernel
theorem dX10_cheapest_145 : decode cX10_cheapest 145 = .ok (.iload 4, 2) := by decide +kernel
theorem dX10_cheapest_147 : decode cX10_cheapest 147 = .ok (.aload 8, 2) := by decide +kernel
theorem dX10_cheapest_149 : decode cX10_cheapest 149 = .ok (.getfield 210, 3) := by decide +kernel
theorem dX10_cheapest_152 : decode cX10_cheapest 152 = .ok (.imul, 1) := by decide +kernel
theorem dX10_cheapest_153 : decode cX10_cheapest 153 = .ok (.iadd, 1) := by decide +kernel
theorem dX10_cheapest_154 : decode cX10_cheapest 154 = .ok (.istore 13, 2) := by decide +kernel
theorem dX10_cheapest_156 : decode cX10_cheapest 156 = .ok (.iload 9, 2) := by decide +kernel
theorem dX10_cheapest_158 : decode cX10_cheapest 158 = .ok (.iconst (-1), 1) := by decide +kernel
theorem dX10_cheapest_159 : decode cX10_cheapest 159 = .ok (.if_icmp .eq 10, 3) := by decide +kernel
theorem dX10_cheapest_162 : decode cX10_cheapest 162 = .ok (.iload 13, 2) := by decide +kernel
theorem dX10_cheapest_164 : decode cX10_cheapest 164 = .ok (.iload 9, 2) := by decide +kernel
theorem dX10_cheapest_166 : decode cX10_cheapest 166 = .ok (.if_icmp .ge 11, 3) := by decide +kernel
theorem dX10_cheapest_169 : decode cX10_cheapest 169 = .ok (.iload 13, 2) := by decide +kernel
theorem dX10_cheapest_171 : decode cX10_cheapest 171 = .ok (.istore 9, 2) := by decide +kernel
theorem dX10_cheapest_173 : decode cX10_cheapest 173 = .ok (.iload 12, 2) := by decide +kernel
theorem dX10_cheapest_175 : decode cX10_cheapest 175 = .ok (.istore 10, 2) := by decide +kernel
theorem dX10_cheapest_177 : decode cX10_cheapest 177 = .ok (.iinc 12 1, 3) := by decide +kernel
theorem dX10_cheapest_180 : decode cX10_cheapest 180 = .ok (.goto (-115), 3) := by decide +kernel
theorem dX10_cheapest_183 : decode cX10_cheapest 183 = .ok (.iload 5, 2) := by decide +kernel
theorem dX10_cheapest_185 : decode cX10_cheapest 185 = .ok (.ifCond .ne 8, 3) := by decide +kernel
theorem dX10_cheapest_188 : decode cX10_cheapest 188 = .ok (.iload 10, 2) := by decide +kernel
theorem dX10_cheapest_190 : decode cX10_cheapest 190 = .ok (.goto 5, 3) := by decide +kernel
theorem dX10_cheapest_193 : decode cX10_cheapest 193 = .ok (.iload 9, 2) := by decide +kernel
theorem dX10_cheapest_195 : decode cX10_cheapest 195 = .ok (.ireturn, 1) := by decide +kernel
set_option maxRecDepth 10000 in
theorem vX10_cheapest_0 {κ : eg_K} {d : Nat} (hd : 1 ≤ d) {post : Int32 → eg_H → Prop} (M : eg_H) (l1 : Int32) (l2 : Int32) (l3 : Int32) (l4 : Int32) (l5 : Int32) (l6 : Int32) (h : (∃ p1 : Nat, p1 < 2 ∧ M.2.2 (10, 0) 4 = (5, p1) ∧ (∃ p2 : Nat, p2 < 2 ∧ M.2.2 (10, 0) 3 = (5, p2) ∧ eCV κ gC mtX5_copyFrom d [vR (5, p1), vR (5, p2)] M (fun M3 => (∃ p5 : Nat, p5 < 2 ∧ M3.2.2 (10, 0) 4 = (5, p5) ∧ (vp_in l1 5 ∧ (∀ x7 : Int32, x7 = ((if l6 = 0 then (60 : Int32) else (59 : Int32))) → (∀ x8 : Int32, x8 = ((if l6 = 0 then (1 : Int32) else (0 : Int32))) → eg_W κ gC mtX10_cheapest d (eQI κ gC post) 65 [(0, vR (10, 0)), (2, vI l2), (3, vI l3), (4, vI l4), (5, vI l5), (6, vI l6), (7, vR (1, 5 * p5 + l1.toNatClampNeg)), (8, vR (4, 5 * 1 + l1.toNatClampNeg)), (9, vI (-1 : Int32)), (10, vI (-1 : Int32)), (11, vI x7), (12, vI x8)] [] M3)))))))) : eg_W κ gC mtX10_cheapest d (eQI κ gC post) 0 [(0, vR (10, 0)), (1, vI l1), (2, vI l2), (3, vI l3), (4, vI l4), (5, vI l5), (6, vI l6)] [] M := by
  refine eg_aload_n 0 dX10_cheapest_0 rfl rfl ?_
  refine eg_getD dX10_cheapest_1 fl_10_36 rfl rfl (obC_10 z1) ?_
  obtain ⟨p1, hp1, ep1, h⟩ := h
  rw [ep1]
  refine eg_aload_n 0 dX10_cheapest_4 rfl rfl ?_
  refine eg_getD dX10_cheapest_5 fl_10_32 rfl rfl (obC_10 z1) ?_
  obtain ⟨p2, hp2, ep2, h⟩ := h
  rw [ep2]
  obtain ⟨q4, hq4, h⟩ := h
  refine eg_callVV (av := [vR (5, p2)]) (st := []) dX10_cheapest_8 ml_10_283 rfl rfl (obC_5 hp1) (by decide) rfl (Nat.le_of_ble_eq_true rfl) (eg_dd (by omega)) hq4 (fun M3 hp => ?_)
  have h := h M3 hp
  refine eg_aload_n 0 dX10_cheapest_11 rfl rfl ?_
  refine eg_getD dX10_cheapest_12 fl_10_36 rfl rfl (obC_10 z1) ?_
  obtain ⟨p5, hp5, ep5, h⟩ := h
  rw [ep5]
  refine eg_getR dX10_cheapest_15 fl_10_195 rfl rfl (obC_5 hp5) ?_
  show eg_W κ gC mtX10_cheapest d (eQI κ gC post) 18 [(0, vR (10, 0)), (1, vI l1), (2, vI l2), (3, vI l3), (4, vI l4), (5, vI l5), (6, vI l6)] [vR (30, p5)] M3
  refine eg_iload_n 1 dX10_cheapest_18 rfl rfl ?_
  obtain ⟨g6, h⟩ := h
  refine eg_aaload4 dX10_cheapest_19 (arC_30 hp5 g6) ?_
  show eg_W κ gC mtX10_cheapest d (eQI κ gC post) 20 [(0, vR (10, 0)), (1, vI l1), (2, vI l2), (3, vI l3), (4, vI l4), (5, vI l5), (6, vI l6)] [vR (1, 5 * p5 + l1.toNatClampNeg)] M3
  refine eg_astore dX10_cheapest_20 (by decide) (ls1 := [(7, vR (1, 5 * p5 + l1.toNatClampNeg)), (0, vR (10, 0)), (1, vI l1), (2, vI l2), (3, vI l3), (4, vI l4), (5, vI l5), (6, vI l6)]) rfl ?_
  refine eg_aload_n 1 dX10_cheapest_22 rfl rfl ?_
  refine eg_getR dX10_cheapest_23 fl_10_69 rfl rfl (obC_10 z1) ?_
  show eg_W κ gC mtX10_cheapest d (eQI κ gC post) 26 [(7, vR (1, 5 * p5 + l1.toNatClampNeg)), (0, vR (10, 0)), (1, vI l1), (2, vI l2), (3, vI l3), (4, vI l4), (5, vI l5), (6, vI l6)] [vR (7, 1)] M3
  refine eg_getR dX10_cheapest_26 fl_10_191 rfl rfl (obC_7 (by decide : 1 < 4)) ?_
  show eg_W κ gC mtX10_cheapest d (eQI κ gC post) 29 [(7, vR (1, 5 * p5 + l1.toNatClampNeg)), (0, vR (10, 0)), (1, vI l1), (2, vI l2), (3, vI l3), (4, vI l4), (5, vI l5), (6, vI l6)] [vR (41, 1)] M3
  refine eg_iload_n 2 dX10_cheapest_29 rfl rfl ?_
  refine eg_aaload6 dX10_cheapest_30 (arC_41 (by decide : 1 < 4) g6) ?_
  show eg_W κ gC mtX10_cheapest d (eQI κ gC post) 31 [(7, vR (1, 5 * p5 + l1.toNatClampNeg)), (0, vR (10, 0)), (1, vI l1), (2, vI l2), (3, vI l3), (4, vI l4), (5, vI l5), (6, vI l6)] [vR (4, 5 * 1 + l1.toNatClampNeg)] M3
  refine eg_astore dX10_cheapest_31 (by decide) (ls1 := [(8, vR (4, 5 * 1 + l1.toNatClampNeg)), (7, vR (1, 5 * p5 + l1.toNatClampNeg)), (0, vR (10, 0)), (1, vI l1), (2, vI l2), (3, vI l3), (4, vI l4), (5, vI l5), (6, vI l6)]) rfl ?_
  refine eg_iconst dX10_cheapest_33 ic_m1 ?_
  refine eg_istore dX10_cheapest_34 (by decide) (ls1 := [(9, vI (-1 : Int32)), (8, vR (4, 5 * 1 + l1.toNatClampNeg)), (7, vR (1, 5 * p5 + l1.toNatClampNeg)), (0, vR (10, 0)), (1, vI l1), (2, vI l2), (3, vI l3), (4, vI l4), (5, vI l5), (6, vI l6)]) rfl ?_
  refine eg_iconst dX10_cheapest_36 ic_m1 ?_
  refine eg_istore dX10_cheapest_37 (by decide) (ls1 := [(10, vI (-1 : Int32)), (9, vI (-1 : Int32)), (8, vR (4, 5 * 1 + l1.toNatClampNeg)), (7, vR (1, 5 * p5 + l1.toNatClampNeg)), (0, vR (10, 0)), (1, vI l1), (2, vI l2), (3, vI l3), (4, vI l4), (5, vI l5), (6, vI l6)]) rfl ?_
  refine eg_iload 10 dX10_cheapest_39 rfl ?_
  have J : ∀ x7 : Int32, x7 = (if l6 = 0 then (60 : Int32) else (59 : Int32)) → eg_W κ gC mtX10_cheapest d (eQI κ gC post) 51 [(10, vI (-1 : Int32)), (9, vI (-1 : Int32)), (8, vR (4, 5 * 1 + l1.toNatClampNeg)), (7, vR (1, 5 * p5 + l1.toNatClampNeg)), (0, vR (10, 0)), (1, vI l1), (2, vI l2), (3, vI l3), (4, vI l4), (5, vI l5), (6, vI l6)] [vI x7] M3 := by
    intro x7 ex7
    have h := h x7 ex7
    refine eg_istore dX10_cheapest_51 (by decide) (ls1 := [(11, vI x7), (10, vI (-1 : Int32)), (9, vI (-1 : Int32)), (8, vR (4, 5 * 1 + l1.toNatClampNeg)), (7, vR (1, 5 * p5 + l1.toNatClampNeg)), (0, vR (10, 0)), (1, vI l1), (2, vI l2), (3, vI l3), (4, vI l4), (5, vI l5), (6, vI l6)]) rfl ?_
    refine eg_iload 11 dX10_cheapest_53 rfl ?_
    have J : ∀ x8 : Int32, x8 = (if l6 = 0 then (1 : Int32) else (0 : Int32)) → eg_W κ gC mtX10_cheapest d (eQI κ gC post) 63 [(11, vI x7), (10, vI (-1 : Int32)), (9, vI (-1 : Int32)), (8, vR (4, 5 * 1 + l1.toNatClampNeg)), (7, vR (1, 5 * p5 + l1.toNatClampNeg)), (0, vR (10, 0)), (1, vI l1), (2, vI l2), (3, vI l3), (4, vI l4), (5, vI l5), (6, vI l6)] [vI x8] M3 := by
      intro x8 ex8
      have h := h x8 ex8
      refine eg_istore dX10_cheapest_63 (by decide) (ls1 := [(12, vI x8), (11, vI x7), (10, vI (-1 : Int32)), (9, vI (-1 : Int32)), (8, vR (4, 5 * 1 + l1.toNatClampNeg)), (7, vR (1, 5 * p5 + l1.toNatClampNeg)), (0, vR (10, 0)), (1, vI l1), (2, vI l2), (3, vI l3), (4, vI l4), (5, vI l5), (6, vI l6)]) rfl ?_
      refine eg_sub [6, 8, 9, 10, 11, 12, 5, 4, 3, 2, 1, 0] rfl ?_
      exact h
    clear h
    refine eg_if_eq (tgt := 62) dX10_cheapest_55 rfl (fun c9 => ?_) (fun c9 => ?_)
    · refine eg_iconst dX10_cheapest_62 ic_1 ?_
      exact J _ (by rw [if_pos c9])
    · refine eg_iconst dX10_cheapest_58 ic_0 ?_
      refine eg_goto (tgt := 63) dX10_cheapest_59 rfl ?_
      exact J _ (by rw [if_neg c9])
  clear h
  refine eg_if_eq (tgt := 49) dX10_cheapest_41 rfl (fun c10 => ?_) (fun c10 => ?_)
  · refine eg_bipush dX10_cheapest_49 bp_60 ?_
    exact J _ (by rw [if_pos c10])
  · refine eg_bipush dX10_cheapest_44 bp_59 ?_
    refine eg_goto (tgt := 51) dX10_cheapest_46 rfl ?_
    exact J _ (by rw [if_neg c10])
set_option maxRecDepth 10000 in
theorem vX10_cheapest_65 {κ : eg_K} {d : Nat} (hd : 1 ≤ d) {post : Int32 → eg_H → Prop} (M : eg_H) (l2 : Int32) (l3 : Int32) (l4 : Int32) (l5 : Int32) (l6 : Int32) {l7 : Nat} (hl7 : l7 < 10) {l8 : Nat} (hl8 : l8 < 20) (l9 : Int32) (l10 : Int32) (l11 : Int32) (l12 : Int32) (h : (l11 < l12 → (∀ x2 : Int32, x2 = ((if (¬ l5 = 0) then l9 else l10)) → post x2 M)) ∧ ((¬ l11 < l12) → (∀ x5 : Int32, x5 = ((if l6 = 0 then (M.1 (1, l7) 5) else l12)) → (∀ M6 : eg_H, M6 = (sI M (1, l7) 5 x5) → (∀ x7 : Int32, x7 = ((if l6 = 0 then l12 else (M6.1 (1, l7) 3))) → (∀ M8 : eg_H, M8 = (sI M6 (1, l7) 3 x7) → (∃ p9 : Nat, p9 < 2 ∧ M8.2.2 (10, 0) 4 = (5, p9) ∧ eCV κ gC mtX7_begin d [vR (7, 1), vR (5, p9), vR (40, 0)] M8 (fun M10 => eCV κ gC mtX7_go d [vR (7, 1), vI l2] M10 (fun M12 => (∀ x14 : Int32, x14 = ((l3 * (M12.1 (4, l8) 5)) + (l4 * (M12.1 (4, l8) 0))) → (l9 = (-1 : Int32) → (∀ x16 : Int32, x16 = (l12 + (1 : Int32)) → eg_W κ gC mtX10_cheapest d (eQI κ gC post) 65 [(0, vR (10, 0)), (2, vI l2), (3, vI l3), (4, vI l4), (5, vI l5), (6, vI l6), (7, vR (1, l7)), (8, vR (4, l8)), (9, vI x14), (10, vI l12), (11, vI l11), (12, vI x16)] [] M12)) ∧ ((¬ l9 = (-1 : Int32)) → (l9 ≤ x14 → (∀ x18 : Int32, x18 = (l12 + (1 : Int32)) → eg_W κ gC mtX10_cheapest d (eQI κ gC post) 65 [(0, vR (10, 0)), (2, vI l2), (3, vI l3), (4, vI l4), (5, vI l5), (6, vI l6), (7, vR (1, l7)), (8, vR (4, l8)), (9, vI l9), (10, vI l10), (11, vI l11), (12, vI x18)] [] M12)) ∧ ((¬ l9 ≤ x14) → (∀ x19 : Int32, x19 = (l12 + (1 : Int32)) → eg_W κ gC mtX10_cheapest d (eQI κ gC post) 65 [(0, vR (10, 0)), (2, vI l2), (3, vI l3), (4, vI l4), (5, vI l5), (6, vI l6), (7, vR (1, l7)), (8, vR (4, l8)), (9, vI x14), (10, vI l12), (11, vI l11), (12, vI x19)] [] M12))))))))))))) : eg_W κ gC mtX10_cheapest d (eQI κ gC post) 65 [(0, vR (10, 0)), (2, vI l2), (3, vI l3), (4, vI l4), (5, vI l5), (6, vI l6), (7, vR (1, l7)), (8, vR (4, l8)), (9, vI l9), (10, vI l10), (11, vI l11), (12, vI l12)] [] M := by
  refine eg_iload 11 dX10_cheapest_65 rfl ?_
  refine eg_iload 10 dX10_cheapest_67 rfl ?_
  refine eg_icmp_gt (tgt := 183) dX10_cheapest_69 rfl (fun c1 => ?_) (fun c1 => ?_)
  · have h := h.1 c1
    refine eg_iload 4 dX10_cheapest_183 rfl ?_
    have J : ∀ x2 : Int32, x2 = (if (¬ l5 = 0) then l9 else l10) → eg_W κ gC mtX10_cheapest d (eQI κ gC post) 195 [(0, vR (10, 0)), (2, vI l2), (3, vI l3), (4, vI l4), (5, vI l5), (6, vI l6), (7, vR (1, l7)), (8, vR (4, l8)), (9, vI l9), (10, vI l10), (11, vI l11), (12, vI l12)] [vI x2] M := by
      intro x2 ex2
      have h := h x2 ex2
      exact eg_ireturn dX10_cheapest_195 rfl h
    clear h
    refine eg_if_ne (tgt := 193) dX10_cheapest_185 rfl (fun c3 => ?_) (fun c3 => ?_)
    · refine eg_iload 8 dX10_cheapest_193 rfl ?_
      exact J _ (by rw [if_pos c3])
    · have c4 : ¬ (¬ l5 = 0) := fun z => z c3
      refine eg_iload 9 dX10_cheapest_188 rfl ?_
      refine eg_goto (tgt := 195) dX10_cheapest_190 rfl ?_
      exact J _ (by rw [if_neg c4])
  · have h := h.2 c1
    refine eg_aload 6 dX10_cheapest_72 rfl ?_
    refine eg_iload 5 dX10_cheapest_74 rfl ?_
    have J : ∀ x5 : Int32, x5 = (if l6 = 0 then (M.1 (1, l7) 5) else l12) → eg_W κ gC mtX10_cheapest d (eQI κ gC post) 89 [(0, vR (10, 0)), (2, vI l2), (3, vI l3), (4, vI l4), (5, vI l5), (6, vI l6), (7, vR (1, l7)), (8, vR (4, l8)), (9, vI l9), (10, vI l10), (11, vI l11), (12, vI l12)] [vI x5, vR (1, l7)] M := by
      intro x5 ex5
      have h := h x5 ex5
      refine en_putI dX10_cheapest_89 fl_10_334 rfl rfl (obC_1 hl7) (fun M6 eM6 => ?_)
      have h := h M6 eM6
      refine eg_aload 6 dX10_cheapest_92 rfl ?_
      refine eg_iload 5 dX10_cheapest_94 rfl ?_
      have J : ∀ x7 : Int32, x7 = (if l6 = 0 then l12 else (M6.1 (1, l7) 3)) → eg_W κ gC mtX10_cheapest d (eQI κ gC post) 109 [(0, vR (10, 0)), (2, vI l2), (3, vI l3), (4, vI l4), (5, vI l5), (6, vI l6), (7, vR (1, l7)), (8, vR (4, l8)), (9, vI l9), (10, vI l10), (11, vI l11), (12, vI l12)] [vI x7, vR (1, l7)] M6 := by
        intro x7 ex7
        have h := h x7 ex7
        refine en_putI dX10_cheapest_109 fl_10_337 rfl rfl (obC_1 hl7) (fun M8 eM8 => ?_)
        have h := h M8 eM8
        refine eg_aload_n 0 dX10_cheapest_112 rfl rfl ?_
        refine eg_getR dX10_cheapest_113 fl_10_69 rfl rfl (obC_10 z1) ?_
        show eg_W κ gC mtX10_cheapest d (eQI κ gC post) 116 [(0, vR (10, 0)), (2, vI l2), (3, vI l3), (4, vI l4), (5, vI l5), (6, vI l6), (7, vR (1, l7)), (8, vR (4, l8)), (9, vI l9), (10, vI l10), (11, vI l11), (12, vI l12)] [vR (7, 1)] M8
        refine eg_aload_n 0 dX10_cheapest_116 rfl rfl ?_
        refine eg_getD dX10_cheapest_117 fl_10_36 rfl rfl (obC_10 z1) ?_
        obtain ⟨p9, hp9, ep9, h⟩ := h
        rw [ep9]
        refine eg_aload_n 0 dX10_cheapest_120 rfl rfl ?_
        refine eg_getR dX10_cheapest_121 fl_10_65 rfl rfl (obC_10 z1) ?_
        show eg_W κ gC mtX10_cheapest d (eQI κ gC post) 124 [(0, vR (10, 0)), (2, vI l2), (3, vI l3), (4, vI l4), (5, vI l5), (6, vI l6), (7, vR (1, l7)), (8, vR (4, l8)), (9, vI l9), (10, vI l10), (11, vI l11), (12, vI l12)] [vR (7, 0), vR (5, p9), vR (7, 1)] M8
        refine eg_getR dX10_cheapest_124 fl_10_234 rfl rfl (obC_7 (by decide : 0 < 4)) ?_
        show eg_W κ gC mtX10_cheapest d (eQI κ gC post) 127 [(0, vR (10, 0)), (2, vI l2), (3, vI l3), (4, vI l4), (5, vI l5), (6, vI l6), (7, vR (1, l7)), (8, vR (4, l8)), (9, vI l9), (10, vI l10), (11, vI l11), (12, vI l12)] [vR (40, 0), vR (5, p9), vR (7, 1)] M8
        obtain ⟨q11, hq11, h⟩ := h
        refine eg_callVV (av := [vR (5, p9), vR (40, 0)]) (st := []) dX10_cheapest_127 ml_10_106 rfl rfl (obC_7 (by decide : 1 < 4)) (by decide) rfl (Nat.le_of_ble_eq_true rfl) (eg_dd (by omega)) hq11 (fun M10 hp => ?_)
        have h := h M10 hp
        refine eg_aload_n 0 dX10_cheapest_130 rfl rfl ?_
        refine eg_getR dX10_cheapest_131 fl_10_69 rfl rfl (obC_10 z1) ?_
        show eg_W κ gC mtX10_cheapest d (eQI κ gC post) 134 [(0, vR (10, 0)), (2, vI l2), (3, vI l3), (4, vI l4), (5, vI l5), (6, vI l6), (7, vR (1, l7)), (8, vR (4, l8)), (9, vI l9), (10, vI l10), (11, vI l11), (12, vI l12)] [vR (7, 1)] M10
        refine eg_iload_n 1 dX10_cheapest_134 rfl rfl ?_
        obtain ⟨q13, hq13, h⟩ := h
        refine eg_callVV (av := [vI l2]) (st := []) dX10_cheapest_135 ml_10_246 rfl rfl (obC_7 (by decide : 1 < 4)) (by decide) rfl (Nat.le_of_ble_eq_true rfl) (eg_dd (by omega)) hq13 (fun M12 hp => ?_)
        have h := h M12 hp
        refine eg_iload_n 2 dX10_cheapest_138 rfl rfl ?_
        refine eg_aload 7 dX10_cheapest_139 rfl ?_
        refine eg_getI dX10_cheapest_141 fl_10_225 rfl trivial (obC_4 hl8) ?_
        refine eg_imul dX10_cheapest_144 ?_
        refine eg_iload 3 dX10_cheapest_145 rfl ?_
        refine eg_aload 7 dX10_cheapest_147 rfl ?_
        refine eg_getI dX10_cheapest_149 fl_10_210 rfl trivial (obC_4 hl8) ?_
        refine eg_imul dX10_cheapest_152 ?_
        refine eg_iadd dX10_cheapest_153 ?_
        refine en_istore (f := fun x14 => [(13, vI x14), (0, vR (10, 0)), (2, vI l2), (3, vI l3), (4, vI l4), (5, vI l5), (6, vI l6), (7, vR (1, l7)), (8, vR (4, l8)), (9, vI l9), (10, vI l10), (11, vI l11), (12, vI l12)]) dX10_cheapest_154 (by decide) rfl (fun x14 ex14 => ?_)
        have h := h x14 ex14
        refine eg_iload 9 dX10_cheapest_156 rfl ?_
        refine eg_iconst dX10_cheapest_158 ic_m1 ?_
        refine eg_icmp_eq (tgt := 169) dX10_cheapest_159 rfl (fun c15 => ?_) (fun c15 => ?_)
        · have h := h.1 c15
          refine eg_iload 0 dX10_cheapest_169 rfl ?_
          refine eg_istore dX10_cheapest_171 (by decide) (ls1 := [(9, vI x14), (13, vI x14), (0, vR (10, 0)), (2, vI l2), (3, vI l3), (4, vI l4), (5, vI l5), (6, vI l6), (7, vR (1, l7)), (8, vR (4, l8)), (10, vI l10), (11, vI l11), (12, vI l12)]) rfl ?_
          refine eg_iload 12 dX10_cheapest_173 rfl ?_
          refine eg_istore dX10_cheapest_175 (by decide) (ls1 := [(10, vI l12), (9, vI x14), (13, vI x14), (0, vR (10, 0)), (2, vI l2), (3, vI l3), (4, vI l4), (5, vI l5), (6, vI l6), (7, vR (1, l7)), (8, vR (4, l8)), (11, vI l11), (12, vI l12)]) rfl ?_
          refine en_iinc (f := fun x16 => [(12, vI x16), (10, vI l12), (9, vI x14), (13, vI x14), (0, vR (10, 0)), (2, vI l2), (3, vI l3), (4, vI l4), (5, vI l5), (6, vI l6), (7, vR (1, l7)), (8, vR (4, l8)), (11, vI l11)]) 12 dX10_cheapest_177 rfl rfl (by decide) rfl (fun x16 ex16 => ?_)
          have h := h x16 ex16
          refine eg_goto (tgt := 65) dX10_cheapest_180 rfl ?_
          refine eg_sub [4, 5, 6, 7, 8, 9, 10, 11, 2, 1, 12, 0] rfl ?_
          exact h
        · have h := h.2 c15
          refine eg_iload 0 dX10_cheapest_162 rfl ?_
          refine eg_iload 9 dX10_cheapest_164 rfl ?_
          refine eg_icmp_ge (tgt := 177) dX10_cheapest_166 rfl (fun c17 => ?_) (fun c17 => ?_)
          · have h := h.1 c17
            refine en_iinc (f := fun x18 => [(12, vI x18), (13, vI x14), (0, vR (10, 0)), (2, vI l2), (3, vI l3), (4, vI l4), (5, vI l5), (6, vI l6), (7, vR (1, l7)), (8, vR (4, l8)), (9, vI l9), (10, vI l10), (11, vI l11)]) 12 dX10_cheapest_177 rfl rfl (by decide) rfl (fun x18 ex18 => ?_)
            have h := h x18 ex18
            refine eg_goto (tgt := 65) dX10_cheapest_180 rfl ?_
            refine eg_sub [2, 3, 4, 5, 6, 7, 8, 9, 10, 11, 12, 0] rfl ?_
            exact h
          · have h := h.2 c17
            refine eg_iload 0 dX10_cheapest_169 rfl ?_
            refine eg_istore dX10_cheapest_171 (by decide) (ls1 := [(9, vI x14), (13, vI x14), (0, vR (10, 0)), (2, vI l2), (3, vI l3), (4, vI l4), (5, vI l5), (6, vI l6), (7, vR (1, l7)), (8, vR (4, l8)), (10, vI l10), (11, vI l11), (12, vI l12)]) rfl ?_
            refine eg_iload 12 dX10_cheapest_173 rfl ?_
            refine eg_istore dX10_cheapest_175 (by decide) (ls1 := [(10, vI l12), (9, vI x14), (13, vI x14), (0, vR (10, 0)), (2, vI l2), (3, vI l3), (4, vI l4), (5, vI l5), (6, vI l6), (7, vR (1, l7)), (8, vR (4, l8)), (11, vI l11), (12, vI l12)]) rfl ?_
            refine en_iinc (f := fun x19 => [(12, vI x19), (10, vI l12), (9, vI x14), (13, vI x14), (0, vR (10, 0)), (2, vI l2), (3, vI l3), (4, vI l4), (5, vI l5), (6, vI l6), (7, vR (1, l7)), (8, vR (4, l8)), (11, vI l11)]) 12 dX10_cheapest_177 rfl rfl (by decide) rfl (fun x19 ex19 => ?_)
            have h := h x19 ex19
            refine eg_goto (tgt := 65) dX10_cheapest_180 rfl ?_
            refine eg_sub [4, 5, 6, 7, 8, 9, 10, 11, 2, 1, 12, 0] rfl ?_
            exact h
      clear h
      refine eg_if_eq (tgt := 107) dX10_cheapest_96 rfl (fun c20 => ?_) (fun c20 => ?_)
      · refine eg_iload 11 dX10_cheapest_107 rfl ?_
        exact J _ (by rw [if_pos c20])
      · refine eg_aload 6 dX10_cheapest_99 rfl ?_
        refine eg_getI dX10_cheapest_101 fl_10_337 rfl trivial (obC_1 hl7) ?_
        refine eg_goto (tgt := 109) dX10_cheapest_104 rfl ?_
        exact J _ (by rw [if_neg c20])
    clear h
    refine eg_if_eq (tgt := 84) dX10_cheapest_76 rfl (fun c21 => ?_) (fun c21 => ?_)
    · refine eg_aload 6 dX10_cheapest_84 rfl ?_
      refine eg_getI dX10_cheapest_86 fl_10_334 rfl trivial (obC_1 hl7) ?_
      exact J _ (by rw [if_pos c21])
    · refine eg_iload 11 dX10_cheapest_79 rfl ?_
      refine eg_goto (tgt := 89) dX10_cheapest_81 rfl ?_
      exact J _ (by rw [if_neg c21])
theorem dX10_bus_0 : decode cX10_bus 0 = .ok (.iload_n 2, 1) := by decide +kernel
theorem dX10_bus_1 : decode cX10_bus 1 = .ok (.iconst 1, 1) := by decide +kernel
theorem dX10_bus_2 : decode cX10_bus 2 = .ok (.if_icmp .lt 24, 3) := by decide +kernel
theorem dX10_bus_5 : decode cX10_bus 5 = .ok (.iload_n 2, 1) := by decide +kernel
theorem dX10_bus_6 : decode cX10_bus 6 = .ok (.bipush 6, 2) := by decide +kernel
theorem dX10_bus_8 : decode cX10_bus 8 = .ok (.if_icmp .gt 18, 3) := by decide +kernel
theorem dX10_bus_11 : decode cX10_bus 11 = .ok (.iload_n 3, 1) := by decide +kernel
theorem dX10_bus_12 : decode cX10_bus 12 = .ok (.ifCond .lt 14, 3) := by decide +kernel
theorem dX10_bus_15 : decode cX10_bus 15 = .ok (.iload_n 3, 1) := by decide +kernel
theorem dX10_bus_16 : decode cX10_bus 16 = .ok (.sipush 3600, 3) := by decide +kernel
theorem dX10_bus_19 : decode cX10_bus 19 = .ok (.if_icmp .ge 7, 3) := by decide +kernel
theorem dX10_bus_22 : decode cX10_bus 22 = .ok (.iconst 1, 1) := by decide +kernel
theorem dX10_bus_23 : decode cX10_bus 23 = .ok (.goto 4, 3) := by decide +kernel
theorem dX10_bus_26 : decode cX10_bus 26 = .ok (.iconst 0, 1) := by decide +kernel
theorem dX10_bus_27 : decode cX10_bus 27 = .ok (.istore 5, 2) := by decide +kernel
theorem dX10_bus_29 : decode cX10_bus 29 = .ok (.aload_n 0, 1) := by decide +kernel
theorem dX10_bus_30 : decode cX10_bus 30 = .ok (.getfield 32, 3) := by decide +kernel
theorem dX10_bus_33 : decode cX10_bus 33 = .ok (.iload_n 1, 1) := by decide +kernel
theorem dX10_bus_34 : decode cX10_bus 34 = .ok (.invokevirtual 132, 3) := by decide +kernel
theorem dX10_bus_37 : decode cX10_bus 37 = .ok (.ifCond .eq 16, 3) := by decide +kernel
theorem dX10_bus_40 : decode cX10_bus 40 = .ok (.iload 5, 2) := by decide +kernel
theorem dX10_bus_42 : decode cX10_bus 42 = .ok (.ifCond .eq 11, 3) := by decide +kernel
theorem dX10_bus_45 : decode cX10_bus 45 = .ok (.iload 4, 2) := by decide +kernel
theorem dX10_bus_47 : decode cX10_bus 47 = .ok (.invokestatic 270, 3) := by decide +kernel
theorem dX10_bus_50 : decode cX10_bus 50 = .ok (.ifCond .ne 7, 3) := by decide +kernel
theorem dX10_bus_53 : decode cX10_bus 53 = .ok (.ldc_w 282, 3) := by decide +kernel
theorem dX10_bus_56 : decode cX10_bus 56 = .ok (.ireturn, 1) := by decide +kernel
theorem dX10_bus_57 : decode cX10_bus 57 = .ok (.aload_n 0, 1) := by decide +kernel
theorem dX10_bus_58 : decode cX10_bus 58 = .ok (.aload_n 0, 1) := by decide +kernel
theorem dX10_bus_59 : decode cX10_bus 59 = .ok (.getfield 32, 3) := by decide +kernel
theorem dX10_bus_62 : decode cX10_bus 62 = .ok (.iload 4, 2) := by decide +kernel
theorem dX10_bus_64 : decode cX10_bus 64 = .ok (.invokevirtual 273, 3) := by decide +kernel
theorem dX10_bus_67 : decode cX10_bus 67 = .ok (.istore 6, 2) := by decide +kernel
theorem dX10_bus_69 : decode cX10_bus 69 = .ok (.aload_n 0, 1) := by decide +kernel
theorem dX10_bus_70 : decode cX10_bus 70 = .ok (.getfield 36, 3) := by decide +kernel
theorem dX10_bus_73 : decode cX10_bus 73 = .ok (.aload_n 0, 1) := by decide +kernel
theorem dX10_bus_74 : decode cX10_bus 74 = .ok (.getfield 32, 3) := by decide +kernel
theorem dX10_bus_77 : decode cX10_bus 77 = .ok (.invokevirtual 283, 3) := by decide +kernel
theorem dX10_bus_80 : decode cX10_bus 80 = .ok (.iconst 0, 1) := by decide +kernel
theorem dX10_bus_81 : decode cX10_bus 81 = .ok (.istore 7, 2) := by decide +kernel
theorem dX10_bus_83 : decode cX10_bus 83 = .ok (.iload 7, 2) := by decide +kernel
theorem dX10_bus_85 : decode cX10_bus 85 = .ok (.iload_n 2, 1) := by decide +kernel
theorem dX10_bus_86 : decode cX10_bus 86 = .ok (.if_icmp .ge 71, 3) := by decide +kernel
theorem dX10_bus_89 : decode cX10_bus 89 = .ok (.aload_n 0, 1) := by decide +kernel
theorem dX10_bus_90 : decode cX10_bus 90 = .ok (.getfield 36, 3) := by decide +kernel
theorem dX10_bus_93 : decode cX10_bus 93 = .ok (.getfield 309, 3) := by decide +kernel
theorem dX10_bus_96 : decode cX10_bus 96 = .ok (.bipush 15, 2) := by decide +kernel
theorem dX10_bus_98 : decode cX10_bus 98 = .ok (.if_icmp .ge 59, 3) := by decide +kernel
theorem dX10_bus_101 : decode cX10_bus 101 = .ok (.aload_n 0, 1) := by decide +kernel
theorem dX10_bus_102 : decode cX10_bus 102 = .ok (.getfield 36, 3) := by decide +kernel
theorem dX10_bus_105 : decode cX10_bus 105 = .ok (.getfield 285, 3) := by decide +kernel
theorem dX10_bus_108 : decode cX10_bus 108 = .ok (.aload_n 0, 1) := by decide +kernel
theorem dX10_bus_109 : decode cX10_bus 109 = .ok (.getfield 36, 3) := by decide +kernel
theorem dX10_bus_112 : decode cX10_bus 112 = .ok (.getfield 309, 3) := by decide +kernel
theorem dX10_bus_115 : decode cX10_bus 115 = .ok (.aaload, 1) := by decide +kernel
theorem dX10_bus_116 : decode cX10_bus 116 = .ok (.astore 8, 2) := by decide +kernel
theorem dX10_bus_118 : decode cX10_bus 118 = .ok (.aload 8, 2) := by decide +kernel
theorem dX10_bus_120 : decode cX10_bus 120 = .ok (.aload_n 0, 1) := by decide +kernel
theorem dX10_bus_121 : decode cX10_bus 121 = .ok (.getfield 32, 3) := by decide +kernel
theorem dX10_bus_124 : decode cX10_bus 124 = .ok (.getfield 285, 3) := by decide +kernel
theorem dX10_bus_127 : decode cX10_bus 127 = .ok (.iload_n 1, 1) := by decide +kernel
theorem dX10_bus_128 : decode cX10_bus 128 = .ok (.aaload, 1) := by decide +kernel
theorem dX10_bus_129 : decode cX10_bus 129 = .ok (.invokevirtual 338, 3) := by decide +kernel
theorem dX10_bus_132 : decode cX10_bus 132 = .ok (.aload 8, 2) := by decide +kernel
theorem dX10_bus_134 : decode cX10_bus 134 = .ok (.iload_n 3, 1) := by decide +kernel
theorem dX10_bus_135 : decode cX10_bus 135 = .ok (.putfield 289, 3) := by decide +kernel
theorem dX10_bus_138 : decode cX10_bus 138 = .ok (.aload_n 0, 1) := by decide +kernel
theorem dX10_bus_139 : decode cX10_bus 139 = .ok (.getfield 36, 3) := by decide +kernel
theorem dX10_bus_142 : decode cX10_bus 142 = .ok (.dup, 1) := by decide +kernel
theorem dX10_bus_143 : decode cX10_bus 143 = .ok (.getfield 309, 3) := by decide +kernel
theorem dX10_bus_146 : decode cX10_bus 146 = .ok (.iconst 1, 1) := by decide +kernel
theorem dX10_bus_147 : decode cX10_bus 147 = .ok (.iadd, 1) := by decide +kernel
theorem dX10_bus_148 : decode cX10_bus 148 = .ok (.putfield 309, 3) := by decide +kernel
theorem dX10_bus_151 : decode cX10_bus 151 = .ok (.iinc 7 1, 3) := by decide +kernel
theorem dX10_bus_154 : decode cX10_bus 154 = .ok (.goto (-71), 3) := by decide +kernel
theorem dX10_bus_157 : decode cX10_bus 157 = .ok (.aload_n 0, 1) := by decide +kernel
theorem dX10_bus_158 : decode cX10_bus 158 = .ok (.aload_n 0, 1) := by decide +kernel
theorem dX10_bus_159 : decode cX10_bus 159 = .ok (.getfield 36, 3) := by decide +kernel
theorem dX10_bus_162 : decode cX10_bus 162 = .ok (.iload 4, 2) := by decide +kernel
theorem dX10_bus_164 : decode cX10_bus 164 = .ok (.invokevirtual 273, 3) := by decide +kernel
theorem dX10_bus_167 : decode cX10_bus 167 = .ok (.iload 6, 2) := by decide +kernel
theorem dX10_bus_169 : decode cX10_bus 169 = .ok (.isub, 1) := by decide +kernel
theorem dX10_bus_170 : decode cX10_bus 170 = .ok (.ireturn, 1) := by decide +kernel
set_option maxRecDepth 10000 in
theorem vX10_bus_0 {κ : eg_K} {d : Nat} (hd : 1 ≤ d) {post : Int32 → eg_H → Prop} (M : eg_H) (l1 : Int32) (l2 : Int32) (l3 : Int32) (l4 : Int32) (h : (∀ x1 : Int32, x1 = ((if l2 < (1 : Int32) then (0 : Int32) else (if (6 : Int32) < l2 then (0 : Int32) else (if l3 < 0 then (0 : Int32) else (if (3600 : Int32) ≤ l3 then (0 : Int32) else (1 : Int32)))))) → (∃ p2 : Nat, p2 < 2 ∧ M.2.2 (10, 0) 3 = (5, p2) ∧ (∀ x4 : Int32, x4 = (fX5_hasGuest M p2 l1) → (x4 = 0 → post (-2147483648 : Int32) M) ∧ ((¬ x4 = 0) → (x1 = 0 → post (-2147483648 : Int32) M) ∧ ((¬ x1 = 0) → (∀ x8 : Int32, x8 = (fX10_isLength M l4) → ((¬ x8 = 0) → eCI κ gC mtX10_waitedBy d [vR (10, 0), vR (5, p2), vI l4] M (fun x10 M11 => (∃ p13 : Nat, p13 < 2 ∧ M11.2.2 (10, 0) 4 = (5, p13) ∧ (∃ p14 : Nat, p14 < 2 ∧ M11.2.2 (10, 0) 3 = (5, p14) ∧ eCV κ gC mtX5_copyFrom d [vR (5, p13), vR (5, p14)] M11 (fun M15 => eg_W κ gC mtX10_bus d (eQI κ gC post) 83 [(0, vR (10, 0)), (1, vI l1), (2, vI l2), (3, vI l3), (4, vI l4), (6, vI x10), (7, vI (0 : Int32))] [] M15))))) ∧ (x8 = 0 → post (-2147483648 : Int32) M)))))))) : eg_W κ gC mtX10_bus d (eQI κ gC post) 0 [(0, vR (10, 0)), (1, vI l1), (2, vI l2), (3, vI l3), (4, vI l4)] [] M := by
  refine eg_iload_n 2 dX10_bus_0 rfl rfl ?_
  refine eg_iconst dX10_bus_1 ic_1 ?_
  have J : ∀ x1 : Int32, x1 = (if l2 < (1 : Int32) then (0 : Int32) else (if (6 : Int32) < l2 then (0 : Int32) else (if l3 < 0 then (0 : Int32) else (if (3600 : Int32) ≤ l3 then (0 : Int32) else (1 : Int32))))) → eg_W κ gC mtX10_bus d (eQI κ gC post) 27 [(0, vR (10, 0)), (1, vI l1), (2, vI l2), (3, vI l3), (4, vI l4)] [vI x1] M := by
    intro x1 ex1
    have h := h x1 ex1
    refine eg_istore dX10_bus_27 (by decide) (ls1 := [(5, vI x1), (0, vR (10, 0)), (1, vI l1), (2, vI l2), (3, vI l3), (4, vI l4)]) rfl ?_
    refine eg_aload_n 1 dX10_bus_29 rfl rfl ?_
    refine eg_getD dX10_bus_30 fl_10_32 rfl rfl (obC_10 z1) ?_
    obtain ⟨p2, hp2, ep2, h⟩ := h
    rw [ep2]
    refine eg_iload_n 2 dX10_bus_33 rfl rfl ?_
    refine eg_callVI (av := [vI l1]) (st := []) dX10_bus_34 ml_10_132 rfl rfl (obC_5 hp2) (by decide) rfl (Nat.le_of_ble_eq_true rfl) (eg_dd (by omega)) (sX5_hasGuest (by omega) M p2 l1 hp2 ) (fun x4 M3 hp => ?_)
    obtain ⟨ex4, eM3⟩ := hp
    rw [eM3]
    have h := h x4 ex4
    refine eg_if_eq (tgt := 53) dX10_bus_37 rfl (fun c5 => ?_) (fun c5 => ?_)
    · have h := h.1 c5
      refine eg_ldcw dX10_bus_53 kc_10_282 ?_
      exact eg_ireturn dX10_bus_56 rfl h
    · have h := h.2 c5
      refine eg_iload 0 dX10_bus_40 rfl ?_
      refine eg_if_eq (tgt := 53) dX10_bus_42 rfl (fun c6 => ?_) (fun c6 => ?_)
      · have h := h.1 c6
        refine eg_ldcw dX10_bus_53 kc_10_282 ?_
        exact eg_ireturn dX10_bus_56 rfl h
      · have h := h.2 c6
        refine eg_iload 5 dX10_bus_45 rfl ?_
        refine eg_callSI (av := [vI l4]) (st := []) dX10_bus_47 ml_10_270 rfl rfl (Nat.le_of_ble_eq_true rfl) (eg_dd (by omega)) (sX10_isLength (by omega) M l4  ) (fun x8 M7 hp => ?_)
        obtain ⟨ex8, eM7⟩ := hp
        rw [eM7]
        have h := h x8 ex8
        refine eg_if_ne (tgt := 57) dX10_bus_50 rfl (fun c9 => ?_) (fun c9 => ?_)
        · have h := h.1 c9
          refine eg_aload_n 1 dX10_bus_57 rfl rfl ?_
          refine eg_aload_n 1 dX10_bus_58 rfl rfl ?_
          refine eg_getD dX10_bus_59 fl_10_32 rfl rfl (obC_10 z1) ?_
          rw [ep2]
          refine eg_iload 5 dX10_bus_62 rfl ?_
          obtain ⟨q12, hq12, h⟩ := h
          refine eg_callVI (av := [vR (5, p2), vI l4]) (st := []) dX10_bus_64 ml_10_273 rfl rfl (obC_10 z1) (by decide) rfl (Nat.le_of_ble_eq_true rfl) (eg_dd (by omega)) hq12 (fun x10 M11 hp => ?_)
          have h := h x10 M11 hp
          refine eg_istore dX10_bus_67 (by decide) (ls1 := [(6, vI x10), (5, vI x1), (0, vR (10, 0)), (1, vI l1), (2, vI l2), (3, vI l3), (4, vI l4)]) rfl ?_
          refine eg_aload_n 2 dX10_bus_69 rfl rfl ?_
          refine eg_getD dX10_bus_70 fl_10_36 rfl rfl (obC_10 z1) ?_
          obtain ⟨p13, hp13, ep13, h⟩ := h
          rw [ep13]
          refine eg_aload_n 2 dX10_bus_73 rfl rfl ?_
          refine eg_getD dX10_bus_74 fl_10_32 rfl rfl (obC_10 z1) ?_
          obtain ⟨p14, hp14, ep14, h⟩ := h
          rw [ep14]
          obtain ⟨q16, hq16, h⟩ := h
          refine eg_callVV (av := [vR (5, p14)]) (st := []) dX10_bus_77 ml_10_283 rfl rfl (obC_5 hp13) (by decide) rfl (Nat.le_of_ble_eq_true rfl) (eg_dd (by omega)) hq16 (fun M15 hp => ?_)
          have h := h M15 hp
          refine eg_iconst dX10_bus_80 ic_0 ?_
          refine eg_istore dX10_bus_81 (by decide) (ls1 := [(7, vI (0 : Int32)), (6, vI x10), (5, vI x1), (0, vR (10, 0)), (1, vI l1), (2, vI l2), (3, vI l3), (4, vI l4)]) rfl ?_
          refine eg_sub [3, 4, 5, 6, 7, 1, 0] rfl ?_
          exact h
        · have h := h.2 c9
          refine eg_ldcw dX10_bus_53 kc_10_282 ?_
          exact eg_ireturn dX10_bus_56 rfl h
  clear h
  refine eg_icmp_lt (tgt := 26) dX10_bus_2 rfl (fun c17 => ?_) (fun c17 => ?_)
  · refine eg_iconst dX10_bus_26 ic_0 ?_
    exact J _ (by rw [if_pos c17])
  · refine eg_iload_n 2 dX10_bus_5 rfl rfl ?_
    refine eg_bipush dX10_bus_6 bp_6 ?_
    refine eg_icmp_gt (tgt := 26) dX10_bus_8 rfl (fun c18 => ?_) (fun c18 => ?_)
    · refine eg_iconst dX10_bus_26 ic_0 ?_
      exact J _ (by rw [if_neg c17, if_pos c18])
    · refine eg_iload_n 3 dX10_bus_11 rfl rfl ?_
      refine eg_if_lt (tgt := 26) dX10_bus_12 rfl (fun c19 => ?_) (fun c19 => ?_)
      · refine eg_iconst dX10_bus_26 ic_0 ?_
        exact J _ (by rw [if_neg c17, if_neg c18, if_pos c19])
      · refine eg_iload_n 3 dX10_bus_15 rfl rfl ?_
        refine eg_sipush dX10_bus_16 sp_3600 ?_
        refine eg_icmp_ge (tgt := 26) dX10_bus_19 rfl (fun c20 => ?_) (fun c20 => ?_)
        · refine eg_iconst dX10_bus_26 ic_0 ?_
          exact J _ (by rw [if_neg c17, if_neg c18, if_neg c19, if_pos c20])
        · refine eg_iconst dX10_bus_22 ic_1 ?_
          refine eg_goto (tgt := 27) dX10_bus_23 rfl ?_
          exact J _ (by rw [if_neg c17, if_neg c18, if_neg c19, if_neg c20])
set_option maxRecDepth 10000 in
theorem vX10_bus_83 {κ : eg_K} {d : Nat} (hd : 2 ≤ d) {post : Int32 → eg_H → Prop} (M : eg_H) (l1 : Int32) (l2 : Int32) (l3 : Int32) (l4 : Int32) (l6 : Int32) (l7 : Int32) (h : (l2 ≤ l7 → (∃ p2 : Nat, p2 < 2 ∧ M.2.2 (10, 0) 4 = (5, p2) ∧ eCI κ gC mtX10_waitedBy d [vR (10, 0), vR (5, p2), vI l4] M (fun x3 M4 => post (x3 - l6) M4))) ∧ ((¬ l2 ≤ l7) → (∃ p6 : Nat, p6 < 2 ∧ M.2.2 (10, 0) 4 = (5, p6) ∧ ((15 : Int32) ≤ (M.1 (5, p6) 2) → eCI κ gC mtX10_waitedBy d [vR (10, 0), vR (5, p6), vI l4] M (fun x8 M9 => post (x8 - l6) M9)) ∧ ((¬ (15 : Int32) ≤ (M.1 (5, p6) 2)) → (vp_in (M.1 (5, p6) 2) 15 ∧ (∃ p12 : Nat, p12 < 2 ∧ M.2.2 (10, 0) 3 = (5, p12) ∧ (vp_in l1 15 ∧ (∀ M14 : eg_H, M14 = (fX0_copyFrom M (15 * p6 + (M.1 (5, p6) 2).toNatClampNeg) (15 * p12 + l1.toNatClampNeg)) → (∀ M16 : eg_H, M16 = (sI M14 (0, 15 * p6 + (M.1 (5, p6) 2).toNatClampNeg) 1 l3) → (∃ p17 : Nat, p17 < 2 ∧ M16.2.2 (10, 0) 4 = (5, p17) ∧ (∀ M18 : eg_H, M18 = (sI M16 (5, p17) 2 ((M16.1 (5, p17) 2) + (1 : Int32))) → (∀ x19 : Int32, x19 = (l7 + (1 : Int32)) → eg_W κ gC mtX10_bus d (eQI κ gC post) 83 [(0, vR (10, 0)), (1, vI l1), (2, vI l2), (3, vI l3), (4, vI l4), (6, vI l6), (7, vI x19)] [] M18)))))))))))) : eg_W κ gC mtX10_bus d (eQI κ gC post) 83 [(0, vR (10, 0)), (1, vI l1), (2, vI l2), (3, vI l3), (4, vI l4), (6, vI l6), (7, vI l7)] [] M := by
  refine eg_iload 6 dX10_bus_83 rfl ?_
  refine eg_iload_n 2 dX10_bus_85 rfl rfl ?_
  refine eg_icmp_ge (tgt := 157) dX10_bus_86 rfl (fun c1 => ?_) (fun c1 => ?_)
  · have h := h.1 c1
    refine eg_aload_n 0 dX10_bus_157 rfl rfl ?_
    refine eg_aload_n 0 dX10_bus_158 rfl rfl ?_
    refine eg_getD dX10_bus_159 fl_10_36 rfl rfl (obC_10 z1) ?_
    obtain ⟨p2, hp2, ep2, h⟩ := h
    rw [ep2]
    refine eg_iload 4 dX10_bus_162 rfl ?_
    obtain ⟨q5, hq5, h⟩ := h
    refine eg_callVI (av := [vR (5, p2), vI l4]) (st := []) dX10_bus_164 ml_10_273 rfl rfl (obC_10 z1) (by decide) rfl (Nat.le_of_ble_eq_true rfl) (eg_dd (by omega)) hq5 (fun x3 M4 hp => ?_)
    have h := h x3 M4 hp
    refine eg_iload 5 dX10_bus_167 rfl ?_
    refine eg_isub dX10_bus_169 ?_
    exact eg_ireturn dX10_bus_170 rfl h
  · have h := h.2 c1
    refine eg_aload_n 0 dX10_bus_89 rfl rfl ?_
    refine eg_getD dX10_bus_90 fl_10_36 rfl rfl (obC_10 z1) ?_
    obtain ⟨p6, hp6, ep6, h⟩ := h
    rw [ep6]
    refine eg_getI dX10_bus_93 fl_10_309 rfl trivial (obC_5 hp6) ?_
    refine eg_bipush dX10_bus_96 bp_15 ?_
    refine eg_icmp_ge (tgt := 157) dX10_bus_98 rfl (fun c7 => ?_) (fun c7 => ?_)
    · have h := h.1 c7
      refine eg_aload_n 0 dX10_bus_157 rfl rfl ?_
      refine eg_aload_n 0 dX10_bus_158 rfl rfl ?_
      refine eg_getD dX10_bus_159 fl_10_36 rfl rfl (obC_10 z1) ?_
      rw [ep6]
      refine eg_iload 4 dX10_bus_162 rfl ?_
      obtain ⟨q10, hq10, h⟩ := h
      refine eg_callVI (av := [vR (5, p6), vI l4]) (st := []) dX10_bus_164 ml_10_273 rfl rfl (obC_10 z1) (by decide) rfl (Nat.le_of_ble_eq_true rfl) (eg_dd (by omega)) hq10 (fun x8 M9 hp => ?_)
      have h := h x8 M9 hp
      refine eg_iload 5 dX10_bus_167 rfl ?_
      refine eg_isub dX10_bus_169 ?_
      exact eg_ireturn dX10_bus_170 rfl h
    · have h := h.2 c7
      refine eg_aload_n 0 dX10_bus_101 rfl rfl ?_
      refine eg_getD dX10_bus_102 fl_10_36 rfl rfl (obC_10 z1) ?_
      rw [ep6]
      refine eg_getR dX10_bus_105 fl_10_285 rfl rfl (obC_5 hp6) ?_
      show eg_W κ gC mtX10_bus d (eQI κ gC post) 108 [(0, vR (10, 0)), (1, vI l1), (2, vI l2), (3, vI l3), (4, vI l4), (6, vI l6), (7, vI l7)] [vR (31, p6)] M
      refine eg_aload_n 0 dX10_bus_108 rfl rfl ?_
      refine eg_getD dX10_bus_109 fl_10_36 rfl rfl (obC_10 z1) ?_
      rw [ep6]
      refine eg_getI dX10_bus_112 fl_10_309 rfl trivial (obC_5 hp6) ?_
      obtain ⟨g11, h⟩ := h
      refine eg_aaload5 dX10_bus_115 (arC_31 hp6 g11) ?_
      show eg_W κ gC mtX10_bus d (eQI κ gC post) 116 [(0, vR (10, 0)), (1, vI l1), (2, vI l2), (3, vI l3), (4, vI l4), (6, vI l6), (7, vI l7)] [vR (0, 15 * p6 + (M.1 (5, p6) 2).toNatClampNeg)] M
      refine eg_astore dX10_bus_116 (by decide) (ls1 := [(8, vR (0, 15 * p6 + (M.1 (5, p6) 2).toNatClampNeg)), (0, vR (10, 0)), (1, vI l1), (2, vI l2), (3, vI l3), (4, vI l4), (6, vI l6), (7, vI l7)]) rfl ?_
      refine eg_aload 0 dX10_bus_118 rfl ?_
      refine eg_aload_n 1 dX10_bus_120 rfl rfl ?_
      refine eg_getD dX10_bus_121 fl_10_32 rfl rfl (obC_10 z1) ?_
      obtain ⟨p12, hp12, ep12, h⟩ := h
      rw [ep12]
      refine eg_getR dX10_bus_124 fl_10_285 rfl rfl (obC_5 hp12) ?_
      show eg_W κ gC mtX10_bus d (eQI κ gC post) 127 [(8, vR (0, 15 * p6 + (M.1 (5, p6) 2).toNatClampNeg)), (0, vR (10, 0)), (1, vI l1), (2, vI l2), (3, vI l3), (4, vI l4), (6, vI l6), (7, vI l7)] [vR (31, p12), vR (0, 15 * p6 + (M.1 (5, p6) 2).toNatClampNeg)] M
      refine eg_iload_n 2 dX10_bus_127 rfl rfl ?_
      obtain ⟨g13, h⟩ := h
      refine eg_aaload5 dX10_bus_128 (arC_31 hp12 g13) ?_
      show eg_W κ gC mtX10_bus d (eQI κ gC post) 129 [(8, vR (0, 15 * p6 + (M.1 (5, p6) 2).toNatClampNeg)), (0, vR (10, 0)), (1, vI l1), (2, vI l2), (3, vI l3), (4, vI l4), (6, vI l6), (7, vI l7)] [vR (0, 15 * p12 + l1.toNatClampNeg), vR (0, 15 * p6 + (M.1 (5, p6) 2).toNatClampNeg)] M
      refine eg_callVV (av := [vR (0, 15 * p12 + l1.toNatClampNeg)]) (st := []) dX10_bus_129 ml_10_338 rfl rfl (obC_0 (ixP15 hp6 g11)) (by decide) rfl (Nat.le_of_ble_eq_true rfl) (eg_dd (by omega)) (sX0_copyFrom (by omega) M (15 * p6 + (M.1 (5, p6) 2).toNatClampNeg) (15 * p12 + l1.toNatClampNeg) (ixP15 hp6 g11) (ixP15 hp12 g13) ) (fun M14 eM14 => ?_)
      have h := h M14 eM14
      refine eg_aload 0 dX10_bus_132 rfl ?_
      refine eg_iload_n 4 dX10_bus_134 rfl rfl ?_
      refine en_putI dX10_bus_135 fl_10_289 rfl rfl (obC_0 (ixP15 hp6 g11)) (fun M16 eM16 => ?_)
      have h := h M16 eM16
      refine eg_aload_n 1 dX10_bus_138 rfl rfl ?_
      refine eg_getD dX10_bus_139 fl_10_36 rfl rfl (obC_10 z1) ?_
      obtain ⟨p17, hp17, ep17, h⟩ := h
      rw [ep17]
      refine eg_dup dX10_bus_142 rfl ?_
      refine eg_getI dX10_bus_143 fl_10_309 rfl trivial (obC_5 hp17) ?_
      refine eg_iconst dX10_bus_146 ic_1 ?_
      refine eg_iadd dX10_bus_147 ?_
      refine en_putI dX10_bus_148 fl_10_309 rfl rfl (obC_5 hp17) (fun M18 eM18 => ?_)
      have h := h M18 eM18
      refine en_iinc (f := fun x19 => [(7, vI x19), (8, vR (0, 15 * p6 + (M.1 (5, p6) 2).toNatClampNeg)), (0, vR (10, 0)), (1, vI l1), (2, vI l2), (3, vI l3), (4, vI l4), (6, vI l6)]) 7 dX10_bus_151 rfl rfl (by decide) rfl (fun x19 ex19 => ?_)
      have h := h x19 ex19
      refine eg_goto (tgt := 83) dX10_bus_154 rfl ?_
      refine eg_sub [2, 3, 4, 5, 6, 7, 0] rfl ?_
      exact h
theorem dX10_chance_0 : decode cX10_chance 0 = .ok (.iload_n 1, 1) := by decide +kernel
theorem dX10_chance_1 : decode cX10_chance 1 = .ok (.ifCond .lt 27, 3) := by decide +kernel
theorem dX10_chance_4 : decode cX10_chance 4 = .ok (.iload_n 2, 1) := by decide +kernel
theorem dX10_chance_5 : decode cX10_chance 5 = .ok (.ifCond .lt 23, 3) := by decide +kernel
theorem dX10_chance_8 : decode cX10_chance 8 = .ok (.iload_n 2, 1) := by decide +kernel
theorem dX10_chance_9 : decode cX10_chance 9 = .ok (.sipush 600, 3) := by decide +kernel
theorem dX10_chance_12 : decode cX10_chance 12 = .ok (.if_icmp .gt 16, 3) := by decide +kernel
theorem dX10_chance_15 : decode cX10_chance 15 = .ok (.iload 4, 2) := by decide +kernel
theorem dX10_chance_17 : decode cX10_chance 17 = .ok (.ifCond .lt 11, 3) := by decide +kernel
theorem dX10_chance_20 : decode cX10_chance 20 = .ok (.iload 4, 2) := by decide +kernel
theorem dX10_chance_22 : decode cX10_chance 22 = .ok (.ldc_w 294, 3) := by decide +kernel
theorem dX10_chance_25 : decode cX10_chance 25 = .ok (.if_icmp .le 7, 3) := by decide +kernel
theorem dX10_chance_28 : decode cX10_chance 28 = .ok (.iconst 1, 1) := by decide +kernel
theorem dX10_chance_29 : decode cX10_chance 29 = .ok (.goto 4, 3) := by decide +kernel
theorem dX10_chance_32 : decode cX10_chance 32 = .ok (.iconst 0, 1) := by decide +kernel
theorem dX10_chance_33 : decode cX10_chance 33 = .ok (.istore 5, 2) := by decide +kernel
theorem dX10_chance_35 : decode cX10_chance 35 = .ok (.iload 5, 2) := by decide +kernel
theorem dX10_chance_37 : decode cX10_chance 37 = .ok (.ifCond .ne 10, 3) := by decide +kernel
theorem dX10_chance_40 : decode cX10_chance 40 = .ok (.iload_n 3, 1) := by decide +kernel
theorem dX10_chance_41 : decode cX10_chance 41 = .ok (.invokestatic 270, 3) := by decide +kernel
theorem dX10_chance_44 : decode cX10_chance 44 = .ok (.ifCond .ne 5, 3) := by decide +kernel
theorem dX10_chance_47 : decode cX10_chance 47 = .ok (.iconst (-1), 1) := by decide +kernel
theorem dX10_chance_48 : decode cX10_chance 48 = .ok (.ireturn, 1) := by decide +kernel
theorem dX10_chance_49 : decode cX10_chance 49 = .ok (.iconst 0, 1) := by decide +kernel
theorem dX10_chance_50 : decode cX10_chance 50 = .ok (.istore 6, 2) := by decide +kernel
theorem dX10_chance_52 : decode cX10_chance 52 = .ok (.iload_n 1, 1) := by decide +kernel
theorem dX10_chance_53 : decode cX10_chance 53 = .ok (.i2l, 1) := by decide +kernel
theorem dX10_chance_54 : decode cX10_chance 54 = .ok (.lstore 7, 2) := by decide +kernel
theorem dX10_chance_56 : decode cX10_chance 56 = .ok (.aload_n 0, 1) := by decide +kernel
theorem dX10_chance_57 : decode cX10_chance 57 = .ok (.getfield 36, 3) := by decide +kernel
theorem dX10_chance_60 : decode cX10_chance 60 = .ok (.aload_n 0, 1) := by decide +kernel
theorem dX10_chance_61 : decode cX10_chance 61 = .ok (.getfield 32, 3) := by decide +kernel
theorem dX10_chance_64 : decode cX10_chance 64 = .ok (.invokevirtual 283, 3) := by decide +kernel
theorem dX10_chance_67 : decode cX10_chance 67 = .ok (.iconst 0, 1) := by decide +kernel
theorem dX10_chance_68 : decode cX10_chance 68 = .ok (.istore 9, 2) := by decide +kernel
theorem dX10_chance_70 : decode cX10_chance 70 = .ok (.iload 9, 2) := by decide +kernel
theorem dX10_chance_72 : decode cX10_chance 72 = .ok (.bipush 10, 2) := by decide +kernel
theorem dX10_chance_74 : decode cX10_chance 74 = .ok (.if_icmp .ge 126, 3) := by decide +kernel
theorem dX10_chance_77 : decode cX10_chance 77 = .ok (.iconst 0, 1) := by decide +kernel
theorem dX10_chance_78 : decode cX10_chance 78 = .ok (.istore 10, 2) := by decide +kernel
theorem dX10_chance_80 : decode cX10_chance 80 = .ok (.iload 10, 2) := by decide +kernel
theorem dX10_chance_82 : decode cX10_chance 82 = .ok (.aload_n 0, 1) := by decide +kernel
theorem dX10_chance_83 : decode cX10_chance 83 = .ok (.getfield 32, 3) := by decide +kernel
theorem dX10_chance_86 : decode cX10_chance 86 = .ok (.getfield 309, 3) := by decide +kernel
theorem dX10_chance_89 : decode cX10_chance 89 = .ok (.if_icmp .ge 81, 3) := by decide +kernel
theorem dX10_chance_92 : decode cX10_chance 92 = .ok (.lload 7, 2) := by decide +kernel
theorem dX10_chance_94 : decode cX10_chance 94 = .ok (.ldc2_w 341, 3) := by decide +kernel
theorem dX10_chance_97 : decode cX10_chance 97 = .ok (.lmul, 1) := by decide +kernel
theorem dX10_chance_98 : decode cX10_chance 98 = .ok (.ldc2_w 343, 3) := by decide +kernel
theorem dX10_chance_101 : decode cX10_chance 101 = .ok (.ladd, 1) := by decide +kernel
theorem dX10_chance_102 : decode cX10_chance 102 = .ok (.ldc2_w 345, 3) := by decide +kernel
theorem dX10_chance_105 : decode cX10_chance 105 = .ok (.land, 1) := by decide +kernel
theorem dX10_chance_106 : decode cX10_chance 106 = .ok (.lstore 7, 2) := by decide +kernel
theorem dX10_chance_108 : decode cX10_chance 108 = .ok (.aload_n 0, 1) := by decide +kernel
theorem dX10_chance_109 : decode cX10_chance 109 = .ok (.getfield 32, 3) := by decide +kernel
theorem dX10_chance_112 : decode cX10_chance 112 = .ok (.getfield 285, 3) := by decide +kernel
theorem dX10_chance_115 : decode cX10_chance 115 = .ok (.iload 10, 2) := by decide +kernel
theorem dX10_chance_117 : decode cX10_chance 117 = .ok (.aaload, 1) := by decide +kernel
theorem dX10_chance_118 : decode cX10_chance 118 = .ok (.getfield 289, 3) := by decide +kernel
theorem dX10_chance_121 : decode cX10_chance 121 = .ok (.lload 7, 2) := by decide +kernel
theorem dX10_chance_123 : decode cX10_chance 123 = .ok (.ldc2_w 347, 3) := by decide +kernel
theorem dX10_chance_126 : decode cX10_chance 126 = .ok (.ldiv, 1) := by decide +kernel
theorem dX10_chance_127 : decode cX10_chance 127 = .ok (.l2i, 1) := by decide +kernel
theorem dX10_chance_128 : decode cX10_chance 128 = .ok (.iload_n 2, 1) := by decide +kernel
theorem dX10_chance_129 : decode cX10_chance 129 = .ok (.iconst 1, 1) := by decide +kernel
theorem dX10_chance_130 : decode cX10_chance 130 = .ok (.iadd, 1) := by decide +kernel
theorem dX10_chance_131 : decode cX10_chance 131 = .ok (.irem, 1) := by decide +kernel
theorem dX10_chance_132 : decode cX10_chance 132 = .ok (.iadd, 1) := by decide +kernel
theorem dX10_chance_133 : decode cX10_chance 133 = .ok (.istore 11, 2) := by decide +kernel
theorem dX10_chance_135 : decode cX10_chance 135 = .ok (.aload_n 0, 1) := by decide +kernel
theorem dX10_chance_136 : decode cX10_chance 136 = .ok (.getfield 36, 3) := by decide +kernel
theorem dX10_chance_139 : decode cX10_chance 139 = .ok (.getfield 285, 3) := by decide +kernel
theorem dX10_chance_142 : decode cX10_chance 142 = .ok (.iload 10, 2) := by decide +kernel
theorem dX10_chance_144 : decode cX10_chance 144 = .ok (.aaload, 1) := by decide +kernel
theorem dX10_chance_145 : decode cX10_chance 145 = .ok (.iload 11, 2) := by decide +kernel
theorem dX10_chance_147 : decode cX10_chance 147 = .ok (.sipush 3600, 3) := by decide +kernel
theorem dX10_chance_150 : decode cX10_chance 150 = .ok (.if_icmp .ge 8, 3) := by decide +kernel
theorem dX10_chance_153 : decode cX10_chance 153 = .ok (.iload 11, 2) := by decide +kernel
theorem dX10_chance_155 : decode cX10_chance 155 = .ok (.goto 6, 3) := by decide +kernel
theorem dX10_chance_158 : decode cX10_chance 158 = .ok (.sipush 3599, 3) := by decide +kernel
theorem dX10_chance_161 : decode cX10_chance 161 = .ok (.putfield 289, 3) := by decide +kernel
theorem dX10_chance_164 : decode cX10_chance 164 = .ok (.iinc 10 1, 3) := by decide +kernel
theorem dX10_chance_167 : decode cX10_chance 167 = .ok (.goto (-87), 3) := by decide +kernel
theorem dX10_chance_170 : decode cX10_chance 170 = .ok (.iload 6, 2) := by decide +kernel
theorem dX10_chance_172 : decode cX10_chance 172 = .ok (.aload_n 0, 1) := by decide +kernel
theorem dX10_chance_173 : decode cX10_chance 173 = .ok (.aload_n 0, 1) := by decide +kernel
theorem dX10_chance_174 : decode cX10_chance 174 = .ok (.getfield 36, 3) := by decide +kernel
theorem dX10_chance_177 : decode cX10_chance 177 = .ok (.iload_n 3, 1) := by decide +kernel
theorem dX10_chance_178 : decode cX10_chance 178 = .ok (.invokevirtual 273, 3) := by decide +kernel
theorem dX10_chance_181 : decode cX10_chance 181 = .ok (.iload 4, 2) := by decide +kernel
theorem dX10_chance_183 : decode cX10_chance 183 = .ok (.if_icmp .le 7, 3) := by decide +kernel
theorem dX10_chance_186 : decode cX10_chance 186 = .ok (.iconst 1, 1) := by decide +kernel
theorem dX10_chance_187 : decode cX10_chance 187 = .ok (.goto 4, 3) := by decide +kernel
theorem dX10_chance_190 : decode cX10_chance 190 = .ok (.iconst 0, 1) := by decide +kernel
theorem dX10_chance_191 : decode cX10_chance 191 = .ok (.iadd, 1) := by decide +kernel
theorem dX10_chance_192 : decode cX10_chance 192 = .ok (.istore 6, 2) := by decide +kernel
theorem dX10_chance_194 : decode cX10_chance 194 = .ok (.iinc 9 1, 3) := by decide +kernel
theorem dX10_chance_197 : decode cX10_chance 197 = .ok (.goto (-127), 3) := by decide +kernel
theorem dX10_chance_200 : decode cX10_chance 200 = .ok (.iload 6, 2) := by decide +kernel
theorem dX10_chance_202 : decode cX10_chance 202 = .ok (.ireturn, 1) := by decide +kernel
set_option maxRecDepth 10000 in
theorem vX10_chance_0 {κ : eg_K} {d : Nat} (hd : 1 ≤ d) {post : Int32 → eg_H → Prop} (M : eg_H) (l1 : Int32) (l2 : Int32) (l3 : Int32) (l4 : Int32) (h : (∀ x1 : Int32, x1 = ((if l1 < 0 then (1 : Int32) else (if l2 < 0 then (1 : Int32) else (if (600 : Int32) < l2 then (1 : Int32) else (if l4 < 0 then (1 : Int32) else (if l4 ≤ (99999 : Int32) then (0 : Int32) else (1 : Int32))))))) → ((¬ x1 = 0) → post (-1 : Int32) M) ∧ (x1 = 0 → (∀ x4 : Int32, x4 = (fX10_isLength M l3) → ((¬ x4 = 0) → (∀ x6 : Int64, x6 = (l1.toInt64) → (∃ p7 : Nat, p7 < 2 ∧ M.2.2 (10, 0) 4 = (5, p7) ∧ (∃ p8 : Nat, p8 < 2 ∧ M.2.2 (10, 0) 3 = (5, p8) ∧ eCV κ gC mtX5_copyFrom d [vR (5, p7), vR (5, p8)] M (fun M9 => eg_W κ gC mtX10_chance d (eQI κ gC post) 70 [(0, vR (10, 0)), (2, vI l2), (3, vI l3), (4, vI l4), (6, vI (0 : Int32)), (7, vL x6), (9, vI (0 : Int32))] [] M9))))) ∧ (x4 = 0 → post (-1 : Int32) M))))) : eg_W κ gC mtX10_chance d (eQI κ gC post) 0 [(0, vR (10, 0)), (1, vI l1), (2, vI l2), (3, vI l3), (4, vI l4)] [] M := by
  refine eg_iload_n 1 dX10_chance_0 rfl rfl ?_
  have J : ∀ x1 : Int32, x1 = (if l1 < 0 then (1 : Int32) else (if l2 < 0 then (1 : Int32) else (if (600 : Int32) < l2 then (1 : Int32) else (if l4 < 0 then (1 : Int32) else (if l4 ≤ (99999 : Int32) then (0 : Int32) else (1 : Int32)))))) → eg_W κ gC mtX10_chance d (eQI κ gC post) 33 [(0, vR (10, 0)), (1, vI l1), (2, vI l2), (3, vI l3), (4, vI l4)] [vI x1] M := by
    intro x1 ex1
    have h := h x1 ex1
    refine eg_istore dX10_chance_33 (by decide) (ls1 := [(5, vI x1), (0, vR (10, 0)), (1, vI l1), (2, vI l2), (3, vI l3), (4, vI l4)]) rfl ?_
    refine eg_iload 0 dX10_chance_35 rfl ?_
    refine eg_if_ne (tgt := 47) dX10_chance_37 rfl (fun c2 => ?_) (fun c2 => ?_)
    · have h := h.1 c2
      refine eg_iconst dX10_chance_47 ic_m1 ?_
      exact eg_ireturn dX10_chance_48 rfl h
    · have h := h.2 c2
      refine eg_iload_n 4 dX10_chance_40 rfl rfl ?_
      refine eg_callSI (av := [vI l3]) (st := []) dX10_chance_41 ml_10_270 rfl rfl (Nat.le_of_ble_eq_true rfl) (eg_dd (by omega)) (sX10_isLength (by omega) M l3  ) (fun x4 M3 hp => ?_)
      obtain ⟨ex4, eM3⟩ := hp
      rw [eM3]
      have h := h x4 ex4
      refine eg_if_ne (tgt := 49) dX10_chance_44 rfl (fun c5 => ?_) (fun c5 => ?_)
      · have h := h.1 c5
        refine eg_iconst dX10_chance_49 ic_0 ?_
        refine eg_istore dX10_chance_50 (by decide) (ls1 := [(6, vI (0 : Int32)), (5, vI x1), (0, vR (10, 0)), (1, vI l1), (2, vI l2), (3, vI l3), (4, vI l4)]) rfl ?_
        refine eg_iload_n 3 dX10_chance_52 rfl rfl ?_
        refine eg_i2l dX10_chance_53 ?_
        refine en_lstore (f := fun x6 => [(7, vL x6), (6, vI (0 : Int32)), (5, vI x1), (0, vR (10, 0)), (1, vI l1), (2, vI l2), (3, vI l3), (4, vI l4)]) dX10_chance_54 (by decide) rfl (fun x6 ex6 => ?_)
        have h := h x6 ex6
        refine eg_aload_n 3 dX10_chance_56 rfl rfl ?_
        refine eg_getD dX10_chance_57 fl_10_36 rfl rfl (obC_10 z1) ?_
        obtain ⟨p7, hp7, ep7, h⟩ := h
        rw [ep7]
        refine eg_aload_n 3 dX10_chance_60 rfl rfl ?_
        refine eg_getD dX10_chance_61 fl_10_32 rfl rfl (obC_10 z1) ?_
        obtain ⟨p8, hp8, ep8, h⟩ := h
        rw [ep8]
        obtain ⟨q10, hq10, h⟩ := h
        refine eg_callVV (av := [vR (5, p8)]) (st := []) dX10_chance_64 ml_10_283 rfl rfl (obC_5 hp7) (by decide) rfl (Nat.le_of_ble_eq_true rfl) (eg_dd (by omega)) hq10 (fun M9 hp => ?_)
        have h := h M9 hp
        refine eg_iconst dX10_chance_67 ic_0 ?_
        refine eg_istore dX10_chance_68 (by decide) (ls1 := [(9, vI (0 : Int32)), (7, vL x6), (6, vI (0 : Int32)), (5, vI x1), (0, vR (10, 0)), (1, vI l1), (2, vI l2), (3, vI l3), (4, vI l4)]) rfl ?_
        refine eg_sub [4, 6, 7, 8, 2, 1, 0] rfl ?_
        exact h
      · have h := h.2 c5
        refine eg_iconst dX10_chance_47 ic_m1 ?_
        exact eg_ireturn dX10_chance_48 rfl h
  clear h
  refine eg_if_lt (tgt := 28) dX10_chance_1 rfl (fun c11 => ?_) (fun c11 => ?_)
  · refine eg_iconst dX10_chance_28 ic_1 ?_
    refine eg_goto (tgt := 33) dX10_chance_29 rfl ?_
    exact J _ (by rw [if_pos c11])
  · refine eg_iload_n 2 dX10_chance_4 rfl rfl ?_
    refine eg_if_lt (tgt := 28) dX10_chance_5 rfl (fun c12 => ?_) (fun c12 => ?_)
    · refine eg_iconst dX10_chance_28 ic_1 ?_
      refine eg_goto (tgt := 33) dX10_chance_29 rfl ?_
      exact J _ (by rw [if_neg c11, if_pos c12])
    · refine eg_iload_n 2 dX10_chance_8 rfl rfl ?_
      refine eg_sipush dX10_chance_9 sp_600 ?_
      refine eg_icmp_gt (tgt := 28) dX10_chance_12 rfl (fun c13 => ?_) (fun c13 => ?_)
      · refine eg_iconst dX10_chance_28 ic_1 ?_
        refine eg_goto (tgt := 33) dX10_chance_29 rfl ?_
        exact J _ (by rw [if_neg c11, if_neg c12, if_pos c13])
      · refine eg_iload 4 dX10_chance_15 rfl ?_
        refine eg_if_lt (tgt := 28) dX10_chance_17 rfl (fun c14 => ?_) (fun c14 => ?_)
        · refine eg_iconst dX10_chance_28 ic_1 ?_
          refine eg_goto (tgt := 33) dX10_chance_29 rfl ?_
          exact J _ (by rw [if_neg c11, if_neg c12, if_neg c13, if_pos c14])
        · refine eg_iload 4 dX10_chance_20 rfl ?_
          refine eg_ldcw dX10_chance_22 kc_10_294 ?_
          refine eg_icmp_le (tgt := 32) dX10_chance_25 rfl (fun c15 => ?_) (fun c15 => ?_)
          · refine eg_iconst dX10_chance_32 ic_0 ?_
            exact J _ (by rw [if_neg c11, if_neg c12, if_neg c13, if_neg c14, if_pos c15])
          · refine eg_iconst dX10_chance_28 ic_1 ?_
            refine eg_goto (tgt := 33) dX10_chance_29 rfl ?_
            exact J _ (by rw [if_neg c11, if_neg c12, if_neg c13, if_neg c14, if_neg c15])
set_option maxRecDepth 10000 in
theorem vX10_chance_70 {κ : eg_K} {d : Nat} {post : Int32 → eg_H → Prop} (M : eg_H) (l2 : Int32) (l3 : Int32) (l4 : Int32) (l6 : Int32) (l7 : Int64) (l9 : Int32) (h : ((10 : Int32) ≤ l9 → post l6 M) ∧ ((¬ (10 : Int32) ≤ l9) → eg_W κ gC mtX10_chance d (eQI κ gC post) 80 [(0, vR (10, 0)), (2, vI l2), (3, vI l3), (4, vI l4), (6, vI l6), (7, vL l7), (9, vI l9), (10, vI (0 : Int32))] [] M)) : eg_W κ gC mtX10_chance d (eQI κ gC post) 70 [(0, vR (10, 0)), (2, vI l2), (3, vI l3), (4, vI l4), (6, vI l6), (7, vL l7), (9, vI l9)] [] M := by
  refine eg_iload 6 dX10_chance_70 rfl ?_
  refine eg_bipush dX10_chance_72 bp_10 ?_
  refine eg_icmp_ge (tgt := 200) dX10_chance_74 rfl (fun c1 => ?_) (fun c1 => ?_)
  · have h := h.1 c1
    refine eg_iload 4 dX10_chance_200 rfl ?_
    exact eg_ireturn dX10_chance_202 rfl h
  · have h := h.2 c1
    refine eg_iconst dX10_chance_77 ic_0 ?_
    refine eg_istore dX10_chance_78 (by decide) (ls1 := [(10, vI (0 : Int32)), (0, vR (10, 0)), (2, vI l2), (3, vI l3), (4, vI l4), (6, vI l6), (7, vL l7), (9, vI l9)]) rfl ?_
    refine eg_sub [1, 2, 3, 4, 5, 6, 7, 0] rfl ?_
    exact h
set_option maxRecDepth 10000 in
theorem vX10_chance_80 {κ : eg_K} {d : Nat} (hd : 1 ≤ d) {post : Int32 → eg_H → Prop} (M : eg_H) (l2 : Int32) (l3 : Int32) (l4 : Int32) (l6 : Int32) (l7 : Int64) (l9 : Int32) (l10 : Int32) (h : (∃ p1 : Nat, p1 < 2 ∧ M.2.2 (10, 0) 3 = (5, p1) ∧ ((M.1 (5, p1) 2) ≤ l10 → (∃ p3 : Nat, p3 < 2 ∧ M.2.2 (10, 0) 4 = (5, p3) ∧ eCI κ gC mtX10_waitedBy d [vR (10, 0), vR (5, p3), vI l3] M (fun x4 M5 => (∀ x7 : Int32, x7 = ((if x4 ≤ l4 then (0 : Int32) else (1 : Int32))) → (∀ x8 : Int32, x8 = (l6 + x7) → (∀ x9 : Int32, x9 = (l9 + (1 : Int32)) → eg_W κ gC mtX10_chance d (eQI κ gC post) 70 [(0, vR (10, 0)), (2, vI l2), (3, vI l3), (4, vI l4), (6, vI x8), (7, vL l7), (9, vI x9)] [] M5)))))) ∧ ((¬ (M.1 (5, p1) 2) ≤ l10) → (∀ x11 : Int64, x11 = (((l7 * (1103515245 : Int64)) + (12345 : Int64)) &&& (2147483647 : Int64)) → (vp_in l10 15 ∧ ((¬ (l2 + (1 : Int32)) = 0) ∧ (∀ x14 : Int32, x14 = ((M.1 (0, 15 * p1 + l10.toNatClampNeg) 1) + (((x11 / (65536 : Int64)).toInt32) - ((x11 / (65536 : Int64)).toInt32) / (l2 + (1 : Int32)) * (l2 + (1 : Int32)))) → (∃ p15 : Nat, p15 < 2 ∧ M.2.2 (10, 0) 4 = (5, p15) ∧ (∀ x16 : Int32, x16 = ((if (3600 : Int32) ≤ x14 then (3599 : Int32) else x14)) → (∀ M17 : eg_H, M17 = (sI M (0, 15 * p15 + l10.toNatClampNeg) 1 x16) → (∀ x18 : Int32, x18 = (l10 + (1 : Int32)) → eg_W κ gC mtX10_chance d (eQI κ gC post) 80 [(0, vR (10, 0)), (2, vI l2), (3, vI l3), (4, vI l4), (6, vI l6), (7, vL x11), (9, vI l9), (10, vI x18)] [] M17))))))))))) : eg_W κ gC mtX10_chance d (eQI κ gC post) 80 [(0, vR (10, 0)), (2, vI l2), (3, vI l3), (4, vI l4), (6, vI l6), (7, vL l7), (9, vI l9), (10, vI l10)] [] M := by
  refine eg_iload 7 dX10_chance_80 rfl ?_
  refine eg_aload_n 0 dX10_chance_82 rfl rfl ?_
  refine eg_getD dX10_chance_83 fl_10_32 rfl rfl (obC_10 z1) ?_
  obtain ⟨p1, hp1, ep1, h⟩ := h
  rw [ep1]
  refine eg_getI dX10_chance_86 fl_10_309 rfl trivial (obC_5 hp1) ?_
  refine eg_icmp_ge (tgt := 170) dX10_chance_89 rfl (fun c2 => ?_) (fun c2 => ?_)
  · have h := h.1 c2
    refine eg_iload 4 dX10_chance_170 rfl ?_
    refine eg_aload_n 0 dX10_chance_172 rfl rfl ?_
    refine eg_aload_n 0 dX10_chance_173 rfl rfl ?_
    refine eg_getD dX10_chance_174 fl_10_36 rfl rfl (obC_10 z1) ?_
    obtain ⟨p3, hp3, ep3, h⟩ := h
    rw [ep3]
    refine eg_iload_n 2 dX10_chance_177 rfl rfl ?_
    obtain ⟨q6, hq6, h⟩ := h
    refine eg_callVI (av := [vR (5, p3), vI l3]) (st := [vI l6]) dX10_chance_178 ml_10_273 rfl rfl (obC_10 z1) (by decide) rfl (Nat.le_of_ble_eq_true rfl) (eg_dd (by omega)) hq6 (fun x4 M5 hp => ?_)
    have h := h x4 M5 hp
    refine eg_iload 3 dX10_chance_181 rfl ?_
    have J : ∀ x7 : Int32, x7 = (if x4 ≤ l4 then (0 : Int32) else (1 : Int32)) → eg_W κ gC mtX10_chance d (eQI κ gC post) 191 [(0, vR (10, 0)), (2, vI l2), (3, vI l3), (4, vI l4), (6, vI l6), (7, vL l7), (9, vI l9), (10, vI l10)] [vI x7, vI l6] M5 := by
      intro x7 ex7
      have h := h x7 ex7
      refine eg_iadd dX10_chance_191 ?_
      refine en_istore (f := fun x8 => [(6, vI x8), (0, vR (10, 0)), (2, vI l2), (3, vI l3), (4, vI l4), (7, vL l7), (9, vI l9), (10, vI l10)]) dX10_chance_192 (by decide) rfl (fun x8 ex8 => ?_)
      have h := h x8 ex8
      refine en_iinc (f := fun x9 => [(9, vI x9), (6, vI x8), (0, vR (10, 0)), (2, vI l2), (3, vI l3), (4, vI l4), (7, vL l7), (10, vI l10)]) 6 dX10_chance_194 rfl rfl (by decide) rfl (fun x9 ex9 => ?_)
      have h := h x9 ex9
      refine eg_goto (tgt := 70) dX10_chance_197 rfl ?_
      refine eg_sub [2, 3, 4, 5, 1, 6, 0] rfl ?_
      exact h
    clear h
    refine eg_icmp_le (tgt := 190) dX10_chance_183 rfl (fun c10 => ?_) (fun c10 => ?_)
    · refine eg_iconst dX10_chance_190 ic_0 ?_
      exact J _ (by rw [if_pos c10])
    · refine eg_iconst dX10_chance_186 ic_1 ?_
      refine eg_goto (tgt := 191) dX10_chance_187 rfl ?_
      exact J _ (by rw [if_neg c10])
  · have h := h.2 c2
    refine eg_lload 5 dX10_chance_92 rfl ?_
    refine eg_ldc2 dX10_chance_94 kc_10_341 ?_
    refine eg_lmul dX10_chance_97 ?_
    refine eg_ldc2 dX10_chance_98 kc_10_343 ?_
    refine eg_ladd dX10_chance_101 ?_
    refine eg_ldc2 dX10_chance_102 kc_10_345 ?_
    refine eg_land dX10_chance_105 ?_
    refine en_lstore (f := fun x11 => [(7, vL x11), (0, vR (10, 0)), (2, vI l2), (3, vI l3), (4, vI l4), (6, vI l6), (9, vI l9), (10, vI l10)]) dX10_chance_106 (by decide) rfl (fun x11 ex11 => ?_)
    have h := h x11 ex11
    refine eg_aload_n 1 dX10_chance_108 rfl rfl ?_
    refine eg_getD dX10_chance_109 fl_10_32 rfl rfl (obC_10 z1) ?_
    rw [ep1]
    refine eg_getR dX10_chance_112 fl_10_285 rfl rfl (obC_5 hp1) ?_
    show eg_W κ gC mtX10_chance d (eQI κ gC post) 115 [(7, vL x11), (0, vR (10, 0)), (2, vI l2), (3, vI l3), (4, vI l4), (6, vI l6), (9, vI l9), (10, vI l10)] [vR (31, p1)] M
    refine eg_iload 7 dX10_chance_115 rfl ?_
    obtain ⟨g12, h⟩ := h
    refine eg_aaload5 dX10_chance_117 (arC_31 hp1 g12) ?_
    show eg_W κ gC mtX10_chance d (eQI κ gC post) 118 [(7, vL x11), (0, vR (10, 0)), (2, vI l2), (3, vI l3), (4, vI l4), (6, vI l6), (9, vI l9), (10, vI l10)] [vR (0, 15 * p1 + l10.toNatClampNeg)] M
    refine eg_getI dX10_chance_118 fl_10_289 rfl trivial (obC_0 (ixP15 hp1 g12)) ?_
    refine eg_lload 0 dX10_chance_121 rfl ?_
    refine eg_ldc2 dX10_chance_123 kc_10_347 ?_
    refine eg_ldiv dX10_chance_126 (by decide) ?_
    refine eg_l2i dX10_chance_127 ?_
    refine eg_iload_n 2 dX10_chance_128 rfl rfl ?_
    refine eg_iconst dX10_chance_129 ic_1 ?_
    refine eg_iadd dX10_chance_130 ?_
    obtain ⟨g13, h⟩ := h
    refine eg_irem dX10_chance_131 g13 ?_
    refine eg_iadd dX10_chance_132 ?_
    refine en_istore (f := fun x14 => [(11, vI x14), (7, vL x11), (0, vR (10, 0)), (2, vI l2), (3, vI l3), (4, vI l4), (6, vI l6), (9, vI l9), (10, vI l10)]) dX10_chance_133 (by decide) rfl (fun x14 ex14 => ?_)
    have h := h x14 ex14
    refine eg_aload_n 2 dX10_chance_135 rfl rfl ?_
    refine eg_getD dX10_chance_136 fl_10_36 rfl rfl (obC_10 z1) ?_
    obtain ⟨p15, hp15, ep15, h⟩ := h
    rw [ep15]
    refine eg_getR dX10_chance_139 fl_10_285 rfl rfl (obC_5 hp15) ?_
    show eg_W κ gC mtX10_chance d (eQI κ gC post) 142 [(11, vI x14), (7, vL x11), (0, vR (10, 0)), (2, vI l2), (3, vI l3), (4, vI l4), (6, vI l6), (9, vI l9), (10, vI l10)] [vR (31, p15)] M
    refine eg_iload 8 dX10_chance_142 rfl ?_
    refine eg_aaload5 dX10_chance_144 (arC_31 hp15 g12) ?_
    show eg_W κ gC mtX10_chance d (eQI κ gC post) 145 [(11, vI x14), (7, vL x11), (0, vR (10, 0)), (2, vI l2), (3, vI l3), (4, vI l4), (6, vI l6), (9, vI l9), (10, vI l10)] [vR (0, 15 * p15 + l10.toNatClampNeg)] M
    refine eg_iload 0 dX10_chance_145 rfl ?_
    refine eg_sipush dX10_chance_147 sp_3600 ?_
    have J : ∀ x16 : Int32, x16 = (if (3600 : Int32) ≤ x14 then (3599 : Int32) else x14) → eg_W κ gC mtX10_chance d (eQI κ gC post) 161 [(11, vI x14), (7, vL x11), (0, vR (10, 0)), (2, vI l2), (3, vI l3), (4, vI l4), (6, vI l6), (9, vI l9), (10, vI l10)] [vI x16, vR (0, 15 * p15 + l10.toNatClampNeg)] M := by
      intro x16 ex16
      have h := h x16 ex16
      refine en_putI dX10_chance_161 fl_10_289 rfl rfl (obC_0 (ixP15 hp15 g12)) (fun M17 eM17 => ?_)
      have h := h M17 eM17
      refine en_iinc (f := fun x18 => [(10, vI x18), (11, vI x14), (7, vL x11), (0, vR (10, 0)), (2, vI l2), (3, vI l3), (4, vI l4), (6, vI l6), (9, vI l9)]) 8 dX10_chance_164 rfl rfl (by decide) rfl (fun x18 ex18 => ?_)
      have h := h x18 ex18
      refine eg_goto (tgt := 80) dX10_chance_167 rfl ?_
      refine eg_sub [3, 4, 5, 6, 7, 2, 8, 0] rfl ?_
      exact h
    clear h
    refine eg_icmp_ge (tgt := 158) dX10_chance_150 rfl (fun c19 => ?_) (fun c19 => ?_)
    · refine eg_sipush dX10_chance_158 sp_3599 ?_
      exact J _ (by rw [if_pos c19])
    · refine eg_iload 0 dX10_chance_153 rfl ?_
      refine eg_goto (tgt := 161) dX10_chance_155 rfl ?_
      exact J _ (by rw [if_neg c19])
theorem dX10_law_0 : decode cX10_law 0 = .ok (.iload_n 2, 1) := by decide +kernel
theorem dX10_law_1 : decode cX10_law 1 = .ok (.invokestatic 349, 3) := by decide +kernel
theorem dX10_law_4 : decode cX10_law 4 = .ok (.ifCond .eq 30, 3) := by decide +kernel
theorem dX10_law_7 : decode cX10_law 7 = .ok (.iload_n 3, 1) := by decide +kernel
theorem dX10_law_8 : decode cX10_law 8 = .ok (.invokestatic 349, 3) := by decide +kernel
theorem dX10_law_11 : decode cX10_law 11 = .ok (.ifCond .eq 23, 3) := by decide +kernel
theorem dX10_law_14 : decode cX10_law 14 = .ok (.iload 4, 2) := by decide +kernel
theorem dX10_law_16 : decode cX10_law 16 = .ok (.invokestatic 349, 3) := by decide +kernel
theorem dX10_law_19 : decode cX10_law 19 = .ok (.ifCond .eq 15, 3) := by decide +kernel
theorem dX10_law_22 : decode cX10_law 22 = .ok (.iload 5, 2) := by decide +kernel
theorem dX10_law_24 : decode cX10_law 24 = .ok (.invokestatic 349, 3) := by decide +kernel
theorem dX10_law_27 : decode cX10_law 27 = .ok (.ifCond .eq 7, 3) := by decide +kernel
theorem dX10_law_30 : decode cX10_law 30 = .ok (.iconst 1, 1) := by decide +kernel
theorem dX10_law_31 : decode cX10_law 31 = .ok (.goto 4, 3) := by decide +kernel
theorem dX10_law_34 : decode cX10_law 34 = .ok (.iconst 0, 1) := by decide +kernel
theorem dX10_law_35 : decode cX10_law 35 = .ok (.istore 6, 2) := by decide +kernel
theorem dX10_law_37 : decode cX10_law 37 = .ok (.iload_n 1, 1) := by decide +kernel
theorem dX10_law_38 : decode cX10_law 38 = .ok (.ifCond .lt 13, 3) := by decide +kernel
theorem dX10_law_41 : decode cX10_law 41 = .ok (.iload_n 1, 1) := by decide +kernel
theorem dX10_law_42 : decode cX10_law 42 = .ok (.iconst 3, 1) := by decide +kernel
theorem dX10_law_43 : decode cX10_law 43 = .ok (.if_icmp .ge 8, 3) := by decide +kernel
theorem dX10_law_46 : decode cX10_law 46 = .ok (.iload 6, 2) := by decide +kernel
theorem dX10_law_48 : decode cX10_law 48 = .ok (.ifCond .ne 7, 3) := by decide +kernel
theorem dX10_law_51 : decode cX10_law 51 = .ok (.ldc2_w 352, 3) := by decide +kernel
theorem dX10_law_54 : decode cX10_law 54 = .ok (.lreturn, 1) := by decide +kernel
theorem dX10_law_55 : decode cX10_law 55 = .ok (.aload_n 0, 1) := by decide +kernel
theorem dX10_law_56 : decode cX10_law 56 = .ok (.getfield 32, 3) := by decide +kernel
theorem dX10_law_59 : decode cX10_law 59 = .ok (.getfield 354, 3) := by decide +kernel
theorem dX10_law_62 : decode cX10_law 62 = .ok (.astore 7, 2) := by decide +kernel
theorem dX10_law_64 : decode cX10_law 64 = .ok (.aload 7, 2) := by decide +kernel
theorem dX10_law_66 : decode cX10_law 66 = .ok (.bipush 16, 2) := by decide +kernel
theorem dX10_law_68 : decode cX10_law 68 = .ok (.iload_n 2, 1) := by decide +kernel
theorem dX10_law_69 : decode cX10_law 69 = .ok (.i2l, 1) := by decide +kernel
theorem dX10_law_70 : decode cX10_law 70 = .ok (.invokevirtual 358, 3) := by decide +kernel
theorem dX10_law_73 : decode cX10_law 73 = .ok (.aload 7, 2) := by decide +kernel
theorem dX10_law_75 : decode cX10_law 75 = .ok (.bipush 17, 2) := by decide +kernel
theorem dX10_law_77 : decode cX10_law 77 = .ok (.iload_n 3, 1) := by decide +kernel
theorem dX10_law_78 : decode cX10_law 78 = .ok (.i2l, 1) := by decide +kernel
theorem dX10_law_79 : decode cX10_law 79 = .ok (.invokevirtual 358, 3) := by decide +kernel
theorem dX10_law_82 : decode cX10_law 82 = .ok (.aload 7, 2) := by decide +kernel
theorem dX10_law_84 : decode cX10_law 84 = .ok (.bipush 18, 2) := by decide +kernel
theorem dX10_law_86 : decode cX10_law 86 = .ok (.iload 4, 2) := by decide +kernel
theorem dX10_law_88 : decode cX10_law 88 = .ok (.i2l, 1) := by decide +kernel
theorem dX10_law_89 : decode cX10_law 89 = .ok (.invokevirtual 358, 3) := by decide +kernel
theorem dX10_law_92 : decode cX10_law 92 = .ok (.aload 7, 2) := by decide +kernel
theorem dX10_law_94 : decode cX10_law 94 = .ok (.bipush 19, 2) := by decide +kernel
theorem dX10_law_96 : decode cX10_law 96 = .ok (.lconst 0, 1) := by decide +kernel
theorem dX10_law_97 : decode cX10_law 97 = .ok (.invokevirtual 358, 3) := by decide +kernel
theorem dX10_law_100 : decode cX10_law 100 = .ok (.aload 7, 2) := by decide +kernel
theorem dX10_law_102 : decode cX10_law 102 = .ok (.bipush 20, 2) := by decide +kernel
theorem dX10_law_104 : decode cX10_law 104 = .ok (.iload 5, 2) := by decide +kernel
theorem dX10_law_106 : decode cX10_law 106 = .ok (.i2l, 1) := by decide +kernel
theorem dX10_law_107 : decode cX10_law 107 = .ok (.invokevirtual 358, 3) := by decide +kernel
theorem dX10_law_110 : decode cX10_law 110 = .ok (.aload 7, 2) := by decide +kernel
theorem dX10_law_112 : decode cX10_law 112 = .ok (.bipush 21, 2) := by decide +kernel
theorem dX10_law_114 : decode cX10_law 114 = .ok (.lconst 0, 1) := by decide +kernel
theorem dX10_law_115 : decode cX10_law 115 = .ok (.invokevirtual 358, 3) := by decide +kernel
theorem dX10_law_118 : decode cX10_law 118 = .ok (.aload 7, 2) := by decide +kernel
theorem dX10_law_120 : decode cX10_law 120 = .ok (.bipush 22, 2) := by decide +kernel
theorem dX10_law_122 : decode cX10_law 122 = .ok (.iload_n 3, 1) := by decide +kernel
theorem dX10_law_123 : decode cX10_law 123 = .ok (.i2l, 1) := by decide +kernel
theorem dX10_law_124 : decode cX10_law 124 = .ok (.invokevirtual 358, 3) := by decide +kernel
theorem dX10_law_127 : decode cX10_law 127 = .ok (.aload 7, 2) := by decide +kernel
theorem dX10_law_129 : decode cX10_law 129 = .ok (.bipush 23, 2) := by decide +kernel
theorem dX10_law_131 : decode cX10_law 131 = .ok (.lconst 0, 1) := by decide +kernel
theorem dX10_law_132 : decode cX10_law 132 = .ok (.invokevirtual 358, 3) := by decide +kernel
theorem dX10_law_135 : decode cX10_law 135 = .ok (.aload 7, 2) := by decide +kernel
theorem dX10_law_137 : decode cX10_law 137 = .ok (.aload_n 0, 1) := by decide +kernel
theorem dX10_law_138 : decode cX10_law 138 = .ok (.getfield 32, 3) := by decide +kernel
theorem dX10_law_141 : decode cX10_law 141 = .ok (.getfield 364, 3) := by decide +kernel
theorem dX10_law_144 : decode cX10_law 144 = .ok (.iload_n 1, 1) := by decide +kernel
theorem dX10_law_145 : decode cX10_law 145 = .ok (.iaload, 1) := by decide +kernel
theorem dX10_law_146 : decode cX10_law 146 = .ok (.invokevirtual 366, 3) := by decide +kernel
theorem dX10_law_149 : decode cX10_law 149 = .ok (.lreturn, 1) := by decide +kernel
set_option maxRecDepth 10000 in
theorem vX10_law_0 {κ : eg_K} {d : Nat} (hd : 1 ≤ d) {post : Int64 → eg_H → Prop} (M : eg_H) (l1 : Int32) (l2 : Int32) (l3 : Int32) (l4 : Int32) (l5 : Int32) (h : (∀ x2 : Int32, x2 = (fX10_isNamed M l2) → (x2 = 0 → eg_W κ gC mtX10_law d (eQL κ gC post) 34 [(0, vR (10, 0)), (1, vI l1), (2, vI l2), (3, vI l3), (4, vI l4), (5, vI l5)] [] M) ∧ ((¬ x2 = 0) → (∀ x5 : Int32, x5 = (fX10_isNamed M l3) → (x5 = 0 → eg_W κ gC mtX10_law d (eQL κ gC post) 34 [(0, vR (10, 0)), (1, vI l1), (2, vI l2), (3, vI l3), (4, vI l4), (5, vI l5)] [] M) ∧ ((¬ x5 = 0) → (∀ x8 : Int32, x8 = (fX10_isNamed M l4) → (x8 = 0 → eg_W κ gC mtX10_law d (eQL κ gC post) 34 [(0, vR (10, 0)), (1, vI l1), (2, vI l2), (3, vI l3), (4, vI l4), (5, vI l5)] [] M) ∧ ((¬ x8 = 0) → (∀ x11 : Int32, x11 = (fX10_isNamed M l5) → (∀ x12 : Int32, x12 = ((if x11 = 0 then (0 : Int32) else (1 : Int32))) → (l1 < 0 → post (-9223372036854775808 : Int64) M) ∧ ((¬ l1 < 0) → ((3 : Int32) ≤ l1 → post (-9223372036854775808 : Int64) M) ∧ ((¬ (3 : Int32) ≤ l1) → ((¬ x12 = 0) → (∃ p16 : Nat, p16 < 2 ∧ M.2.2 (10, 0) 3 = (5, p16) ∧ (gX3_setName M p16 (16 : Int32) (l2.toInt64) ∧ (∀ M18 : eg_H, M18 = (fX3_setName M p16 (16 : Int32) (l2.toInt64)) → (gX3_setName M18 p16 (17 : Int32) (l3.toInt64) ∧ (∀ M21 : eg_H, M21 = (fX3_setName M18 p16 (17 : Int32) (l3.toInt64)) → (gX3_setName M21 p16 (18 : Int32) (l4.toInt64) ∧ (∀ M24 : eg_H, M24 = (fX3_setName M21 p16 (18 : Int32) (l4.toInt64)) → (gX3_setName M24 p16 (19 : Int32) (0 : Int64) ∧ (∀ M27 : eg_H, M27 = (fX3_setName M24 p16 (19 : Int32) (0 : Int64)) → (gX3_setName M27 p16 (20 : Int32) (l5.toInt64) ∧ (∀ M30 : eg_H, M30 = (fX3_setName M27 p16 (20 : Int32) (l5.toInt64)) → (gX3_setName M30 p16 (21 : Int32) (0 : Int64) ∧ (∀ M33 : eg_H, M33 = (fX3_setName M30 p16 (21 : Int32) (0 : Int64)) → (gX3_setName M33 p16 (22 : Int32) (l3.toInt64) ∧ (∀ M36 : eg_H, M36 = (fX3_setName M33 p16 (22 : Int32) (l3.toInt64)) → (gX3_setName M36 p16 (23 : Int32) (0 : Int64) ∧ (∀ M39 : eg_H, M39 = (fX3_setName M36 p16 (23 : Int32) (0 : Int64)) → (∃ p41 : Nat, p41 < 2 ∧ M39.2.2 (10, 0) 3 = (5, p41) ∧ (vp_in l1 3 ∧ eCL κ gC mtX3_value d [vR (3, p16), vI (M39.1 (35, p41) l1.toNatClampNeg)] M39 (fun x43 M44 => post x43 M44))))))))))))))))))))) ∧ (x12 = 0 → post (-9223372036854775808 : Int64) M)))))))))))) : eg_W κ gC mtX10_law d (eQL κ gC post) 0 [(0, vR (10, 0)), (1, vI l1), (2, vI l2), (3, vI l3), (4, vI l4), (5, vI l5)] [] M := by
  refine eg_iload_n 2 dX10_law_0 rfl rfl ?_
  refine eg_callSI (av := [vI l2]) (st := []) dX10_law_1 ml_10_349 rfl rfl (Nat.le_of_ble_eq_true rfl) (eg_dd (by omega)) (sX10_isNamed (by omega) M l2  ) (fun x2 M1 hp => ?_)
  obtain ⟨ex2, eM1⟩ := hp
  rw [eM1]
  have h := h x2 ex2
  refine eg_if_eq (tgt := 34) dX10_law_4 rfl (fun c3 => ?_) (fun c3 => ?_)
  · have h := h.1 c3
    exact h
  · have h := h.2 c3
    refine eg_iload_n 3 dX10_law_7 rfl rfl ?_
    refine eg_callSI (av := [vI l3]) (st := []) dX10_law_8 ml_10_349 rfl rfl (Nat.le_of_ble_eq_true rfl) (eg_dd (by omega)) (sX10_isNamed (by omega) M l3  ) (fun x5 M4 hp => ?_)
    obtain ⟨ex5, eM4⟩ := hp
    rw [eM4]
    have h := h x5 ex5
    refine eg_if_eq (tgt := 34) dX10_law_11 rfl (fun c6 => ?_) (fun c6 => ?_)
    · have h := h.1 c6
      exact h
    · have h := h.2 c6
      refine eg_iload 4 dX10_law_14 rfl ?_
      refine eg_callSI (av := [vI l4]) (st := []) dX10_law_16 ml_10_349 rfl rfl (Nat.le_of_ble_eq_true rfl) (eg_dd (by omega)) (sX10_isNamed (by omega) M l4  ) (fun x8 M7 hp => ?_)
      obtain ⟨ex8, eM7⟩ := hp
      rw [eM7]
      have h := h x8 ex8
      refine eg_if_eq (tgt := 34) dX10_law_19 rfl (fun c9 => ?_) (fun c9 => ?_)
      · have h := h.1 c9
        exact h
      · have h := h.2 c9
        refine eg_iload 5 dX10_law_22 rfl ?_
        refine eg_callSI (av := [vI l5]) (st := []) dX10_law_24 ml_10_349 rfl rfl (Nat.le_of_ble_eq_true rfl) (eg_dd (by omega)) (sX10_isNamed (by omega) M l5  ) (fun x11 M10 hp => ?_)
        obtain ⟨ex11, eM10⟩ := hp
        rw [eM10]
        have h := h x11 ex11
        have J : ∀ x12 : Int32, x12 = (if x11 = 0 then (0 : Int32) else (1 : Int32)) → eg_W κ gC mtX10_law d (eQL κ gC post) 35 [(0, vR (10, 0)), (1, vI l1), (2, vI l2), (3, vI l3), (4, vI l4), (5, vI l5)] [vI x12] M := by
          intro x12 ex12
          have h := h x12 ex12
          refine eg_istore dX10_law_35 (by decide) (ls1 := [(6, vI x12), (0, vR (10, 0)), (1, vI l1), (2, vI l2), (3, vI l3), (4, vI l4), (5, vI l5)]) rfl ?_
          refine eg_iload_n 2 dX10_law_37 rfl rfl ?_
          refine eg_if_lt (tgt := 51) dX10_law_38 rfl (fun c13 => ?_) (fun c13 => ?_)
          · have h := h.1 c13
            refine eg_ldc2 dX10_law_51 kc_10_352 ?_
            exact eg_lreturn dX10_law_54 rfl h
          · have h := h.2 c13
            refine eg_iload_n 2 dX10_law_41 rfl rfl ?_
            refine eg_iconst dX10_law_42 ic_3 ?_
            refine eg_icmp_ge (tgt := 51) dX10_law_43 rfl (fun c14 => ?_) (fun c14 => ?_)
            · have h := h.1 c14
              refine eg_ldc2 dX10_law_51 kc_10_352 ?_
              exact eg_lreturn dX10_law_54 rfl h
            · have h := h.2 c14
              refine eg_iload 0 dX10_law_46 rfl ?_
              refine eg_if_ne (tgt := 55) dX10_law_48 rfl (fun c15 => ?_) (fun c15 => ?_)
              · have h := h.1 c15
                refine eg_aload_n 1 dX10_law_55 rfl rfl ?_
                refine eg_getD dX10_law_56 fl_10_32 rfl rfl (obC_10 z1) ?_
                obtain ⟨p16, hp16, ep16, h⟩ := h
                rw [ep16]
                refine eg_getR dX10_law_59 fl_10_354 rfl rfl (obC_5 hp16) ?_
                show eg_W κ gC mtX10_law d (eQL κ gC post) 62 [(6, vI x12), (0, vR (10, 0)), (1, vI l1), (2, vI l2), (3, vI l3), (4, vI l4), (5, vI l5)] [vR (3, p16)] M
                refine eg_astore dX10_law_62 (by decide) (ls1 := [(7, vR (3, p16)), (6, vI x12), (0, vR (10, 0)), (1, vI l1), (2, vI l2), (3, vI l3), (4, vI l4), (5, vI l5)]) rfl ?_
                refine eg_aload 0 dX10_law_64 rfl ?_
                refine eg_bipush dX10_law_66 bp_16 ?_
                refine eg_iload_n 4 dX10_law_68 rfl rfl ?_
                refine eg_i2l dX10_law_69 ?_
                obtain ⟨g17, h⟩ := h
                refine eg_callVV (av := [vI (16 : Int32), vL (l2.toInt64)]) (st := []) dX10_law_70 ml_10_358 rfl rfl (obC_3 hp16) (by decide) rfl (Nat.le_of_ble_eq_true rfl) (eg_dd (by omega)) (sX3_setName (by omega) M p16 (16 : Int32) (l2.toInt64) hp16 g17) (fun M18 eM18 => ?_)
                have h := h M18 eM18
                refine eg_aload 0 dX10_law_73 rfl ?_
                refine eg_bipush dX10_law_75 bp_17 ?_
                refine eg_iload_n 5 dX10_law_77 rfl rfl ?_
                refine eg_i2l dX10_law_78 ?_
                obtain ⟨g20, h⟩ := h
                refine eg_callVV (av := [vI (17 : Int32), vL (l3.toInt64)]) (st := []) dX10_law_79 ml_10_358 rfl rfl (obC_3 hp16) (by decide) rfl (Nat.le_of_ble_eq_true rfl) (eg_dd (by omega)) (sX3_setName (by omega) M18 p16 (17 : Int32) (l3.toInt64) hp16 g20) (fun M21 eM21 => ?_)
                have h := h M21 eM21
                refine eg_aload 0 dX10_law_82 rfl ?_
                refine eg_bipush dX10_law_84 bp_18 ?_
                refine eg_iload 6 dX10_law_86 rfl ?_
                refine eg_i2l dX10_law_88 ?_
                obtain ⟨g23, h⟩ := h
                refine eg_callVV (av := [vI (18 : Int32), vL (l4.toInt64)]) (st := []) dX10_law_89 ml_10_358 rfl rfl (obC_3 hp16) (by decide) rfl (Nat.le_of_ble_eq_true rfl) (eg_dd (by omega)) (sX3_setName (by omega) M21 p16 (18 : Int32) (l4.toInt64) hp16 g23) (fun M24 eM24 => ?_)
                have h := h M24 eM24
                refine eg_aload 0 dX10_law_92 rfl ?_
                refine eg_bipush dX10_law_94 bp_19 ?_
                refine eg_lconst dX10_law_96 lc_0 ?_
                obtain ⟨g26, h⟩ := h
                refine eg_callVV (av := [vI (19 : Int32), vL (0 : Int64)]) (st := []) dX10_law_97 ml_10_358 rfl rfl (obC_3 hp16) (by decide) rfl (Nat.le_of_ble_eq_true rfl) (eg_dd (by omega)) (sX3_setName (by omega) M24 p16 (19 : Int32) (0 : Int64) hp16 g26) (fun M27 eM27 => ?_)
                have h := h M27 eM27
                refine eg_aload 0 dX10_law_100 rfl ?_
                refine eg_bipush dX10_law_102 bp_20 ?_
                refine eg_iload 7 dX10_law_104 rfl ?_
                refine eg_i2l dX10_law_106 ?_
                obtain ⟨g29, h⟩ := h
                refine eg_callVV (av := [vI (20 : Int32), vL (l5.toInt64)]) (st := []) dX10_law_107 ml_10_358 rfl rfl (obC_3 hp16) (by decide) rfl (Nat.le_of_ble_eq_true rfl) (eg_dd (by omega)) (sX3_setName (by omega) M27 p16 (20 : Int32) (l5.toInt64) hp16 g29) (fun M30 eM30 => ?_)
                have h := h M30 eM30
                refine eg_aload 0 dX10_law_110 rfl ?_
                refine eg_bipush dX10_law_112 bp_21 ?_
                refine eg_lconst dX10_law_114 lc_0 ?_
                obtain ⟨g32, h⟩ := h
                refine eg_callVV (av := [vI (21 : Int32), vL (0 : Int64)]) (st := []) dX10_law_115 ml_10_358 rfl rfl (obC_3 hp16) (by decide) rfl (Nat.le_of_ble_eq_true rfl) (eg_dd (by omega)) (sX3_setName (by omega) M30 p16 (21 : Int32) (0 : Int64) hp16 g32) (fun M33 eM33 => ?_)
                have h := h M33 eM33
                refine eg_aload 0 dX10_law_118 rfl ?_
                refine eg_bipush dX10_law_120 bp_22 ?_
                refine eg_iload_n 5 dX10_law_122 rfl rfl ?_
                refine eg_i2l dX10_law_123 ?_
                obtain ⟨g35, h⟩ := h
                refine eg_callVV (av := [vI (22 : Int32), vL (l3.toInt64)]) (st := []) dX10_law_124 ml_10_358 rfl rfl (obC_3 hp16) (by decide) rfl (Nat.le_of_ble_eq_true rfl) (eg_dd (by omega)) (sX3_setName (by omega) M33 p16 (22 : Int32) (l3.toInt64) hp16 g35) (fun M36 eM36 => ?_)
                have h := h M36 eM36
                refine eg_aload 0 dX10_law_127 rfl ?_
                refine eg_bipush dX10_law_129 bp_23 ?_
                refine eg_lconst dX10_law_131 lc_0 ?_
                obtain ⟨g38, h⟩ := h
                refine eg_callVV (av := [vI (23 : Int32), vL (0 : Int64)]) (st := []) dX10_law_132 ml_10_358 rfl rfl (obC_3 hp16) (by decide) rfl (Nat.le_of_ble_eq_true rfl) (eg_dd (by omega)) (sX3_setName (by omega) M36 p16 (23 : Int32) (0 : Int64) hp16 g38) (fun M39 eM39 => ?_)
                have h := h M39 eM39
                refine eg_aload 0 dX10_law_135 rfl ?_
                refine eg_aload_n 2 dX10_law_137 rfl rfl ?_
                refine eg_getD dX10_law_138 fl_10_32 rfl rfl (obC_10 z1) ?_
                obtain ⟨p41, hp41, ep41, h⟩ := h
                rw [ep41]
                refine eg_getR dX10_law_141 fl_10_364 rfl rfl (obC_5 hp41) ?_
                show eg_W κ gC mtX10_law d (eQL κ gC post) 144 [(7, vR (3, p16)), (6, vI x12), (0, vR (10, 0)), (1, vI l1), (2, vI l2), (3, vI l3), (4, vI l4), (5, vI l5)] [vR (35, p41), vR (3, p16)] M39
                refine eg_iload_n 3 dX10_law_144 rfl rfl ?_
                obtain ⟨g42, h⟩ := h
                refine eg_iaload dX10_law_145 (arC_35 hp41 g42) ?_
                obtain ⟨q45, hq45, h⟩ := h
                refine eg_callVL (av := [vI (M39.1 (35, p41) l1.toNatClampNeg)]) (st := []) dX10_law_146 ml_10_366 rfl rfl (obC_3 hp16) (by decide) rfl (Nat.le_of_ble_eq_true rfl) (eg_dd (by omega)) hq45 (fun x43 M44 hp => ?_)
                have h := h x43 M44 hp
                exact eg_lreturn dX10_law_149 rfl h
              · have h := h.2 c15
                refine eg_ldc2 dX10_law_51 kc_10_352 ?_
                exact eg_lreturn dX10_law_54 rfl h
        clear h
        refine eg_if_eq (tgt := 34) dX10_law_27 rfl (fun c46 => ?_) (fun c46 => ?_)
        · refine eg_iconst dX10_law_34 ic_0 ?_
          exact J _ (by rw [if_pos c46])
        · refine eg_iconst dX10_law_30 ic_1 ?_
          refine eg_goto (tgt := 35) dX10_law_31 rfl ?_
          exact J _ (by rw [if_neg c46])
set_option maxRecDepth 10000 in
theorem vX10_law_34 {κ : eg_K} {d : Nat} (hd : 1 ≤ d) {post : Int64 → eg_H → Prop} (M : eg_H) (l1 : Int32) (l2 : Int32) (l3 : Int32) (l4 : Int32) (l5 : Int32) (h : (l1 < 0 → post (-9223372036854775808 : Int64) M) ∧ ((¬ l1 < 0) → ((3 : Int32) ≤ l1 → post (-9223372036854775808 : Int64) M) ∧ ((¬ (3 : Int32) ≤ l1) → ((¬ (0 : Int32) = 0) → (∃ p4 : Nat, p4 < 2 ∧ M.2.2 (10, 0) 3 = (5, p4) ∧ (gX3_setName M p4 (16 : Int32) (l2.toInt64) ∧ (∀ M6 : eg_H, M6 = (fX3_setName M p4 (16 : Int32) (l2.toInt64)) → (gX3_setName M6 p4 (17 : Int32) (l3.toInt64) ∧ (∀ M9 : eg_H, M9 = (fX3_setName M6 p4 (17 : Int32) (l3.toInt64)) → (gX3_setName M9 p4 (18 : Int32) (l4.toInt64) ∧ (∀ M12 : eg_H, M12 = (fX3_setName M9 p4 (18 : Int32) (l4.toInt64)) → (gX3_setName M12 p4 (19 : Int32) (0 : Int64) ∧ (∀ M15 : eg_H, M15 = (fX3_setName M12 p4 (19 : Int32) (0 : Int64)) → (gX3_setName M15 p4 (20 : Int32) (l5.toInt64) ∧ (∀ M18 : eg_H, M18 = (fX3_setName M15 p4 (20 : Int32) (l5.toInt64)) → (gX3_setName M18 p4 (21 : Int32) (0 : Int64) ∧ (∀ M21 : eg_H, M21 = (fX3_setName M18 p4 (21 : Int32) (0 : Int64)) → (gX3_setName M21 p4 (22 : Int32) (l3.toInt64) ∧ (∀ M24 : eg_H, M24 = (fX3_setName M21 p4 (22 : Int32) (l3.toInt64)) → (gX3_setName M24 p4 (23 : Int32) (0 : Int64) ∧ (∀ M27 : eg_H, M27 = (fX3_setName M24 p4 (23 : Int32) (0 : Int64)) → (∃ p29 : Nat, p29 < 2 ∧ M27.2.2 (10, 0) 3 = (5, p29) ∧ (vp_in l1 3 ∧ eCL κ gC mtX3_value d [vR (3, p4), vI (M27.1 (35, p29) l1.toNatClampNeg)] M27 (fun x31 M32 => post x31 M32))))))))))))))))))))) ∧ ((0 : Int32) = 0 → post (-9223372036854775808 : Int64) M)))) : eg_W κ gC mtX10_law d (eQL κ gC post) 34 [(0, vR (10, 0)), (1, vI l1), (2, vI l2), (3, vI l3), (4, vI l4), (5, vI l5)] [] M := by
  refine eg_iconst dX10_law_34 ic_0 ?_
  refine eg_istore dX10_law_35 (by decide) (ls1 := [(6, vI (0 : Int32)), (0, vR (10, 0)), (1, vI l1), (2, vI l2), (3, vI l3), (4, vI l4), (5, vI l5)]) rfl ?_
  refine eg_iload_n 2 dX10_law_37 rfl rfl ?_
  refine eg_if_lt (tgt := 51) dX10_law_38 rfl (fun c1 => ?_) (fun c1 => ?_)
  · have h := h.1 c1
    refine eg_ldc2 dX10_law_51 kc_10_352 ?_
    exact eg_lreturn dX10_law_54 rfl h
  · have h := h.2 c1
    refine eg_iload_n 2 dX10_law_41 rfl rfl ?_
    refine eg_iconst dX10_law_42 ic_3 ?_
    refine eg_icmp_ge (tgt := 51) dX10_law_43 rfl (fun c2 => ?_) (fun c2 => ?_)
    · have h := h.1 c2
      refine eg_ldc2 dX10_law_51 kc_10_352 ?_
      exact eg_lreturn dX10_law_54 rfl h
    · have h := h.2 c2
      refine eg_iload 0 dX10_law_46 rfl ?_
      refine eg_if_ne (tgt := 55) dX10_law_48 rfl (fun c3 => ?_) (fun c3 => ?_)
      · have h := h.1 c3
        refine eg_aload_n 1 dX10_law_55 rfl rfl ?_
        refine eg_getD dX10_law_56 fl_10_32 rfl rfl (obC_10 z1) ?_
        obtain ⟨p4, hp4, ep4, h⟩ := h
        rw [ep4]
        refine eg_getR dX10_law_59 fl_10_354 rfl rfl (obC_5 hp4) ?_
        show eg_W κ gC mtX10_law d (eQL κ gC post) 62 [(6, vI (0 : Int32)), (0, vR (10, 0)), (1, vI l1), (2, vI l2), (3, vI l3), (4, vI l4), (5, vI l5)] [vR (3, p4)] M
        refine eg_astore dX10_law_62 (by decide) (ls1 := [(7, vR (3, p4)), (6, vI (0 : Int32)), (0, vR (10, 0)), (1, vI l1), (2, vI l2), (3, vI l3), (4, vI l4), (5, vI l5)]) rfl ?_
        refine eg_aload 0 dX10_law_64 rfl ?_
        refine eg_bipush dX10_law_66 bp_16 ?_
        refine eg_iload_n 4 dX10_law_68 rfl rfl ?_
        refine eg_i2l dX10_law_69 ?_
        obtain ⟨g5, h⟩ := h
        refine eg_callVV (av := [vI (16 : Int32), vL (l2.toInt64)]) (st := []) dX10_law_70 ml_10_358 rfl rfl (obC_3 hp4) (by decide) rfl (Nat.le_of_ble_eq_true rfl) (eg_dd (by omega)) (sX3_setName (by omega) M p4 (16 : Int32) (l2.toInt64) hp4 g5) (fun M6 eM6 => ?_)
        have h := h M6 eM6
        refine eg_aload 0 dX10_law_73 rfl ?_
        refine eg_bipush dX10_law_75 bp_17 ?_
        refine eg_iload_n 5 dX10_law_77 rfl rfl ?_
        refine eg_i2l dX10_law_78 ?_
        obtain ⟨g8, h⟩ := h
        refine eg_callVV (av := [vI (17 : Int32), vL (l3.toInt64)]) (st := []) dX10_law_79 ml_10_358 rfl rfl (obC_3 hp4) (by decide) rfl (Nat.le_of_ble_eq_true rfl) (eg_dd (by omega)) (sX3_setName (by omega) M6 p4 (17 : Int32) (l3.toInt64) hp4 g8) (fun M9 eM9 => ?_)
        have h := h M9 eM9
        refine eg_aload 0 dX10_law_82 rfl ?_
        refine eg_bipush dX10_law_84 bp_18 ?_
        refine eg_iload 6 dX10_law_86 rfl ?_
        refine eg_i2l dX10_law_88 ?_
        obtain ⟨g11, h⟩ := h
        refine eg_callVV (av := [vI (18 : Int32), vL (l4.toInt64)]) (st := []) dX10_law_89 ml_10_358 rfl rfl (obC_3 hp4) (by decide) rfl (Nat.le_of_ble_eq_true rfl) (eg_dd (by omega)) (sX3_setName (by omega) M9 p4 (18 : Int32) (l4.toInt64) hp4 g11) (fun M12 eM12 => ?_)
        have h := h M12 eM12
        refine eg_aload 0 dX10_law_92 rfl ?_
        refine eg_bipush dX10_law_94 bp_19 ?_
        refine eg_lconst dX10_law_96 lc_0 ?_
        obtain ⟨g14, h⟩ := h
        refine eg_callVV (av := [vI (19 : Int32), vL (0 : Int64)]) (st := []) dX10_law_97 ml_10_358 rfl rfl (obC_3 hp4) (by decide) rfl (Nat.le_of_ble_eq_true rfl) (eg_dd (by omega)) (sX3_setName (by omega) M12 p4 (19 : Int32) (0 : Int64) hp4 g14) (fun M15 eM15 => ?_)
        have h := h M15 eM15
        refine eg_aload 0 dX10_law_100 rfl ?_
        refine eg_bipush dX10_law_102 bp_20 ?_
        refine eg_iload 7 dX10_law_104 rfl ?_
        refine eg_i2l dX10_law_106 ?_
        obtain ⟨g17, h⟩ := h
        refine eg_callVV (av := [vI (20 : Int32), vL (l5.toInt64)]) (st := []) dX10_law_107 ml_10_358 rfl rfl (obC_3 hp4) (by decide) rfl (Nat.le_of_ble_eq_true rfl) (eg_dd (by omega)) (sX3_setName (by omega) M15 p4 (20 : Int32) (l5.toInt64) hp4 g17) (fun M18 eM18 => ?_)
        have h := h M18 eM18
        refine eg_aload 0 dX10_law_110 rfl ?_
        refine eg_bipush dX10_law_112 bp_21 ?_
        refine eg_lconst dX10_law_114 lc_0 ?_
        obtain ⟨g20, h⟩ := h
        refine eg_callVV (av := [vI (21 : Int32), vL (0 : Int64)]) (st := []) dX10_law_115 ml_10_358 rfl rfl (obC_3 hp4) (by decide) rfl (Nat.le_of_ble_eq_true rfl) (eg_dd (by omega)) (sX3_setName (by omega) M18 p4 (21 : Int32) (0 : Int64) hp4 g20) (fun M21 eM21 => ?_)
        have h := h M21 eM21
        refine eg_aload 0 dX10_law_118 rfl ?_
        refine eg_bipush dX10_law_120 bp_22 ?_
        refine eg_iload_n 5 dX10_law_122 rfl rfl ?_
        refine eg_i2l dX10_law_123 ?_
        obtain ⟨g23, h⟩ := h
        refine eg_callVV (av := [vI (22 : Int32), vL (l3.toInt64)]) (st := []) dX10_law_124 ml_10_358 rfl rfl (obC_3 hp4) (by decide) rfl (Nat.le_of_ble_eq_true rfl) (eg_dd (by omega)) (sX3_setName (by omega) M21 p4 (22 : Int32) (l3.toInt64) hp4 g23) (fun M24 eM24 => ?_)
        have h := h M24 eM24
        refine eg_aload 0 dX10_law_127 rfl ?_
        refine eg_bipush dX10_law_129 bp_23 ?_
        refine eg_lconst dX10_law_131 lc_0 ?_
        obtain ⟨g26, h⟩ := h
        refine eg_callVV (av := [vI (23 : Int32), vL (0 : Int64)]) (st := []) dX10_law_132 ml_10_358 rfl rfl (obC_3 hp4) (by decide) rfl (Nat.le_of_ble_eq_true rfl) (eg_dd (by omega)) (sX3_setName (by omega) M24 p4 (23 : Int32) (0 : Int64) hp4 g26) (fun M27 eM27 => ?_)
        have h := h M27 eM27
        refine eg_aload 0 dX10_law_135 rfl ?_
        refine eg_aload_n 2 dX10_law_137 rfl rfl ?_
        refine eg_getD dX10_law_138 fl_10_32 rfl rfl (obC_10 z1) ?_
        obtain ⟨p29, hp29, ep29, h⟩ := h
        rw [ep29]
        refine eg_getR dX10_law_141 fl_10_364 rfl rfl (obC_5 hp29) ?_
        show eg_W κ gC mtX10_law d (eQL κ gC post) 144 [(7, vR (3, p4)), (6, vI (0 : Int32)), (0, vR (10, 0)), (1, vI l1), (2, vI l2), (3, vI l3), (4, vI l4), (5, vI l5)] [vR (35, p29), vR (3, p4)] M27
        refine eg_iload_n 3 dX10_law_144 rfl rfl ?_
        obtain ⟨g30, h⟩ := h
        refine eg_iaload dX10_law_145 (arC_35 hp29 g30) ?_
        obtain ⟨q33, hq33, h⟩ := h
        refine eg_callVL (av := [vI (M27.1 (35, p29) l1.toNatClampNeg)]) (st := []) dX10_law_146 ml_10_366 rfl rfl (obC_3 hp4) (by decide) rfl (Nat.le_of_ble_eq_true rfl) (eg_dd (by omega)) hq33 (fun x31 M32 hp => ?_)
        have h := h x31 M32 hp
        exact eg_lreturn dX10_law_149 rfl h
      · have h := h.2 c3
        refine eg_ldc2 dX10_law_51 kc_10_352 ?_
        exact eg_lreturn dX10_law_54 rfl h
theorem dX10_count_0 : decode cX10_count 0 = .ok (.iload_n 3, 1) := by decide +kernel
theorem dX10_count_1 : decode cX10_count 1 = .ok (.ifCond .lt 20, 3) := by decide +kernel
theorem dX10_count_4 : decode cX10_count 4 = .ok (.iload 4, 2) := by decide +kernel
theorem dX10_count_6 : decode cX10_count 6 = .ok (.iload_n 3, 1) := by decide +kernel
theorem dX10_count_7 : decode cX10_count 7 = .ok (.if_icmp .lt 14, 3) := by decide +kernel
theorem dX10_count_10 : decode cX10_count 10 = .ok (.iload 4, 2) := by decide +kernel
theorem dX10_count_12 : decode cX10_count 12 = .ok (.bipush 99, 2) := by decide +kernel
theorem dX10_count_14 : decode cX10_count 14 = .ok (.if_icmp .gt 7, 3) := by decide +kernel
theorem dX10_count_17 : decode cX10_count 17 = .ok (.iconst 1, 1) := by decide +kernel
theorem dX10_count_18 : decode cX10_count 18 = .ok (.goto 4, 3) := by decide +kernel
theorem dX10_count_21 : decode cX10_count 21 = .ok (.iconst 0, 1) := by decide +kernel
theorem dX10_count_22 : decode cX10_count 22 = .ok (.istore 5, 2) := by decide +kernel
theorem dX10_count_24 : decode cX10_count 24 = .ok (.aload_n 0, 1) := by decide +kernel
theorem dX10_count_25 : decode cX10_count 25 = .ok (.getfield 32, 3) := by decide +kernel
theorem dX10_count_28 : decode cX10_count 28 = .ok (.iload_n 1, 1) := by decide +kernel
theorem dX10_count_29 : decode cX10_count 29 = .ok (.invokevirtual 207, 3) := by decide +kernel
theorem dX10_count_32 : decode cX10_count 32 = .ok (.ifCond .eq 19, 3) := by decide +kernel
theorem dX10_count_35 : decode cX10_count 35 = .ok (.iload_n 2, 1) := by decide +kernel
theorem dX10_count_36 : decode cX10_count 36 = .ok (.ifCond .lt 15, 3) := by decide +kernel
theorem dX10_count_39 : decode cX10_count 39 = .ok (.iload_n 2, 1) := by decide +kernel
theorem dX10_count_40 : decode cX10_count 40 = .ok (.sipush 3600, 3) := by decide +kernel
theorem dX10_count_43 : decode cX10_count 43 = .ok (.if_icmp .ge 8, 3) := by decide +kernel
theorem dX10_count_46 : decode cX10_count 46 = .ok (.iload 5, 2) := by decide +kernel
theorem dX10_count_48 : decode cX10_count 48 = .ok (.ifCond .ne 5, 3) := by decide +kernel
theorem dX10_count_51 : decode cX10_count 51 = .ok (.iconst (-1), 1) := by decide +kernel
theorem dX10_count_52 : decode cX10_count 52 = .ok (.ireturn, 1) := by decide +kernel
theorem dX10_count_53 : decode cX10_count 53 = .ok (.aload_n 0, 1) := by decide +kernel
theorem dX10_count_54 : decode cX10_count 54 = .ok (.getfield 46, 3) := by decide +kernel
theorem dX10_count_57 : decode cX10_count 57 = .ok (.iload_n 1, 1) := by decide +kernel
theorem dX10_count_58 : decode cX10_count 58 = .ok (.iload_n 2, 1) := by decide +kernel
theorem dX10_count_59 : decode cX10_count 59 = .ok (.iload_n 3, 1) := by decide +kernel
theorem dX10_count_60 : decode cX10_count 60 = .ok (.iload 4, 2) := by decide +kernel
theorem dX10_count_62 : decode cX10_count 62 = .ok (.invokevirtual 370, 3) := by decide +kernel
theorem dX10_count_65 : decode cX10_count 65 = .ok (.ireturn, 1) := by decide +kernel
set_option maxRecDepth 10000 in
theorem vX10_count_0 {κ : eg_K} {d : Nat} (hd : 1 ≤ d) {post : Int32 → eg_H → Prop} (M : eg_H) (l1 : Int32) (l2 : Int32) (l3 : Int32) (l4 : Int32) (h : (∀ x1 : Int32, x1 = ((if l3 < 0 then (0 : Int32) else (if l4 < l3 then (0 : Int32) else (if (99 : Int32) < l4 then (0 : Int32) else (1 : Int32))))) → (∃ p2 : Nat, p2 < 2 ∧ M.2.2 (10, 0) 3 = (5, p2) ∧ (gX5_hasPan M p2 l1 ∧ (∀ x5 : Int32, x5 = (fX5_hasPan M p2 l1) → (x5 = 0 → post (-1 : Int32) M) ∧ ((¬ x5 = 0) → (l2 < 0 → post (-1 : Int32) M) ∧ ((¬ l2 < 0) → ((3600 : Int32) ≤ l2 → post (-1 : Int32) M) ∧ ((¬ (3600 : Int32) ≤ l2) → ((¬ x1 = 0) → eCI κ gC mtX8_add d [vR (8, 0), vI l1, vI l2, vI l3, vI l4] M (fun x10 M11 => post x10 M11)) ∧ (x1 = 0 → post (-1 : Int32) M))))))))) : eg_W κ gC mtX10_count d (eQI κ gC post) 0 [(0, vR (10, 0)), (1, vI l1), (2, vI l2), (3, vI l3), (4, vI l4)] [] M := by
  refine eg_iload_n 3 dX10_count_0 rfl rfl ?_
  have J : ∀ x1 : Int32, x1 = (if l3 < 0 then (0 : Int32) else (if l4 < l3 then (0 : Int32) else (if (99 : Int32) < l4 then (0 : Int32) else (1 : Int32)))) → eg_W κ gC mtX10_count d (eQI κ gC post) 22 [(0, vR (10, 0)), (1, vI l1), (2, vI l2), (3, vI l3), (4, vI l4)] [vI x1] M := by
    intro x1 ex1
    have h := h x1 ex1
    refine eg_istore dX10_count_22 (by decide) (ls1 := [(5, vI x1), (0, vR (10, 0)), (1, vI l1), (2, vI l2), (3, vI l3), (4, vI l4)]) rfl ?_
    refine eg_aload_n 1 dX10_count_24 rfl rfl ?_
    refine eg_getD dX10_count_25 fl_10_32 rfl rfl (obC_10 z1) ?_
    obtain ⟨p2, hp2, ep2, h⟩ := h
    rw [ep2]
    refine eg_iload_n 2 dX10_count_28 rfl rfl ?_
    obtain ⟨g3, h⟩ := h
    refine eg_callVI (av := [vI l1]) (st := []) dX10_count_29 ml_10_207 rfl rfl (obC_5 hp2) (by decide) rfl (Nat.le_of_ble_eq_true rfl) (eg_dd (by omega)) (sX5_hasPan (by omega) M p2 l1 hp2 g3) (fun x5 M4 hp => ?_)
    obtain ⟨ex5, eM4⟩ := hp
    rw [eM4]
    have h := h x5 ex5
    refine eg_if_eq (tgt := 51) dX10_count_32 rfl (fun c6 => ?_) (fun c6 => ?_)
    · have h := h.1 c6
      refine eg_iconst dX10_count_51 ic_m1 ?_
      exact eg_ireturn dX10_count_52 rfl h
    · have h := h.2 c6
      refine eg_iload_n 3 dX10_count_35 rfl rfl ?_
      refine eg_if_lt (tgt := 51) dX10_count_36 rfl (fun c7 => ?_) (fun c7 => ?_)
      · have h := h.1 c7
        refine eg_iconst dX10_count_51 ic_m1 ?_
        exact eg_ireturn dX10_count_52 rfl h
      · have h := h.2 c7
        refine eg_iload_n 3 dX10_count_39 rfl rfl ?_
        refine eg_sipush dX10_count_40 sp_3600 ?_
        refine eg_icmp_ge (tgt := 51) dX10_count_43 rfl (fun c8 => ?_) (fun c8 => ?_)
        · have h := h.1 c8
          refine eg_iconst dX10_count_51 ic_m1 ?_
          exact eg_ireturn dX10_count_52 rfl h
        · have h := h.2 c8
          refine eg_iload 0 dX10_count_46 rfl ?_
          refine eg_if_ne (tgt := 53) dX10_count_48 rfl (fun c9 => ?_) (fun c9 => ?_)
          · have h := h.1 c9
            refine eg_aload_n 1 dX10_count_53 rfl rfl ?_
            refine eg_getR dX10_count_54 fl_10_46 rfl rfl (obC_10 z1) ?_
            show eg_W κ gC mtX10_count d (eQI κ gC post) 57 [(5, vI x1), (0, vR (10, 0)), (1, vI l1), (2, vI l2), (3, vI l3), (4, vI l4)] [vR (8, 0)] M
            refine eg_iload_n 2 dX10_count_57 rfl rfl ?_
            refine eg_iload_n 3 dX10_count_58 rfl rfl ?_
            refine eg_iload_n 4 dX10_count_59 rfl rfl ?_
            refine eg_iload 5 dX10_count_60 rfl ?_
            obtain ⟨q12, hq12, h⟩ := h
            refine eg_callVI (av := [vI l1, vI l2, vI l3, vI l4]) (st := []) dX10_count_62 ml_10_370 rfl rfl (obC_8 z1) (by decide) rfl (Nat.le_of_ble_eq_true rfl) (eg_dd (by omega)) hq12 (fun x10 M11 hp => ?_)
            have h := h x10 M11 hp
            exact eg_ireturn dX10_count_65 rfl h
          · have h := h.2 c9
            refine eg_iconst dX10_count_51 ic_m1 ?_
            exact eg_ireturn dX10_count_52 rfl h
  clear h
  refine eg_if_lt (tgt := 21) dX10_count_1 rfl (fun c13 => ?_) (fun c13 => ?_)
  · refine eg_iconst dX10_count_21 ic_0 ?_
    exact J _ (by rw [if_pos c13])
  · refine eg_iload 4 dX10_count_4 rfl ?_
    refine eg_iload_n 3 dX10_count_6 rfl rfl ?_
    refine eg_icmp_lt (tgt := 21) dX10_count_7 rfl (fun c14 => ?_) (fun c14 => ?_)
    · refine eg_iconst dX10_count_21 ic_0 ?_
      exact J _ (by rw [if_neg c13, if_pos c14])
    · refine eg_iload 4 dX10_count_10 rfl ?_
      refine eg_bipush dX10_count_12 bp_99 ?_
      refine eg_icmp_gt (tgt := 21) dX10_count_14 rfl (fun c15 => ?_) (fun c15 => ?_)
      · refine eg_iconst dX10_count_21 ic_0 ?_
        exact J _ (by rw [if_neg c13, if_neg c14, if_pos c15])
      · refine eg_iconst dX10_count_17 ic_1 ?_
        refine eg_goto (tgt := 22) dX10_count_18 rfl ?_
        exact J _ (by rw [if_neg c13, if_neg c14, if_neg c15])
theorem dX10_strike_0 : decode cX10_strike 0 = .ok (.iload_n 1, 1) := by decide +kernel
theorem dX10_strike_1 : decode cX10_strike 1 = .ok (.ifCond .lt 14, 3) := by decide +kernel
theorem dX10_strike_4 : decode cX10_strike 4 = .ok (.iload_n 1, 1) := by decide +kernel
theorem dX10_strike_5 : decode cX10_strike 5 = .ok (.aload_n 0, 1) := by decide +kernel
theorem dX10_strike_6 : decode cX10_strike 6 = .ok (.getfield 46, 3) := by decide +kernel
theorem dX10_strike_9 : decode cX10_strike 9 = .ok (.getfield 374, 3) := by decide +kernel
theorem dX10_strike_12 : decode cX10_strike 12 = .ok (.if_icmp .lt 5, 3) := by decide +kernel
theorem dX10_strike_15 : decode cX10_strike 15 = .ok (.iconst (-1), 1) := by decide +kernel
theorem dX10_strike_16 : decode cX10_strike 16 = .ok (.ireturn, 1) := by decide +kernel
theorem dX10_strike_17 : decode cX10_strike 17 = .ok (.aload_n 0, 1) := by decide +kernel
theorem dX10_strike_18 : decode cX10_strike 18 = .ok (.getfield 46, 3) := by decide +kernel
theorem dX10_strike_21 : decode cX10_strike 21 = .ok (.iconst (-1), 1) := by decide +kernel
theorem dX10_strike_22 : decode cX10_strike 22 = .ok (.iload_n 1, 1) := by decide +kernel
theorem dX10_strike_23 : decode cX10_strike 23 = .ok (.iconst 0, 1) := by decide +kernel
theorem dX10_strike_24 : decode cX10_strike 24 = .ok (.iconst 0, 1) := by decide +kernel
theorem dX10_strike_25 : decode cX10_strike 25 = .ok (.invokevirtual 370, 3) := by decide +kernel
theorem dX10_strike_28 : decode cX10_strike 28 = .ok (.ireturn, 1) := by decide +kernel
set_option maxRecDepth 10000 in
theorem vX10_strike_0 {κ : eg_K} {d : Nat} (hd : 1 ≤ d) {post : Int32 → eg_H → Prop} (M : eg_H) (l1 : Int32) (h : (l1 < 0 → post (-1 : Int32) M) ∧ ((¬ l1 < 0) → (l1 < (M.1 (8, 0) 0) → eCI κ gC mtX8_add d [vR (8, 0), vI (-1 : Int32), vI l1, vI (0 : Int32), vI (0 : Int32)] M (fun x3 M4 => post x3 M4)) ∧ ((¬ l1 < (M.1 (8, 0) 0)) → post (-1 : Int32) M))) : eg_W κ gC mtX10_strike d (eQI κ gC post) 0 [(0, vR (10, 0)), (1, vI l1)] [] M := by
  refine eg_iload_n 1 dX10_strike_0 rfl rfl ?_
  refine eg_if_lt (tgt := 15) dX10_strike_1 rfl (fun c1 => ?_) (fun c1 => ?_)
  · have h := h.1 c1
    refine eg_iconst dX10_strike_15 ic_m1 ?_
    exact eg_ireturn dX10_strike_16 rfl h
  · have h := h.2 c1
    refine eg_iload_n 1 dX10_strike_4 rfl rfl ?_
    refine eg_aload_n 0 dX10_strike_5 rfl rfl ?_
    refine eg_getR dX10_strike_6 fl_10_46 rfl rfl (obC_10 z1) ?_
    show eg_W κ gC mtX10_strike d (eQI κ gC post) 9 [(0, vR (10, 0)), (1, vI l1)] [vR (8, 0), vI l1] M
    refine eg_getI dX10_strike_9 fl_10_374 rfl trivial (obC_8 z1) ?_
    refine eg_icmp_lt (tgt := 17) dX10_strike_12 rfl (fun c2 => ?_) (fun c2 => ?_)
    · have h := h.1 c2
      refine eg_aload_n 0 dX10_strike_17 rfl rfl ?_
      refine eg_getR dX10_strike_18 fl_10_46 rfl rfl (obC_10 z1) ?_
      show eg_W κ gC mtX10_strike d (eQI κ gC post) 21 [(0, vR (10, 0)), (1, vI l1)] [vR (8, 0)] M
      refine eg_iconst dX10_strike_21 ic_m1 ?_
      refine eg_iload_n 1 dX10_strike_22 rfl rfl ?_
      refine eg_iconst dX10_strike_23 ic_0 ?_
      refine eg_iconst dX10_strike_24 ic_0 ?_
      obtain ⟨q5, hq5, h⟩ := h
      refine eg_callVI (av := [vI (-1 : Int32), vI l1, vI (0 : Int32), vI (0 : Int32)]) (st := []) dX10_strike_25 ml_10_370 rfl rfl (obC_8 z1) (by decide) rfl (Nat.le_of_ble_eq_true rfl) (eg_dd (by omega)) hq5 (fun x3 M4 hp => ?_)
      have h := h x3 M4 hp
      exact eg_ireturn dX10_strike_28 rfl h
    · have h := h.2 c2
      refine eg_iconst dX10_strike_15 ic_m1 ?_
      exact eg_ireturn dX10_strike_16 rfl h
theorem dX10_fits_0 : decode cX10_fits 0 = .ok (.aload_n 0, 1) := by decide +kernel
theorem dX10_fits_1 : decode cX10_fits 1 = .ok (.getfield 46, 3) := by decide +kernel
theorem dX10_fits_4 : decode cX10_fits 4 = .ok (.invokevirtual 378, 3) := by decide +kernel
theorem dX10_fits_7 : decode cX10_fits 7 = .ok (.iconst 0, 1) := by decide +kernel
theorem dX10_fits_8 : decode cX10_fits 8 = .ok (.istore_n 1, 1) := by decide +kernel
theorem dX10_fits_9 : decode cX10_fits 9 = .ok (.iconst 0, 1) := by decide +kernel
theorem dX10_fits_10 : decode cX10_fits 10 = .ok (.istore_n 2, 1) := by decide +kernel
theorem dX10_fits_11 : decode cX10_fits 11 = .ok (.iload_n 2, 1) := by decide +kernel
theorem dX10_fits_12 : decode cX10_fits 12 = .ok (.aload_n 0, 1) := by decide +kernel
theorem dX10_fits_13 : decode cX10_fits 13 = .ok (.getfield 32, 3) := by decide +kernel
theorem dX10_fits_16 : decode cX10_fits 16 = .ok (.getfield 381, 3) := by decide +kernel
theorem dX10_fits_19 : decode cX10_fits 19 = .ok (.if_icmp .gt 70, 3) := by decide +kernel
theorem dX10_fits_22 : decode cX10_fits 22 = .ok (.aload_n 0, 1) := by decide +kernel
theorem dX10_fits_23 : decode cX10_fits 23 = .ok (.getfield 36, 3) := by decide +kernel
theorem dX10_fits_26 : decode cX10_fits 26 = .ok (.aload_n 0, 1) := by decide +kernel
theorem dX10_fits_27 : decode cX10_fits 27 = .ok (.getfield 32, 3) := by decide +kernel
theorem dX10_fits_30 : decode cX10_fits 30 = .ok (.invokevirtual 283, 3) := by decide +kernel
theorem dX10_fits_33 : decode cX10_fits 33 = .ok (.iload_n 2, 1) := by decide +kernel
theorem dX10_fits_34 : decode cX10_fits 34 = .ok (.aload_n 0, 1) := by decide +kernel
theorem dX10_fits_35 : decode cX10_fits 35 = .ok (.getfield 32, 3) := by decide +kernel
theorem dX10_fits_38 : decode cX10_fits 38 = .ok (.getfield 381, 3) := by decide +kernel
theorem dX10_fits_41 : decode cX10_fits 41 = .ok (.if_icmp .ge 29, 3) := by decide +kernel
theorem dX10_fits_44 : decode cX10_fits 44 = .ok (.aload_n 0, 1) := by decide +kernel
theorem dX10_fits_45 : decode cX10_fits 45 = .ok (.getfield 36, 3) := by decide +kernel
theorem dX10_fits_48 : decode cX10_fits 48 = .ok (.getfield 364, 3) := by decide +kernel
theorem dX10_fits_51 : decode cX10_fits 51 = .ok (.aload_n 0, 1) := by decide +kernel
theorem dX10_fits_52 : decode cX10_fits 52 = .ok (.getfield 32, 3) := by decide +kernel
theorem dX10_fits_55 : decode cX10_fits 55 = .ok (.getfield 384, 3) := by decide +kernel
theorem dX10_fits_58 : decode cX10_fits 58 = .ok (.iload_n 2, 1) := by decide +kernel
theorem dX10_fits_59 : decode cX10_fits 59 = .ok (.iaload, 1) := by decide +kernel
theorem dX10_fits_60 : decode cX10_fits 60 = .ok (.aload_n 0, 1) := by decide +kernel
theorem dX10_fits_61 : decode cX10_fits 61 = .ok (.getfield 32, 3) := by decide +kernel
theorem dX10_fits_64 : decode cX10_fits 64 = .ok (.getfield 387, 3) := by decide +kernel
theorem dX10_fits_67 : decode cX10_fits 67 = .ok (.iload_n 2, 1) := by decide +kernel
theorem dX10_fits_68 : decode cX10_fits 68 = .ok (.iaload, 1) := by decide +kernel
theorem dX10_fits_69 : decode cX10_fits 69 = .ok (.iastore, 1) := by decide +kernel
theorem dX10_fits_70 : decode cX10_fits 70 = .ok (.aload_n 0, 1) := by decide +kernel
theorem dX10_fits_71 : decode cX10_fits 71 = .ok (.invokevirtual 390, 3) := by decide +kernel
theorem dX10_fits_74 : decode cX10_fits 74 = .ok (.ifCond .eq 9, 3) := by decide +kernel
theorem dX10_fits_77 : decode cX10_fits 77 = .ok (.iload_n 1, 1) := by decide +kernel
theorem dX10_fits_78 : decode cX10_fits 78 = .ok (.iconst 1, 1) := by decide +kernel
theorem dX10_fits_79 : decode cX10_fits 79 = .ok (.iload_n 2, 1) := by decide +kernel
theorem dX10_fits_80 : decode cX10_fits 80 = .ok (.ishl, 1) := by decide +kernel
theorem dX10_fits_81 : decode cX10_fits 81 = .ok (.ior, 1) := by decide +kernel
theorem dX10_fits_82 : decode cX10_fits 82 = .ok (.istore_n 1, 1) := by decide +kernel
theorem dX10_fits_83 : decode cX10_fits 83 = .ok (.iinc 2 1, 3) := by decide +kernel
theorem dX10_fits_86 : decode cX10_fits 86 = .ok (.goto (-75), 3) := by decide +kernel
theorem dX10_fits_89 : decode cX10_fits 89 = .ok (.iload_n 1, 1) := by decide +kernel
theorem dX10_fits_90 : decode cX10_fits 90 = .ok (.ireturn, 1) := by decide +kernel
set_option maxRecDepth 10000 in
theorem vX10_fits_0 {κ : eg_K} {d : Nat} (hd : 1 ≤ d) {post : Int32 → eg_H → Prop} (M : eg_H)  (h : eCV κ gC mtX8_markHolding d [vR (8, 0)] M (fun M1 => eg_W κ gC mtX10_fits d (eQI κ gC post) 11 [(0, vR (10, 0)), (1, vI (0 : Int32)), (2, vI (0 : Int32))] [] M1)) : eg_W κ gC mtX10_fits d (eQI κ gC post) 0 [(0, vR (10, 0))] [] M := by
  refine eg_aload_n 0 dX10_fits_0 rfl rfl ?_
  refine eg_getR dX10_fits_1 fl_10_46 rfl rfl (obC_10 z1) ?_
  show eg_W κ gC mtX10_fits d (eQI κ gC post) 4 [(0, vR (10, 0))] [vR (8, 0)] M
  obtain ⟨q2, hq2, h⟩ := h
  refine eg_callVV (av := []) (st := []) dX10_fits_4 ml_10_378 rfl rfl (obC_8 z1) (by decide) rfl (Nat.le_of_ble_eq_true rfl) (eg_dd (by omega)) hq2 (fun M1 hp => ?_)
  have h := h M1 hp
  refine eg_iconst dX10_fits_7 ic_0 ?_
  refine eg_istore_n dX10_fits_8 rfl (by decide) (ls1 := [(1, vI (0 : Int32)), (0, vR (10, 0))]) rfl ?_
  refine eg_iconst dX10_fits_9 ic_0 ?_
  refine eg_istore_n dX10_fits_10 rfl (by decide) (ls1 := [(2, vI (0 : Int32)), (1, vI (0 : Int32)), (0, vR (10, 0))]) rfl ?_
  refine eg_sub [2, 1, 0] rfl ?_
  exact h
set_option maxRecDepth 10000 in
theorem vX10_fits_11 {κ : eg_K} {d : Nat} (hd : 1 ≤ d) {post : Int32 → eg_H → Prop} (M : eg_H) (l1 : Int32) (l2 : Int32) (h : (∃ p1 : Nat, p1 < 2 ∧ M.2.2 (10, 0) 3 = (5, p1) ∧ ((M.1 (5, p1) 7) < l2 → post l1 M) ∧ ((¬ (M.1 (5, p1) 7) < l2) → (∃ p3 : Nat, p3 < 2 ∧ M.2.2 (10, 0) 4 = (5, p3) ∧ eCV κ gC mtX5_copyFrom d [vR (5, p3), vR (5, p1)] M (fun M4 => (∃ p6 : Nat, p6 < 2 ∧ M4.2.2 (10, 0) 3 = (5, p6) ∧ ((M4.1 (5, p6) 7) ≤ l2 → eg_W κ gC mtX10_fits d (eQI κ gC post) 70 [(0, vR (10, 0)), (1, vI l1), (2, vI l2)] [] M4) ∧ ((¬ (M4.1 (5, p6) 7) ≤ l2) → (∃ p8 : Nat, p8 < 2 ∧ M4.2.2 (10, 0) 4 = (5, p8) ∧ (vp_in l2 4 ∧ (vp_in (M4.1 (33, p6) l2.toNatClampNeg) 3 ∧ (∀ M11 : eg_H, M11 = (sI M4 (35, p8) (M4.1 (33, p6) l2.toNatClampNeg).toNatClampNeg (M4.1 (34, p6) l2.toNatClampNeg)) → eg_W κ gC mtX10_fits d (eQI κ gC post) 70 [(0, vR (10, 0)), (1, vI l1), (2, vI l2)] [] M11))))))))))) : eg_W κ gC mtX10_fits d (eQI κ gC post) 11 [(0, vR (10, 0)), (1, vI l1), (2, vI l2)] [] M := by
  refine eg_iload_n 2 dX10_fits_11 rfl rfl ?_
  refine eg_aload_n 0 dX10_fits_12 rfl rfl ?_
  refine eg_getD dX10_fits_13 fl_10_32 rfl rfl (obC_10 z1) ?_
  obtain ⟨p1, hp1, ep1, h⟩ := h
  rw [ep1]
  refine eg_getI dX10_fits_16 fl_10_381 rfl trivial (obC_5 hp1) ?_
  refine eg_icmp_gt (tgt := 89) dX10_fits_19 rfl (fun c2 => ?_) (fun c2 => ?_)
  · have h := h.1 c2
    refine eg_iload_n 1 dX10_fits_89 rfl rfl ?_
    exact eg_ireturn dX10_fits_90 rfl h
  · have h := h.2 c2
    refine eg_aload_n 0 dX10_fits_22 rfl rfl ?_
    refine eg_getD dX10_fits_23 fl_10_36 rfl rfl (obC_10 z1) ?_
    obtain ⟨p3, hp3, ep3, h⟩ := h
    rw [ep3]
    refine eg_aload_n 0 dX10_fits_26 rfl rfl ?_
    refine eg_getD dX10_fits_27 fl_10_32 rfl rfl (obC_10 z1) ?_
    rw [ep1]
    obtain ⟨q5, hq5, h⟩ := h
    refine eg_callVV (av := [vR (5, p1)]) (st := []) dX10_fits_30 ml_10_283 rfl rfl (obC_5 hp3) (by decide) rfl (Nat.le_of_ble_eq_true rfl) (eg_dd (by omega)) hq5 (fun M4 hp => ?_)
    have h := h M4 hp
    refine eg_iload_n 2 dX10_fits_33 rfl rfl ?_
    refine eg_aload_n 0 dX10_fits_34 rfl rfl ?_
    refine eg_getD dX10_fits_35 fl_10_32 rfl rfl (obC_10 z1) ?_
    obtain ⟨p6, hp6, ep6, h⟩ := h
    rw [ep6]
    refine eg_getI dX10_fits_38 fl_10_381 rfl trivial (obC_5 hp6) ?_
    refine eg_icmp_ge (tgt := 70) dX10_fits_41 rfl (fun c7 => ?_) (fun c7 => ?_)
    · have h := h.1 c7
      exact h
    · have h := h.2 c7
      refine eg_aload_n 0 dX10_fits_44 rfl rfl ?_
      refine eg_getD dX10_fits_45 fl_10_36 rfl rfl (obC_10 z1) ?_
      obtain ⟨p8, hp8, ep8, h⟩ := h
      rw [ep8]
      refine eg_getR dX10_fits_48 fl_10_364 rfl rfl (obC_5 hp8) ?_
      show eg_W κ gC mtX10_fits d (eQI κ gC post) 51 [(0, vR (10, 0)), (1, vI l1), (2, vI l2)] [vR (35, p8)] M4
      refine eg_aload_n 0 dX10_fits_51 rfl rfl ?_
      refine eg_getD dX10_fits_52 fl_10_32 rfl rfl (obC_10 z1) ?_
      rw [ep6]
      refine eg_getR dX10_fits_55 fl_10_384 rfl rfl (obC_5 hp6) ?_
      show eg_W κ gC mtX10_fits d (eQI κ gC post) 58 [(0, vR (10, 0)), (1, vI l1), (2, vI l2)] [vR (33, p6), vR (35, p8)] M4
      refine eg_iload_n 2 dX10_fits_58 rfl rfl ?_
      obtain ⟨g9, h⟩ := h
      refine eg_iaload dX10_fits_59 (arC_33 hp6 g9) ?_
      refine eg_aload_n 0 dX10_fits_60 rfl rfl ?_
      refine eg_getD dX10_fits_61 fl_10_32 rfl rfl (obC_10 z1) ?_
      rw [ep6]
      refine eg_getR dX10_fits_64 fl_10_387 rfl rfl (obC_5 hp6) ?_
      show eg_W κ gC mtX10_fits d (eQI κ gC post) 67 [(0, vR (10, 0)), (1, vI l1), (2, vI l2)] [vR (34, p6), vI (M4.1 (33, p6) l2.toNatClampNeg), vR (35, p8)] M4
      refine eg_iload_n 2 dX10_fits_67 rfl rfl ?_
      refine eg_iaload dX10_fits_68 (arC_34 hp6 g9) ?_
      obtain ⟨g10, h⟩ := h
      refine en_iastore dX10_fits_69 (arC_35 hp8 g10) (fun M11 eM11 => ?_)
      have h := h M11 eM11
      exact h
set_option maxRecDepth 10000 in
theorem vX10_fits_70 {κ : eg_K} {d : Nat} (hd : 1 ≤ d) {post : Int32 → eg_H → Prop} (M : eg_H) (l1 : Int32) (l2 : Int32) (h : eCI κ gC mtX10_fitsSpare d [vR (10, 0)] M (fun x1 M2 => (x1 = 0 → (∀ x5 : Int32, x5 = (l2 + (1 : Int32)) → eg_W κ gC mtX10_fits d (eQI κ gC post) 11 [(0, vR (10, 0)), (1, vI l1), (2, vI x5)] [] M2)) ∧ ((¬ x1 = 0) → (∀ x6 : Int32, x6 = (l1 ||| ((1 : Int32) <<< (l2 &&& 31))) → (∀ x7 : Int32, x7 = (l2 + (1 : Int32)) → eg_W κ gC mtX10_fits d (eQI κ gC post) 11 [(0, vR (10, 0)), (1, vI x6), (2, vI x7)] [] M2))))) : eg_W κ gC mtX10_fits d (eQI κ gC post) 70 [(0, vR (10, 0)), (1, vI l1), (2, vI l2)] [] M := by
  refine eg_aload_n 0 dX10_fits_70 rfl rfl ?_
  obtain ⟨q3, hq3, h⟩ := h
  refine eg_callVI (av := []) (st := []) dX10_fits_71 ml_10_390 rfl rfl (obC_10 z1) (by decide) rfl (Nat.le_of_ble_eq_true rfl) (eg_dd (by omega)) hq3 (fun x1 M2 hp => ?_)
  have h := h x1 M2 hp
  refine eg_if_eq (tgt := 83) dX10_fits_74 rfl (fun c4 => ?_) (fun c4 => ?_)
  · have h := h.1 c4
    refine en_iinc (f := fun x5 => [(2, vI x5), (0, vR (10, 0)), (1, vI l1)]) 2 dX10_fits_83 rfl rfl (by decide) rfl (fun x5 ex5 => ?_)
    have h := h x5 ex5
    refine eg_goto (tgt := 11) dX10_fits_86 rfl ?_
    refine eg_sub [1, 2, 0] rfl ?_
    exact h
  · have h := h.2 c4
    refine eg_iload_n 1 dX10_fits_77 rfl rfl ?_
    refine eg_iconst dX10_fits_78 ic_1 ?_
    refine eg_iload_n 2 dX10_fits_79 rfl rfl ?_
    refine eg_ishl dX10_fits_80 ?_
    refine eg_ior dX10_fits_81 ?_
    refine en_istore_n (f := fun x6 => [(1, vI x6), (0, vR (10, 0)), (2, vI l2)]) dX10_fits_82 rfl (by decide) rfl (fun x6 ex6 => ?_)
    have h := h x6 ex6
    refine en_iinc (f := fun x7 => [(2, vI x7), (1, vI x6), (0, vR (10, 0))]) 2 dX10_fits_83 rfl rfl (by decide) rfl (fun x7 ex7 => ?_)
    have h := h x7 ex7
    refine eg_goto (tgt := 11) dX10_fits_86 rfl ?_
    refine eg_sub [2, 1, 0] rfl ?_
    exact h
theorem dX10_fitsSpare_0 : decode cX10_fitsSpare 0 = .ok (.aload_n 0, 1) := by decide +kernel
theorem dX10_fitsSpare_1 : decode cX10_fitsSpare 1 = .ok (.getfield 69, 3) := by decide +kernel
theorem dX10_fitsSpare_4 : decode cX10_fitsSpare 4 = .ok (.aload_n 0, 1) := by decide +kernel
theorem dX10_fitsSpare_5 : decode cX10_fitsSpare 5 = .ok (.getfield 36, 3) := by decide +kernel
theorem dX10_fitsSpare_8 : decode cX10_fitsSpare 8 = .ok (.aload_n 0, 1) := by decide +kernel
theorem dX10_fitsSpare_9 : decode cX10_fitsSpare 9 = .ok (.getfield 65, 3) := by decide +kernel
theorem dX10_fitsSpare_12 : decode cX10_fitsSpare 12 = .ok (.getfield 234, 3) := by decide +kernel
theorem dX10_fitsSpare_15 : decode cX10_fitsSpare 15 = .ok (.invokevirtual 106, 3) := by decide +kernel
theorem dX10_fitsSpare_18 : decode cX10_fitsSpare 18 = .ok (.aload_n 0, 1) := by decide +kernel
theorem dX10_fitsSpare_19 : decode cX10_fitsSpare 19 = .ok (.getfield 46, 3) := by decide +kernel
theorem dX10_fitsSpare_22 : decode cX10_fitsSpare 22 = .ok (.iconst 0, 1) := by decide +kernel
theorem dX10_fitsSpare_23 : decode cX10_fitsSpare 23 = .ok (.invokevirtual 393, 3) := by decide +kernel
theorem dX10_fitsSpare_26 : decode cX10_fitsSpare 26 = .ok (.istore_n 1, 1) := by decide +kernel
theorem dX10_fitsSpare_27 : decode cX10_fitsSpare 27 = .ok (.iconst 0, 1) := by decide +kernel
theorem dX10_fitsSpare_28 : decode cX10_fitsSpare 28 = .ok (.istore_n 2, 1) := by decide +kernel
theorem dX10_fitsSpare_29 : decode cX10_fitsSpare 29 = .ok (.iload_n 2, 1) := by decide +kernel
theorem dX10_fitsSpare_30 : decode cX10_fitsSpare 30 = .ok (.bipush 40, 2) := by decide +kernel
theorem dX10_fitsSpare_32 : decode cX10_fitsSpare 32 = .ok (.if_icmp .ge 64, 3) := by decide +kernel
theorem dX10_fitsSpare_35 : decode cX10_fitsSpare 35 = .ok (.iload_n 1, 1) := by decide +kernel
theorem dX10_fitsSpare_36 : decode cX10_fitsSpare 36 = .ok (.iconst (-1), 1) := by decide +kernel
theorem dX10_fitsSpare_37 : decode cX10_fitsSpare 37 = .ok (.if_icmp .eq 59, 3) := by decide +kernel
theorem dX10_fitsSpare_40 : decode cX10_fitsSpare 40 = .ok (.aload_n 0, 1) := by decide +kernel
theorem dX10_fitsSpare_41 : decode cX10_fitsSpare 41 = .ok (.getfield 69, 3) := by decide +kernel
theorem dX10_fitsSpare_44 : decode cX10_fitsSpare 44 = .ok (.iload_n 1, 1) := by decide +kernel
theorem dX10_fitsSpare_45 : decode cX10_fitsSpare 45 = .ok (.iconst 1, 1) := by decide +kernel
theorem dX10_fitsSpare_46 : decode cX10_fitsSpare 46 = .ok (.iadd, 1) := by decide +kernel
theorem dX10_fitsSpare_47 : decode cX10_fitsSpare 47 = .ok (.aload_n 0, 1) := by decide +kernel
theorem dX10_fitsSpare_48 : decode cX10_fitsSpare 48 = .ok (.getfield 69, 3) := by decide +kernel
theorem dX10_fitsSpare_51 : decode cX10_fitsSpare 51 = .ok (.getfield 243, 3) := by decide +kernel
theorem dX10_fitsSpare_54 : decode cX10_fitsSpare 54 = .ok (.isub, 1) := by decide +kernel
theorem dX10_fitsSpare_55 : decode cX10_fitsSpare 55 = .ok (.invokevirtual 246, 3) := by decide +kernel
theorem dX10_fitsSpare_58 : decode cX10_fitsSpare 58 = .ok (.aload_n 0, 1) := by decide +kernel
theorem dX10_fitsSpare_59 : decode cX10_fitsSpare 59 = .ok (.getfield 46, 3) := by decide +kernel
theorem dX10_fitsSpare_62 : decode cX10_fitsSpare 62 = .ok (.iload_n 1, 1) := by decide +kernel
theorem dX10_fitsSpare_63 : decode cX10_fitsSpare 63 = .ok (.aload_n 0, 1) := by decide +kernel
theorem dX10_fitsSpare_64 : decode cX10_fitsSpare 64 = .ok (.getfield 69, 3) := by decide +kernel
theorem dX10_fitsSpare_67 : decode cX10_fitsSpare 67 = .ok (.invokevirtual 396, 3) := by decide +kernel
theorem dX10_fitsSpare_70 : decode cX10_fitsSpare 70 = .ok (.ifCond .ne 5, 3) := by decide +kernel
theorem dX10_fitsSpare_73 : decode cX10_fitsSpare 73 = .ok (.iconst 0, 1) := by decide +kernel
theorem dX10_fitsSpare_74 : decode cX10_fitsSpare 74 = .ok (.ireturn, 1) := by decide +kernel
theorem dX10_fitsSpare_75 : decode cX10_fitsSpare 75 = .ok (.aload_n 0, 1) := by decide +kernel
theorem dX10_fitsSpare_76 : decode cX10_fitsSpare 76 = .ok (.getfield 46, 3) := by decide +kernel
theorem dX10_fitsSpare_79 : decode cX10_fitsSpare 79 = .ok (.aload_n 0, 1) := by decide +kernel
theorem dX10_fitsSpare_80 : decode cX10_fitsSpare 80 = .ok (.getfield 69, 3) := by decide +kernel
theorem dX10_fitsSpare_83 : decode cX10_fitsSpare 83 = .ok (.getfield 243, 3) := by decide +kernel
theorem dX10_fitsSpare_86 : decode cX10_fitsSpare 86 = .ok (.invokevirtual 393, 3) := by decide +kernel
theorem dX10_fitsSpare_89 : decode cX10_fitsSpare 89 = .ok (.istore_n 1, 1) := by decide +kernel
theorem dX10_fitsSpare_90 : decode cX10_fitsSpare 90 = .ok (.iinc 2 1, 3) := by decide +kernel
theorem dX10_fitsSpare_93 : decode cX10_fitsSpare 93 = .ok (.goto (-64), 3) := by decide +kernel
theorem dX10_fitsSpare_96 : decode cX10_fitsSpare 96 = .ok (.iconst 1, 1) := by decide +kernel
theorem dX10_fitsSpare_97 : decode cX10_fitsSpare 97 = .ok (.ireturn, 1) := by decide +kernel
set_option maxRecDepth 10000 in
theorem vX10_fitsSpare_0 {κ : eg_K} {d : Nat} (hd : 1 ≤ d) {post : Int32 → eg_H → Prop} (M : eg_H)  (h : (∃ p1 : Nat, p1 < 2 ∧ M.2.2 (10, 0) 4 = (5, p1) ∧ eCV κ gC mtX7_begin d [vR (7, 1), vR (5, p1), vR (40, 0)] M (fun M2 => eCI κ gC mtX8_nextSecond d [vR (8, 0), vI (0 : Int32)] M2 (fun x4 M5 => eg_W κ gC mtX10_fitsSpare d (eQI κ gC post) 29 [(0, vR (10, 0)), (1, vI x4), (2, vI (0 : Int32))] [] M5)))) : eg_W κ gC mtX10_fitsSpare d (eQI κ gC post) 0 [(0, vR (10, 0))] [] M := by
  refine eg_aload_n 0 dX10_fitsSpare_0 rfl rfl ?_
  refine eg_getR dX10_fitsSpare_1 fl_10_69 rfl rfl (obC_10 z1) ?_
  show eg_W κ gC mtX10_fitsSpare d (eQI κ gC post) 4 [(0, vR (10, 0))] [vR (7, 1)] M
  refine eg_aload_n 0 dX10_fitsSpare_4 rfl rfl ?_
  refine eg_getD dX10_fitsSpare_5 fl_10_36 rfl rfl (obC_10 z1) ?_
  obtain ⟨p1, hp1, ep1, h⟩ := h
  rw [ep1]
  refine eg_aload_n 0 dX10_fitsSpare_8 rfl rfl ?_
  refine eg_getR dX10_fitsSpare_9 fl_10_65 rfl rfl (obC_10 z1) ?_
  show eg_W κ gC mtX10_fitsSpare d (eQI κ gC post) 12 [(0, vR (10, 0))] [vR (7, 0), vR (5, p1), vR (7, 1)] M
  refine eg_getR dX10_fitsSpare_12 fl_10_234 rfl rfl (obC_7 (by decide : 0 < 4)) ?_
  show eg_W κ gC mtX10_fitsSpare d (eQI κ gC post) 15 [(0, vR (10, 0))] [vR (40, 0), vR (5, p1), vR (7, 1)] M
  obtain ⟨q3, hq3, h⟩ := h
  refine eg_callVV (av := [vR (5, p1), vR (40, 0)]) (st := []) dX10_fitsSpare_15 ml_10_106 rfl rfl (obC_7 (by decide : 1 < 4)) (by decide) rfl (Nat.le_of_ble_eq_true rfl) (eg_dd (by omega)) hq3 (fun M2 hp => ?_)
  have h := h M2 hp
  refine eg_aload_n 0 dX10_fitsSpare_18 rfl rfl ?_
  refine eg_getR dX10_fitsSpare_19 fl_10_46 rfl rfl (obC_10 z1) ?_
  show eg_W κ gC mtX10_fitsSpare d (eQI κ gC post) 22 [(0, vR (10, 0))] [vR (8, 0)] M2
  refine eg_iconst dX10_fitsSpare_22 ic_0 ?_
  obtain ⟨q6, hq6, h⟩ := h
  refine eg_callVI (av := [vI (0 : Int32)]) (st := []) dX10_fitsSpare_23 ml_10_393 rfl rfl (obC_8 z1) (by decide) rfl (Nat.le_of_ble_eq_true rfl) (eg_dd (by omega)) hq6 (fun x4 M5 hp => ?_)
  have h := h x4 M5 hp
  refine eg_istore_n dX10_fitsSpare_26 rfl (by decide) (ls1 := [(1, vI x4), (0, vR (10, 0))]) rfl ?_
  refine eg_iconst dX10_fitsSpare_27 ic_0 ?_
  refine eg_istore_n dX10_fitsSpare_28 rfl (by decide) (ls1 := [(2, vI (0 : Int32)), (1, vI x4), (0, vR (10, 0))]) rfl ?_
  refine eg_sub [2, 1, 0] rfl ?_
  exact h
set_option maxRecDepth 10000 in
theorem vX10_fitsSpare_29 {κ : eg_K} {d : Nat} (hd : 1 ≤ d) {post : Int32 → eg_H → Prop} (M : eg_H) (l1 : Int32) (l2 : Int32) (h : ((40 : Int32) ≤ l2 → post (1 : Int32) M) ∧ ((¬ (40 : Int32) ≤ l2) → (l1 = (-1 : Int32) → post (1 : Int32) M) ∧ ((¬ l1 = (-1 : Int32)) → eCV κ gC mtX7_go d [vR (7, 1), vI ((l1 + (1 : Int32)) - (M.1 (7, 1) 1))] M (fun M3 => eCI κ gC mtX8_agrees d [vR (8, 0), vI l1, vR (7, 1)] M3 (fun x5 M6 => ((¬ x5 = 0) → eCI κ gC mtX8_nextSecond d [vR (8, 0), vI (M6.1 (7, 1) 1)] M6 (fun x9 M10 => (∀ x12 : Int32, x12 = (l2 + (1 : Int32)) → eg_W κ gC mtX10_fitsSpare d (eQI κ gC post) 29 [(0, vR (10, 0)), (1, vI x9), (2, vI x12)] [] M10))) ∧ (x5 = 0 → post (0 : Int32) M6)))))) : eg_W κ gC mtX10_fitsSpare d (eQI κ gC post) 29 [(0, vR (10, 0)), (1, vI l1), (2, vI l2)] [] M := by
  refine eg_iload_n 2 dX10_fitsSpare_29 rfl rfl ?_
  refine eg_bipush dX10_fitsSpare_30 bp_40 ?_
  refine eg_icmp_ge (tgt := 96) dX10_fitsSpare_32 rfl (fun c1 => ?_) (fun c1 => ?_)
  · have h := h.1 c1
    refine eg_iconst dX10_fitsSpare_96 ic_1 ?_
    exact eg_zreturn dX10_fitsSpare_97 rfl (Or.inr rfl) h
  · have h := h.2 c1
    refine eg_iload_n 1 dX10_fitsSpare_35 rfl rfl ?_
    refine eg_iconst dX10_fitsSpare_36 ic_m1 ?_
    refine eg_icmp_eq (tgt := 96) dX10_fitsSpare_37 rfl (fun c2 => ?_) (fun c2 => ?_)
    · have h := h.1 c2
      refine eg_iconst dX10_fitsSpare_96 ic_1 ?_
      exact eg_zreturn dX10_fitsSpare_97 rfl (Or.inr rfl) h
    · have h := h.2 c2
      refine eg_aload_n 0 dX10_fitsSpare_40 rfl rfl ?_
      refine eg_getR dX10_fitsSpare_41 fl_10_69 rfl rfl (obC_10 z1) ?_
      show eg_W κ gC mtX10_fitsSpare d (eQI κ gC post) 44 [(0, vR (10, 0)), (1, vI l1), (2, vI l2)] [vR (7, 1)] M
      refine eg_iload_n 1 dX10_fitsSpare_44 rfl rfl ?_
      refine eg_iconst dX10_fitsSpare_45 ic_1 ?_
      refine eg_iadd dX10_fitsSpare_46 ?_
      refine eg_aload_n 0 dX10_fitsSpare_47 rfl rfl ?_
      refine eg_getR dX10_fitsSpare_48 fl_10_69 rfl rfl (obC_10 z1) ?_
      show eg_W κ gC mtX10_fitsSpare d (eQI κ gC post) 51 [(0, vR (10, 0)), (1, vI l1), (2, vI l2)] [vR (7, 1), vI (l1 + (1 : Int32)), vR (7, 1)] M
      refine eg_getI dX10_fitsSpare_51 fl_10_243 rfl trivial (obC_7 (by decide : 1 < 4)) ?_
      refine eg_isub dX10_fitsSpare_54 ?_
      obtain ⟨q4, hq4, h⟩ := h
      refine eg_callVV (av := [vI ((l1 + (1 : Int32)) - (M.1 (7, 1) 1))]) (st := []) dX10_fitsSpare_55 ml_10_246 rfl rfl (obC_7 (by decide : 1 < 4)) (by decide) rfl (Nat.le_of_ble_eq_true rfl) (eg_dd (by omega)) hq4 (fun M3 hp => ?_)
      have h := h M3 hp
      refine eg_aload_n 0 dX10_fitsSpare_58 rfl rfl ?_
      refine eg_getR dX10_fitsSpare_59 fl_10_46 rfl rfl (obC_10 z1) ?_
      show eg_W κ gC mtX10_fitsSpare d (eQI κ gC post) 62 [(0, vR (10, 0)), (1, vI l1), (2, vI l2)] [vR (8, 0)] M3
      refine eg_iload_n 1 dX10_fitsSpare_62 rfl rfl ?_
      refine eg_aload_n 0 dX10_fitsSpare_63 rfl rfl ?_
      refine eg_getR dX10_fitsSpare_64 fl_10_69 rfl rfl (obC_10 z1) ?_
      show eg_W κ gC mtX10_fitsSpare d (eQI κ gC post) 67 [(0, vR (10, 0)), (1, vI l1), (2, vI l2)] [vR (7, 1), vI l1, vR (8, 0)] M3
      obtain ⟨q7, hq7, h⟩ := h
      refine eg_callVI (av := [vI l1, vR (7, 1)]) (st := []) dX10_fitsSpare_67 ml_10_396 rfl rfl (obC_8 z1) (by decide) rfl (Nat.le_of_ble_eq_true rfl) (eg_dd (by omega)) hq7 (fun x5 M6 hp => ?_)
      have h := h x5 M6 hp
      refine eg_if_ne (tgt := 75) dX10_fitsSpare_70 rfl (fun c8 => ?_) (fun c8 => ?_)
      · have h := h.1 c8
        refine eg_aload_n 0 dX10_fitsSpare_75 rfl rfl ?_
        refine eg_getR dX10_fitsSpare_76 fl_10_46 rfl rfl (obC_10 z1) ?_
        show eg_W κ gC mtX10_fitsSpare d (eQI κ gC post) 79 [(0, vR (10, 0)), (1, vI l1), (2, vI l2)] [vR (8, 0)] M6
        refine eg_aload_n 0 dX10_fitsSpare_79 rfl rfl ?_
        refine eg_getR dX10_fitsSpare_80 fl_10_69 rfl rfl (obC_10 z1) ?_
        show eg_W κ gC mtX10_fitsSpare d (eQI κ gC post) 83 [(0, vR (10, 0)), (1, vI l1), (2, vI l2)] [vR (7, 1), vR (8, 0)] M6
        refine eg_getI dX10_fitsSpare_83 fl_10_243 rfl trivial (obC_7 (by decide : 1 < 4)) ?_
        obtain ⟨q11, hq11, h⟩ := h
        refine eg_callVI (av := [vI (M6.1 (7, 1) 1)]) (st := []) dX10_fitsSpare_86 ml_10_393 rfl rfl (obC_8 z1) (by decide) rfl (Nat.le_of_ble_eq_true rfl) (eg_dd (by omega)) hq11 (fun x9 M10 hp => ?_)
        have h := h x9 M10 hp
        refine eg_istore_n dX10_fitsSpare_89 rfl (by decide) (ls1 := [(1, vI x9), (0, vR (10, 0)), (2, vI l2)]) rfl ?_
        refine en_iinc (f := fun x12 => [(2, vI x12), (1, vI x9), (0, vR (10, 0))]) 2 dX10_fitsSpare_90 rfl rfl (by decide) rfl (fun x12 ex12 => ?_)
        have h := h x12 ex12
        refine eg_goto (tgt := 29) dX10_fitsSpare_93 rfl ?_
        refine eg_sub [2, 1, 0] rfl ?_
        exact h
      · have h := h.2 c8
        refine eg_iconst dX10_fitsSpare_73 ic_0 ?_
        exact eg_zreturn dX10_fitsSpare_74 rfl (Or.inl rfl) h
theorem dX10_keep_0 : decode cX10_keep 0 = .ok (.aload_n 0, 1) := by decide +kernel
theorem dX10_keep_1 : decode cX10_keep 1 = .ok (.getfield 72, 3) := by decide +kernel
theorem dX10_keep_4 : decode cX10_keep 4 = .ok (.aload_n 0, 1) := by decide +kernel
theorem dX10_keep_5 : decode cX10_keep 5 = .ok (.getfield 65, 3) := by decide +kernel
theorem dX10_keep_8 : decode cX10_keep 8 = .ok (.invokevirtual 253, 3) := by decide +kernel
theorem dX10_keep_11 : decode cX10_keep 11 = .ok (.aload_n 0, 1) := by decide +kernel
theorem dX10_keep_12 : decode cX10_keep 12 = .ok (.iconst 1, 1) := by decide +kernel
theorem dX10_keep_13 : decode cX10_keep 13 = .ok (.putfield 109, 3) := by decide +kernel
theorem dX10_keep_16 : decode cX10_keep 16 = .ok (.aload_n 0, 1) := by decide +kernel
theorem dX10_keep_17 : decode cX10_keep 17 = .ok (.getfield 65, 3) := by decide +kernel
theorem dX10_keep_20 : decode cX10_keep 20 = .ok (.getfield 243, 3) := by decide +kernel
theorem dX10_keep_23 : decode cX10_keep 23 = .ok (.ireturn, 1) := by decide +kernel
set_option maxRecDepth 10000 in
theorem vX10_keep_0 {κ : eg_K} {d : Nat} (hd : 1 ≤ d) {post : Int32 → eg_H → Prop} (M : eg_H)  (h : eCV κ gC mtX7_copyFrom d [vR (7, 2), vR (7, 0)] M (fun M1 => (∀ M3 : eg_H, M3 = (sI M1 (10, 0) 8 (1 : Int32)) → post (M3.1 (7, 0) 1) M3))) : eg_W κ gC mtX10_keep d (eQI κ gC post) 0 [(0, vR (10, 0))] [] M := by
  refine eg_aload_n 0 dX10_keep_0 rfl rfl ?_
  refine eg_getR dX10_keep_1 fl_10_72 rfl rfl (obC_10 z1) ?_
  show eg_W κ gC mtX10_keep d (eQI κ gC post) 4 [(0, vR (10, 0))] [vR (7, 2)] M
  refine eg_aload_n 0 dX10_keep_4 rfl rfl ?_
  refine eg_getR dX10_keep_5 fl_10_65 rfl rfl (obC_10 z1) ?_
  show eg_W κ gC mtX10_keep d (eQI κ gC post) 8 [(0, vR (10, 0))] [vR (7, 0), vR (7, 2)] M
  obtain ⟨q2, hq2, h⟩ := h
  refine eg_callVV (av := [vR (7, 0)]) (st := []) dX10_keep_8 ml_10_253 rfl rfl (obC_7 (by decide : 2 < 4)) (by decide) rfl (Nat.le_of_ble_eq_true rfl) (eg_dd (by omega)) hq2 (fun M1 hp => ?_)
  have h := h M1 hp
  refine eg_aload_n 0 dX10_keep_11 rfl rfl ?_
  refine eg_iconst dX10_keep_12 ic_1 ?_
  refine en_putZ dX10_keep_13 fl_10_109 rfl rfl (Or.inr rfl) (obC_10 z1) (fun M3 eM3 => ?_)
  have h := h M3 eM3
  refine eg_aload_n 0 dX10_keep_16 rfl rfl ?_
  refine eg_getR dX10_keep_17 fl_10_65 rfl rfl (obC_10 z1) ?_
  show eg_W κ gC mtX10_keep d (eQI κ gC post) 20 [(0, vR (10, 0))] [vR (7, 0)] M3
  refine eg_getI dX10_keep_20 fl_10_243 rfl trivial (obC_7 (by decide : 0 < 4)) ?_
  exact eg_ireturn dX10_keep_23 rfl h
theorem dX10_back_0 : decode cX10_back 0 = .ok (.aload_n 0, 1) := by decide +kernel
theorem dX10_back_1 : decode cX10_back 1 = .ok (.getfield 109, 3) := by decide +kernel
theorem dX10_back_4 : decode cX10_back 4 = .ok (.ifCond .ne 5, 3) := by decide +kernel
theorem dX10_back_7 : decode cX10_back 7 = .ok (.iconst (-1), 1) := by decide +kernel
theorem dX10_back_8 : decode cX10_back 8 = .ok (.ireturn, 1) := by decide +kernel
theorem dX10_back_9 : decode cX10_back 9 = .ok (.aload_n 0, 1) := by decide +kernel
theorem dX10_back_10 : decode cX10_back 10 = .ok (.getfield 65, 3) := by decide +kernel
theorem dX10_back_13 : decode cX10_back 13 = .ok (.aload_n 0, 1) := by decide +kernel
theorem dX10_back_14 : decode cX10_back 14 = .ok (.getfield 72, 3) := by decide +kernel
theorem dX10_back_17 : decode cX10_back 17 = .ok (.invokevirtual 253, 3) := by decide +kernel
theorem dX10_back_20 : decode cX10_back 20 = .ok (.aload_n 0, 1) := by decide +kernel
theorem dX10_back_21 : decode cX10_back 21 = .ok (.iconst 0, 1) := by decide +kernel
theorem dX10_back_22 : decode cX10_back 22 = .ok (.putfield 113, 3) := by decide +kernel
theorem dX10_back_25 : decode cX10_back 25 = .ok (.aload_n 0, 1) := by decide +kernel
theorem dX10_back_26 : decode cX10_back 26 = .ok (.getfield 65, 3) := by decide +kernel
theorem dX10_back_29 : decode cX10_back 29 = .ok (.getfield 243, 3) := by decide +kernel
theorem dX10_back_32 : decode cX10_back 32 = .ok (.ireturn, 1) := by decide +kernel
set_option maxRecDepth 10000 in
theorem vX10_back_0 {κ : eg_K} {d : Nat} (hd : 1 ≤ d) {post : Int32 → eg_H → Prop} (M : eg_H)  (h : ((¬ (M.1 (10, 0) 8) = 0) → eCV κ gC mtX7_copyFrom d [vR (7, 0), vR (7, 2)] M (fun M2 => (∀ M4 : eg_H, M4 = (sI M2 (10, 0) 11 (0 : Int32)) → post (M4.1 (7, 0) 1) M4))) ∧ ((M.1 (10, 0) 8) = 0 → post (-1 : Int32) M)) : eg_W κ gC mtX10_back d (eQI κ gC post) 0 [(0, vR (10, 0))] [] M := by
  refine eg_aload_n 0 dX10_back_0 rfl rfl ?_
  refine eg_getI dX10_back_1 fl_10_109 rfl trivial (obC_10 z1) ?_
  refine eg_if_ne (tgt := 9) dX10_back_4 rfl (fun c1 => ?_) (fun c1 => ?_)
  · have h := h.1 c1
    refine eg_aload_n 0 dX10_back_9 rfl rfl ?_
    refine eg_getR dX10_back_10 fl_10_65 rfl rfl (obC_10 z1) ?_
    show eg_W κ gC mtX10_back d (eQI κ gC post) 13 [(0, vR (10, 0))] [vR (7, 0)] M
    refine eg_aload_n 0 dX10_back_13 rfl rfl ?_
    refine eg_getR dX10_back_14 fl_10_72 rfl rfl (obC_10 z1) ?_
    show eg_W κ gC mtX10_back d (eQI κ gC post) 17 [(0, vR (10, 0))] [vR (7, 2), vR (7, 0)] M
    obtain ⟨q3, hq3, h⟩ := h
    refine eg_callVV (av := [vR (7, 2)]) (st := []) dX10_back_17 ml_10_253 rfl rfl (obC_7 (by decide : 0 < 4)) (by decide) rfl (Nat.le_of_ble_eq_true rfl) (eg_dd (by omega)) hq3 (fun M2 hp => ?_)
    have h := h M2 hp
    refine eg_aload_n 0 dX10_back_20 rfl rfl ?_
    refine eg_iconst dX10_back_21 ic_0 ?_
    refine en_putI dX10_back_22 fl_10_113 rfl rfl (obC_10 z1) (fun M4 eM4 => ?_)
    have h := h M4 eM4
    refine eg_aload_n 0 dX10_back_25 rfl rfl ?_
    refine eg_getR dX10_back_26 fl_10_65 rfl rfl (obC_10 z1) ?_
    show eg_W κ gC mtX10_back d (eQI κ gC post) 29 [(0, vR (10, 0))] [vR (7, 0)] M4
    refine eg_getI dX10_back_29 fl_10_243 rfl trivial (obC_7 (by decide : 0 < 4)) ?_
    exact eg_ireturn dX10_back_32 rfl h
  · have h := h.2 c1
    refine eg_iconst dX10_back_7 ic_m1 ?_
    exact eg_ireturn dX10_back_8 rfl h
theorem dX10_all_0 : decode cX10_all 0 = .ok (.iload_n 1, 1) := by decide +kernel
theorem dX10_all_1 : decode cX10_all 1 = .ok (.tableswitch 171 0 12 #[67, 75, 83, 91, 102, 110, 118, 126, 131, 139, 147, 155, 163], 67) := by decide +kernel
theorem dX10_all_68 : decode cX10_all 68 = .ok (.aload_n 0, 1) := by decide +kernel
theorem dX10_all_69 : decode cX10_all 69 = .ok (.getfield 32, 3) := by decide +kernel
theorem dX10_all_72 : decode cX10_all 72 = .ok (.getfield 295, 3) := by decide +kernel
theorem dX10_all_75 : decode cX10_all 75 = .ok (.ireturn, 1) := by decide +kernel
theorem dX10_all_76 : decode cX10_all 76 = .ok (.aload_n 0, 1) := by decide +kernel
theorem dX10_all_77 : decode cX10_all 77 = .ok (.getfield 32, 3) := by decide +kernel
theorem dX10_all_80 : decode cX10_all 80 = .ok (.getfield 309, 3) := by decide +kernel
theorem dX10_all_83 : decode cX10_all 83 = .ok (.ireturn, 1) := by decide +kernel
theorem dX10_all_84 : decode cX10_all 84 = .ok (.aload_n 0, 1) := by decide +kernel
theorem dX10_all_85 : decode cX10_all 85 = .ok (.getfield 32, 3) := by decide +kernel
theorem dX10_all_88 : decode cX10_all 88 = .ok (.getfield 381, 3) := by decide +kernel
theorem dX10_all_91 : decode cX10_all 91 = .ok (.ireturn, 1) := by decide +kernel
theorem dX10_all_92 : decode cX10_all 92 = .ok (.aload_n 0, 1) := by decide +kernel
theorem dX10_all_93 : decode cX10_all 93 = .ok (.getfield 32, 3) := by decide +kernel
theorem dX10_all_96 : decode cX10_all 96 = .ok (.getfield 354, 3) := by decide +kernel
theorem dX10_all_99 : decode cX10_all 99 = .ok (.getfield 400, 3) := by decide +kernel
theorem dX10_all_102 : decode cX10_all 102 = .ok (.ireturn, 1) := by decide +kernel
theorem dX10_all_103 : decode cX10_all 103 = .ok (.aload_n 0, 1) := by decide +kernel
theorem dX10_all_104 : decode cX10_all 104 = .ok (.getfield 65, 3) := by decide +kernel
theorem dX10_all_107 : decode cX10_all 107 = .ok (.getfield 243, 3) := by decide +kernel
theorem dX10_all_110 : decode cX10_all 110 = .ok (.ireturn, 1) := by decide +kernel
theorem dX10_all_111 : decode cX10_all 111 = .ok (.aload_n 0, 1) := by decide +kernel
theorem dX10_all_112 : decode cX10_all 112 = .ok (.getfield 46, 3) := by decide +kernel
theorem dX10_all_115 : decode cX10_all 115 = .ok (.getfield 374, 3) := by decide +kernel
theorem dX10_all_118 : decode cX10_all 118 = .ok (.ireturn, 1) := by decide +kernel
theorem dX10_all_119 : decode cX10_all 119 = .ok (.aload_n 0, 1) := by decide +kernel
theorem dX10_all_120 : decode cX10_all 120 = .ok (.getfield 46, 3) := by decide +kernel
theorem dX10_all_123 : decode cX10_all 123 = .ok (.invokevirtual 401, 3) := by decide +kernel
theorem dX10_all_126 : decode cX10_all 126 = .ok (.ireturn, 1) := by decide +kernel
theorem dX10_all_127 : decode cX10_all 127 = .ok (.aload_n 0, 1) := by decide +kernel
theorem dX10_all_128 : decode cX10_all 128 = .ok (.getfield 113, 3) := by decide +kernel
theorem dX10_all_131 : decode cX10_all 131 = .ok (.ireturn, 1) := by decide +kernel
theorem dX10_all_132 : decode cX10_all 132 = .ok (.aload_n 0, 1) := by decide +kernel
theorem dX10_all_133 : decode cX10_all 133 = .ok (.getfield 65, 3) := by decide +kernel
theorem dX10_all_136 : decode cX10_all 136 = .ok (.getfield 237, 3) := by decide +kernel
theorem dX10_all_139 : decode cX10_all 139 = .ok (.ireturn, 1) := by decide +kernel
theorem dX10_all_140 : decode cX10_all 140 = .ok (.aload_n 0, 1) := by decide +kernel
theorem dX10_all_141 : decode cX10_all 141 = .ok (.getfield 65, 3) := by decide +kernel
theorem dX10_all_144 : decode cX10_all 144 = .ok (.invokevirtual 314, 3) := by decide +kernel
theorem dX10_all_147 : decode cX10_all 147 = .ok (.ireturn, 1) := by decide +kernel
theorem dX10_all_148 : decode cX10_all 148 = .ok (.aload_n 0, 1) := by decide +kernel
theorem dX10_all_149 : decode cX10_all 149 = .ok (.getfield 65, 3) := by decide +kernel
theorem dX10_all_152 : decode cX10_all 152 = .ok (.invokevirtual 317, 3) := by decide +kernel
theorem dX10_all_155 : decode cX10_all 155 = .ok (.ireturn, 1) := by decide +kernel
theorem dX10_all_156 : decode cX10_all 156 = .ok (.aload_n 0, 1) := by decide +kernel
theorem dX10_all_157 : decode cX10_all 157 = .ok (.getfield 65, 3) := by decide +kernel
theorem dX10_all_160 : decode cX10_all 160 = .ok (.invokevirtual 404, 3) := by decide +kernel
theorem dX10_all_163 : decode cX10_all 163 = .ok (.ireturn, 1) := by decide +kernel
theorem dX10_all_164 : decode cX10_all 164 = .ok (.aload_n 0, 1) := by decide +kernel
theorem dX10_all_165 : decode cX10_all 165 = .ok (.getfield 65, 3) := by decide +kernel
theorem dX10_all_168 : decode cX10_all 168 = .ok (.invokevirtual 277, 3) := by decide +kernel
theorem dX10_all_171 : decode cX10_all 171 = .ok (.ireturn, 1) := by decide +kernel
theorem dX10_all_172 : decode cX10_all 172 = .ok (.iconst (-1), 1) := by decide +kernel
theorem dX10_all_173 : decode cX10_all 173 = .ok (.ireturn, 1) := by decide +kernel
set_option maxRecDepth 10000 in
theorem vX10_all_0 {κ : eg_K} {d : Nat} (hd : 1 ≤ d) {post : Int32 → eg_H → Prop} (M : eg_H) (l1 : Int32) (h : ((¬ l1 = (0 : Int32)) → (¬ l1 = (1 : Int32)) → (¬ l1 = (2 : Int32)) → (¬ l1 = (3 : Int32)) → (¬ l1 = (4 : Int32)) → (¬ l1 = (5 : Int32)) → (¬ l1 = (6 : Int32)) → (¬ l1 = (7 : Int32)) → (¬ l1 = (8 : Int32)) → (¬ l1 = (9 : Int32)) → (¬ l1 = (10 : Int32)) → (¬ l1 = (11 : Int32)) → (¬ l1 = (12 : Int32)) → post (-1 : Int32) M) ∧ (l1 = (0 : Int32) → (∃ p1 : Nat, p1 < 2 ∧ M.2.2 (10, 0) 3 = (5, p1) ∧ post (M.1 (5, p1) 0) M)) ∧ (l1 = (1 : Int32) → (∃ p2 : Nat, p2 < 2 ∧ M.2.2 (10, 0) 3 = (5, p2) ∧ post (M.1 (5, p2) 2) M)) ∧ (l1 = (2 : Int32) → (∃ p3 : Nat, p3 < 2 ∧ M.2.2 (10, 0) 3 = (5, p3) ∧ post (M.1 (5, p3) 7) M)) ∧ (l1 = (3 : Int32) → (∃ p4 : Nat, p4 < 2 ∧ M.2.2 (10, 0) 3 = (5, p4) ∧ post (M.1 (3, p4) 3) M)) ∧ (l1 = (4 : Int32) → post (M.1 (7, 0) 1) M) ∧ (l1 = (5 : Int32) → post (M.1 (8, 0) 0) M) ∧ (l1 = (6 : Int32) → (∀ x6 : Int32, x6 = (fX8_knownCounts M) → post x6 M)) ∧ (l1 = (7 : Int32) → post (M.1 (10, 0) 11) M) ∧ (l1 = (8 : Int32) → post (M.1 (7, 0) 6) M) ∧ (l1 = (9 : Int32) → (gX7_takenInAll M 0 ∧ (∀ x9 : Int32, x9 = (fX7_takenInAll M 0) → post x9 M))) ∧ (l1 = (10 : Int32) → (gX7_leftInAll M 0 ∧ (∀ x12 : Int32, x12 = (fX7_leftInAll M 0) → post x12 M))) ∧ (l1 = (11 : Int32) → (gX7_portionsInAll M 0 ∧ (∀ x15 : Int32, x15 = (fX7_portionsInAll M 0) → post x15 M))) ∧ (l1 = (12 : Int32) → (gX7_waitedByAll M 0 ∧ (∀ x18 : Int32, x18 = (fX7_waitedByAll M 0) → post x18 M)))) : eg_W κ gC mtX10_all d (eQI κ gC post) 0 [(0, vR (10, 0)), (1, vI l1)] [] M := by
  refine eg_iload_n 1 dX10_all_0 rfl rfl ?_
  have J : (¬ l1 = (0 : Int32)) → (¬ l1 = (1 : Int32)) → (¬ l1 = (2 : Int32)) → (¬ l1 = (3 : Int32)) → (¬ l1 = (4 : Int32)) → (¬ l1 = (5 : Int32)) → (¬ l1 = (6 : Int32)) → (¬ l1 = (7 : Int32)) → (¬ l1 = (8 : Int32)) → (¬ l1 = (9 : Int32)) → (¬ l1 = (10 : Int32)) → (¬ l1 = (11 : Int32)) → (¬ l1 = (12 : Int32)) → eg_W κ gC mtX10_all d (eQI κ gC post) 172 [(0, vR (10, 0)), (1, vI l1)] [] M := by
    intro c0_ c1_ c2_ c3_ c4_ c5_ c6_ c7_ c8_ c9_ c10_ c11_ c12_
    have h := h.1 c0_ c1_ c2_ c3_ c4_ c5_ c6_ c7_ c8_ c9_ c10_ c11_ c12_
    refine eg_iconst dX10_all_172 ic_m1 ?_
    exact eg_ireturn dX10_all_173 rfl h
  by_cases c0_ : l1 = (0 : Int32)
  · refine eg_tabI (tgt := 68) dX10_all_1 (by rw [c0_]; decide) (by rw [c0_]; decide) (off := 67) (by rw [c0_]; rfl) rfl ?_
    have h := h.2.1 c0_
    refine eg_aload_n 0 dX10_all_68 rfl rfl ?_
    refine eg_getD dX10_all_69 fl_10_32 rfl rfl (obC_10 z1) ?_
    obtain ⟨p1, hp1, ep1, h⟩ := h
    rw [ep1]
    refine eg_getI dX10_all_72 fl_10_295 rfl trivial (obC_5 hp1) ?_
    exact eg_ireturn dX10_all_75 rfl h
  by_cases c1_ : l1 = (1 : Int32)
  · refine eg_tabI (tgt := 76) dX10_all_1 (by rw [c1_]; decide) (by rw [c1_]; decide) (off := 75) (by rw [c1_]; rfl) rfl ?_
    have h := h.2.2.1 c1_
    refine eg_aload_n 0 dX10_all_76 rfl rfl ?_
    refine eg_getD dX10_all_77 fl_10_32 rfl rfl (obC_10 z1) ?_
    obtain ⟨p2, hp2, ep2, h⟩ := h
    rw [ep2]
    refine eg_getI dX10_all_80 fl_10_309 rfl trivial (obC_5 hp2) ?_
    exact eg_ireturn dX10_all_83 rfl h
  by_cases c2_ : l1 = (2 : Int32)
  · refine eg_tabI (tgt := 84) dX10_all_1 (by rw [c2_]; decide) (by rw [c2_]; decide) (off := 83) (by rw [c2_]; rfl) rfl ?_
    have h := h.2.2.2.1 c2_
    refine eg_aload_n 0 dX10_all_84 rfl rfl ?_
    refine eg_getD dX10_all_85 fl_10_32 rfl rfl (obC_10 z1) ?_
    obtain ⟨p3, hp3, ep3, h⟩ := h
    rw [ep3]
    refine eg_getI dX10_all_88 fl_10_381 rfl trivial (obC_5 hp3) ?_
    exact eg_ireturn dX10_all_91 rfl h
  by_cases c3_ : l1 = (3 : Int32)
  · refine eg_tabI (tgt := 92) dX10_all_1 (by rw [c3_]; decide) (by rw [c3_]; decide) (off := 91) (by rw [c3_]; rfl) rfl ?_
    have h := h.2.2.2.2.1 c3_
    refine eg_aload_n 0 dX10_all_92 rfl rfl ?_
    refine eg_getD dX10_all_93 fl_10_32 rfl rfl (obC_10 z1) ?_
    obtain ⟨p4, hp4, ep4, h⟩ := h
    rw [ep4]
    refine eg_getR dX10_all_96 fl_10_354 rfl rfl (obC_5 hp4) ?_
    show eg_W κ gC mtX10_all d (eQI κ gC post) 99 [(0, vR (10, 0)), (1, vI l1)] [vR (3, p4)] M
    refine eg_getI dX10_all_99 fl_10_400 rfl trivial (obC_3 hp4) ?_
    exact eg_ireturn dX10_all_102 rfl h
  by_cases c4_ : l1 = (4 : Int32)
  · refine eg_tabI (tgt := 103) dX10_all_1 (by rw [c4_]; decide) (by rw [c4_]; decide) (off := 102) (by rw [c4_]; rfl) rfl ?_
    have h := h.2.2.2.2.2.1 c4_
    refine eg_aload_n 0 dX10_all_103 rfl rfl ?_
    refine eg_getR dX10_all_104 fl_10_65 rfl rfl (obC_10 z1) ?_
    show eg_W κ gC mtX10_all d (eQI κ gC post) 107 [(0, vR (10, 0)), (1, vI l1)] [vR (7, 0)] M
    refine eg_getI dX10_all_107 fl_10_243 rfl trivial (obC_7 (by decide : 0 < 4)) ?_
    exact eg_ireturn dX10_all_110 rfl h
  by_cases c5_ : l1 = (5 : Int32)
  · refine eg_tabI (tgt := 111) dX10_all_1 (by rw [c5_]; decide) (by rw [c5_]; decide) (off := 110) (by rw [c5_]; rfl) rfl ?_
    have h := h.2.2.2.2.2.2.1 c5_
    refine eg_aload_n 0 dX10_all_111 rfl rfl ?_
    refine eg_getR dX10_all_112 fl_10_46 rfl rfl (obC_10 z1) ?_
    show eg_W κ gC mtX10_all d (eQI κ gC post) 115 [(0, vR (10, 0)), (1, vI l1)] [vR (8, 0)] M
    refine eg_getI dX10_all_115 fl_10_374 rfl trivial (obC_8 z1) ?_
    exact eg_ireturn dX10_all_118 rfl h
  by_cases c6_ : l1 = (6 : Int32)
  · refine eg_tabI (tgt := 119) dX10_all_1 (by rw [c6_]; decide) (by rw [c6_]; decide) (off := 118) (by rw [c6_]; rfl) rfl ?_
    have h := h.2.2.2.2.2.2.2.1 c6_
    refine eg_aload_n 0 dX10_all_119 rfl rfl ?_
    refine eg_getR dX10_all_120 fl_10_46 rfl rfl (obC_10 z1) ?_
    show eg_W κ gC mtX10_all d (eQI κ gC post) 123 [(0, vR (10, 0)), (1, vI l1)] [vR (8, 0)] M
    refine eg_callVI (av := []) (st := []) dX10_all_123 ml_10_401 rfl rfl (obC_8 z1) (by decide) rfl (Nat.le_of_ble_eq_true rfl) (eg_dd (by omega)) (sX8_knownCounts (by omega) M   ) (fun x6 M5 hp => ?_)
    obtain ⟨ex6, eM5⟩ := hp
    rw [eM5]
    have h := h x6 ex6
    exact eg_ireturn dX10_all_126 rfl h
  by_cases c7_ : l1 = (7 : Int32)
  · refine eg_tabI (tgt := 127) dX10_all_1 (by rw [c7_]; decide) (by rw [c7_]; decide) (off := 126) (by rw [c7_]; rfl) rfl ?_
    have h := h.2.2.2.2.2.2.2.2.1 c7_
    refine eg_aload_n 0 dX10_all_127 rfl rfl ?_
    refine eg_getI dX10_all_128 fl_10_113 rfl trivial (obC_10 z1) ?_
    exact eg_ireturn dX10_all_131 rfl h
  by_cases c8_ : l1 = (8 : Int32)
  · refine eg_tabI (tgt := 132) dX10_all_1 (by rw [c8_]; decide) (by rw [c8_]; decide) (off := 131) (by rw [c8_]; rfl) rfl ?_
    have h := h.2.2.2.2.2.2.2.2.2.1 c8_
    refine eg_aload_n 0 dX10_all_132 rfl rfl ?_
    refine eg_getR dX10_all_133 fl_10_65 rfl rfl (obC_10 z1) ?_
    show eg_W κ gC mtX10_all d (eQI κ gC post) 136 [(0, vR (10, 0)), (1, vI l1)] [vR (7, 0)] M
    refine eg_getI dX10_all_136 fl_10_237 rfl trivial (obC_7 (by decide : 0 < 4)) ?_
    exact eg_ireturn dX10_all_139 rfl h
  by_cases c9_ : l1 = (9 : Int32)
  · refine eg_tabI (tgt := 140) dX10_all_1 (by rw [c9_]; decide) (by rw [c9_]; decide) (off := 139) (by rw [c9_]; rfl) rfl ?_
    have h := h.2.2.2.2.2.2.2.2.2.2.1 c9_
    refine eg_aload_n 0 dX10_all_140 rfl rfl ?_
    refine eg_getR dX10_all_141 fl_10_65 rfl rfl (obC_10 z1) ?_
    show eg_W κ gC mtX10_all d (eQI κ gC post) 144 [(0, vR (10, 0)), (1, vI l1)] [vR (7, 0)] M
    obtain ⟨g7, h⟩ := h
    refine eg_callVI (av := []) (st := []) dX10_all_144 ml_10_314 rfl rfl (obC_7 (by decide : 0 < 4)) (by decide) rfl (Nat.le_of_ble_eq_true rfl) (eg_dd (by omega)) (sX7_takenInAll (by omega) M 0 (by decide : 0 < 4) g7) (fun x9 M8 hp => ?_)
    obtain ⟨ex9, eM8⟩ := hp
    rw [eM8]
    have h := h x9 ex9
    exact eg_ireturn dX10_all_147 rfl h
  by_cases c10_ : l1 = (10 : Int32)
  · refine eg_tabI (tgt := 148) dX10_all_1 (by rw [c10_]; decide) (by rw [c10_]; decide) (off := 147) (by rw [c10_]; rfl) rfl ?_
    have h := h.2.2.2.2.2.2.2.2.2.2.2.1 c10_
    refine eg_aload_n 0 dX10_all_148 rfl rfl ?_
    refine eg_getR dX10_all_149 fl_10_65 rfl rfl (obC_10 z1) ?_
    show eg_W κ gC mtX10_all d (eQI κ gC post) 152 [(0, vR (10, 0)), (1, vI l1)] [vR (7, 0)] M
    obtain ⟨g10, h⟩ := h
    refine eg_callVI (av := []) (st := []) dX10_all_152 ml_10_317 rfl rfl (obC_7 (by decide : 0 < 4)) (by decide) rfl (Nat.le_of_ble_eq_true rfl) (eg_dd (by omega)) (sX7_leftInAll (by omega) M 0 (by decide : 0 < 4) g10) (fun x12 M11 hp => ?_)
    obtain ⟨ex12, eM11⟩ := hp
    rw [eM11]
    have h := h x12 ex12
    exact eg_ireturn dX10_all_155 rfl h
  by_cases c11_ : l1 = (11 : Int32)
  · refine eg_tabI (tgt := 156) dX10_all_1 (by rw [c11_]; decide) (by rw [c11_]; decide) (off := 155) (by rw [c11_]; rfl) rfl ?_
    have h := h.2.2.2.2.2.2.2.2.2.2.2.2.1 c11_
    refine eg_aload_n 0 dX10_all_156 rfl rfl ?_
    refine eg_getR dX10_all_157 fl_10_65 rfl rfl (obC_10 z1) ?_
    show eg_W κ gC mtX10_all d (eQI κ gC post) 160 [(0, vR (10, 0)), (1, vI l1)] [vR (7, 0)] M
    obtain ⟨g13, h⟩ := h
    refine eg_callVI (av := []) (st := []) dX10_all_160 ml_10_404 rfl rfl (obC_7 (by decide : 0 < 4)) (by decide) rfl (Nat.le_of_ble_eq_true rfl) (eg_dd (by omega)) (sX7_portionsInAll (by omega) M 0 (by decide : 0 < 4) g13) (fun x15 M14 hp => ?_)
    obtain ⟨ex15, eM14⟩ := hp
    rw [eM14]
    have h := h x15 ex15
    exact eg_ireturn dX10_all_163 rfl h
  by_cases c12_ : l1 = (12 : Int32)
  · refine eg_tabI (tgt := 164) dX10_all_1 (by rw [c12_]; decide) (by rw [c12_]; decide) (off := 163) (by rw [c12_]; rfl) rfl ?_
    have h := h.2.2.2.2.2.2.2.2.2.2.2.2.2 c12_
    refine eg_aload_n 0 dX10_all_164 rfl rfl ?_
    refine eg_getR dX10_all_165 fl_10_65 rfl rfl (obC_10 z1) ?_
    show eg_W κ gC mtX10_all d (eQI κ gC post) 168 [(0, vR (10, 0)), (1, vI l1)] [vR (7, 0)] M
    obtain ⟨g16, h⟩ := h
    refine eg_callVI (av := []) (st := []) dX10_all_168 ml_10_277 rfl rfl (obC_7 (by decide : 0 < 4)) (by decide) rfl (Nat.le_of_ble_eq_true rfl) (eg_dd (by omega)) (sX7_waitedByAll (by omega) M 0 (by decide : 0 < 4) g16) (fun x18 M17 hp => ?_)
    obtain ⟨ex18, eM17⟩ := hp
    rw [eM17]
    have h := h x18 ex18
    exact eg_ireturn dX10_all_171 rfl h
  refine eg_tabO (tgt := 172) dX10_all_1 ?_ rfl (J c0_ c1_ c2_ c3_ c4_ c5_ c6_ c7_ c8_ c9_ c10_ c11_ c12_)
  have t0_ := eg_ti 0 (by decide) c0_
  have t1_ := eg_ti 1 (by decide) c1_
  have t2_ := eg_ti 2 (by decide) c2_
  have t3_ := eg_ti 3 (by decide) c3_
  have t4_ := eg_ti 4 (by decide) c4_
  have t5_ := eg_ti 5 (by decide) c5_
  have t6_ := eg_ti 6 (by decide) c6_
  have t7_ := eg_ti 7 (by decide) c7_
  have t8_ := eg_ti 8 (by decide) c8_
  have t9_ := eg_ti 9 (by decide) c9_
  have t10_ := eg_ti 10 (by decide) c10_
  have t11_ := eg_ti 11 (by decide) c11_
  have t12_ := eg_ti 12 (by decide) c12_
  omega
