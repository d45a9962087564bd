/-! A WORD LOOKED UP by the class -/
theorem sX9_wordOfLanguage {κ : eg_K} {d : Nat} (hd : 5 ≤ d) (M : eg_H) {a e : Nat} (ha : M.1 (9, 0) 2 = nI a) (he : M.1 (9, 0) 3 = nI e) (hae : a ≤ e) (he8 : e ≤ 800) : eg_S κ gC mtX9_wordOfLanguage d [vR (9, 0)] M (eQI κ gC (fun r M1 => r = fstL (lsF (fun i => M.1 (50, 0) (a + i)) (e - a)) cWs 0 ∧ M1 = M)) := by
  have z1 : (0 : Nat) < 1 := by decide
  have hlen : eg_wb.length = 121 := by decide +kernel
  rw [← scn_all _ _ cWs 0 words_32c, ← wb_e]
  have key : ∀ (m k w i : Nat) (s : Bool), k + m = 121 → w ≤ k → i ≤ k → eg_W κ gC mtX9_wordOfLanguage d (eQI κ gC (fun r M1 => r = scn (fun i => M.1 (50, 0) (a + i)) (e - a) (eg_wb.drop k) w i s ∧ M1 = M)) 12 [(0, vR (9, 0)), (1, vI (nI w)), (2, vI (nI (a + i))), (3, vI (if s = true then 1 else 0)), (4, vI (nI k))] [] M := by
    intro m
    induction m with
    | zero =>
      intro k w i s hk hw hi
      have ek : k = 121 := by omega
      subst ek
      refine eg_iload (i := 4) 4 dX9_wordOfLanguage_12 rfl ?_
      refine eg_ldcS (tx := eg_wt) (r := (200, 0)) dX9_wordOfLanguage_14 (fun A U H hz => hz.1.1) ?_
      refine eg_callT (av := []) (d1 := d - 1) dX9_wordOfLanguage_16 mS_len rfl rfl rfl (Nat.le_of_ble_eq_true rfl) (by omega) (sS_len (by omega)) (fun x M1 hx => ?_)
      obtain ⟨h1, h2⟩ := hx
      rw [h1, h2]
      refine eg_icmp_ge (tgt := 103) dX9_wordOfLanguage_19 rfl (fun _ => ?_) (fun c => absurd (by decide) c)
      refine eg_iconst (v := -1) dX9_wordOfLanguage_103 rfl ?_
      refine eg_ireturn dX9_wordOfLanguage_104 rfl ⟨?_, rfl⟩
      rw [List.drop_eq_nil_of_le (by rw [hlen]; exact Nat.le_refl _)]
      rfl
    | succ m ih =>
      intro k w i s hk hw hi
      have hk1 : k < eg_wb.length := by rw [hlen]; omega
      have ed : eg_wb.drop k = eg_wb.getD k 0 :: eg_wb.drop (k + 1) := by
        rw [List.drop_eq_getElem_cons hk1, List.getD_eq_getElem?_getD, List.getElem?_eq_getElem hk1]
        rfl
      rw [ed]
      generalize hc : eg_wb.getD k 0 = c
      have es : scn (fun i => M.1 (50, 0) (a + i)) (e - a) (c :: eg_wb.drop (k + 1)) w i s = if c = 32 then (if s = true ∧ i = e - a then nI w else scn (fun i => M.1 (50, 0) (a + i)) (e - a) (eg_wb.drop (k + 1)) (w + 1) 0 true) else scn (fun i => M.1 (50, 0) (a + i)) (e - a) (eg_wb.drop (k + 1)) w (i + 1) (s && decide (i < e - a) && decide (M.1 (50, 0) (a + i) = c)) := rfl
      rw [es]
      refine eg_iload (i := 4) 4 dX9_wordOfLanguage_12 rfl ?_
      refine eg_ldcS (tx := eg_wt) (r := (200, 0)) dX9_wordOfLanguage_14 (fun A U H hz => hz.1.1) ?_
      refine eg_callT (av := []) (d1 := d - 1) dX9_wordOfLanguage_16 mS_len rfl rfl rfl (Nat.le_of_ble_eq_true rfl) (by omega) (sS_len (by omega)) (fun x M1 hx => ?_)
      obtain ⟨h1, h2⟩ := hx
      rw [h1, h2]
      refine eg_icmp_ge (tgt := 103) dX9_wordOfLanguage_19 rfl (fun q => absurd (show nI 121 ≤ nI k from q) (nI_ge (by omega) (by decide))) (fun _ => ?_)
      refine eg_ldcS (tx := eg_wt) (r := (200, 0)) dX9_wordOfLanguage_22 (fun A U H hz => hz.1.1) ?_
      refine eg_iload (i := 4) 4 dX9_wordOfLanguage_24 rfl ?_
      refine eg_callT (av := [vI (nI k)]) (d1 := d - 1) dX9_wordOfLanguage_26 mS_chr rfl rfl rfl (Nat.le_of_ble_eq_true rfl) (by omega) (sS_chr (by omega) (by omega)) (fun x2 M2 hx => ?_)
      obtain ⟨h3, h4⟩ := hx
      rw [h3, h4, hc]
      refine eg_istore (ls1 := [(5, vI c), (0, vR (9, 0)), (1, vI (nI w)), (2, vI (nI (a + i))), (3, vI (if s = true then 1 else 0)), (4, vI (nI k))]) dX9_wordOfLanguage_29 (by decide) rfl ?_
      refine eg_iload (i := 5) 0 dX9_wordOfLanguage_31 rfl ?_
      refine eg_bipush (v := 32) dX9_wordOfLanguage_33 rfl ?_
      -- behind a letter
      have k66 : ∀ b : Bool, (c = 32 → False) → (s && decide (i < e - a) && decide (M.1 (50, 0) (a + i) = c)) = b → eg_W κ gC mtX9_wordOfLanguage d (eQI κ gC (fun r M1 => r = (if c = 32 then (if s = true ∧ i = e - a then nI w else scn (fun i => M.1 (50, 0) (a + i)) (e - a) (eg_wb.drop (k + 1)) (w + 1) 0 true) else scn (fun i => M.1 (50, 0) (a + i)) (e - a) (eg_wb.drop (k + 1)) w (i + 1) (s && decide (i < e - a) && decide (M.1 (50, 0) (a + i) = c))) ∧ M1 = M)) 66 [(5, vI c), (0, vR (9, 0)), (1, vI (nI w)), (2, vI (nI (a + i))), (3, vI (if s = true then 1 else 0)), (4, vI (nI k))] [vI (if b = true then 1 else 0)] M := by
        intro b hc2 hb
        rw [if_neg hc2, hb]
        refine eg_istore_n (i := 3) (ls1 := [(3, vI (if b = true then 1 else 0)), (5, vI c), (0, vR (9, 0)), (1, vI (nI w)), (2, vI (nI (a + i))), (4, vI (nI k))]) dX9_wordOfLanguage_66 rfl (by decide) rfl ?_
        refine eg_iinc (i := 2) (v := nI (a + (i + 1))) (ls1 := [(2, vI (nI (a + (i + 1)))), (3, vI (if b = true then 1 else 0)), (5, vI c), (0, vR (9, 0)), (1, vI (nI w)), (4, vI (nI k))]) 4 dX9_wordOfLanguage_67 rfl (nI_1 _) (by decide) rfl ?_
        refine eg_goto (tgt := 97) dX9_wordOfLanguage_70 rfl ?_
        refine eg_iinc (i := 4) (v := nI (k + 1)) (ls1 := [(4, vI (nI (k + 1))), (2, vI (nI (a + (i + 1)))), (3, vI (if b = true then 1 else 0)), (5, vI c), (0, vR (9, 0)), (1, vI (nI w))]) 5 dX9_wordOfLanguage_97 rfl (nI_1 _) (by decide) rfl ?_
        refine eg_goto (tgt := 12) dX9_wordOfLanguage_100 rfl ?_
        refine eg_sub [4, 5, 1, 2, 0] rfl ?_
        exact ih (k + 1) w (i + 1) b (by omega) (by omega) (by omega)
      have k65 : (c = 32 → False) → (s && decide (i < e - a) && decide (M.1 (50, 0) (a + i) = c)) = false → eg_W κ gC mtX9_wordOfLanguage d (eQI κ gC (fun r M1 => r = (if c = 32 then (if s = true ∧ i = e - a then nI w else scn (fun i => M.1 (50, 0) (a + i)) (e - a) (eg_wb.drop (k + 1)) (w + 1) 0 true) else scn (fun i => M.1 (50, 0) (a + i)) (e - a) (eg_wb.drop (k + 1)) w (i + 1) (s && decide (i < e - a) && decide (M.1 (50, 0) (a + i) = c))) ∧ M1 = M)) 65 [(5, vI c), (0, vR (9, 0)), (1, vI (nI w)), (2, vI (nI (a + i))), (3, vI (if s = true then 1 else 0)), (4, vI (nI k))] [] M := by
        intro hc2 hb
        refine eg_iconst (v := 0) dX9_wordOfLanguage_65 rfl ?_
        exact k66 false hc2 hb
      -- behind a blank
      have k87 : c = 32 → ¬ (s = true ∧ i = e - a) → eg_W κ gC mtX9_wordOfLanguage d (eQI κ gC (fun r M1 => r = (if c = 32 then (if s = true ∧ i = e - a then nI w else scn (fun i => M.1 (50, 0) (a + i)) (e - a) (eg_wb.drop (k + 1)) (w + 1) 0 true) else scn (fun i => M.1 (50, 0) (a + i)) (e - a) (eg_wb.drop (k + 1)) w (i + 1) (s && decide (i < e - a) && decide (M.1 (50, 0) (a + i) = c))) ∧ M1 = M)) 87 [(5, vI c), (0, vR (9, 0)), (1, vI (nI w)), (2, vI (nI (a + i))), (3, vI (if s = true then 1 else 0)), (4, vI (nI k))] [] M := by
        intro hc2 hn
        rw [if_pos hc2, if_neg hn]
        refine eg_iinc (i := 1) (v := nI (w + 1)) (ls1 := [(1, vI (nI (w + 1))), (5, vI c), (0, vR (9, 0)), (2, vI (nI (a + i))), (3, vI (if s = true then 1 else 0)), (4, vI (nI k))]) 2 dX9_wordOfLanguage_87 rfl (nI_1 _) (by decide) rfl ?_
        refine eg_aload_n (i := 0) 2 dX9_wordOfLanguage_90 rfl rfl ?_
        refine eg_getI dX9_wordOfLanguage_91 fl_9_25 rfl trivial (obC_9 z1) ?_
        rw [ha]
        refine eg_istore_n (i := 2) (ls1 := [(2, vI (nI a)), (1, vI (nI (w + 1))), (5, vI c), (0, vR (9, 0)), (3, vI (if s = true then 1 else 0)), (4, vI (nI k))]) dX9_wordOfLanguage_94 rfl (by decide) rfl ?_
        refine eg_iconst (v := 1) dX9_wordOfLanguage_95 rfl ?_
        refine eg_istore_n (i := 3) (ls1 := [(3, vI 1), (2, vI (nI a)), (1, vI (nI (w + 1))), (5, vI c), (0, vR (9, 0)), (4, vI (nI k))]) dX9_wordOfLanguage_96 rfl (by decide) rfl ?_
        refine eg_iinc (i := 4) (v := nI (k + 1)) (ls1 := [(4, vI (nI (k + 1))), (3, vI 1), (2, vI (nI a)), (1, vI (nI (w + 1))), (5, vI c), (0, vR (9, 0))]) 5 dX9_wordOfLanguage_97 rfl (nI_1 _) (by decide) rfl ?_
        refine eg_goto (tgt := 12) dX9_wordOfLanguage_100 rfl ?_
        refine eg_sub [5, 3, 2, 1, 0] rfl ?_
        exact ih (k + 1) (w + 1) 0 true (by omega) (by omega) (by omega)
      refine eg_icmp_eq (tgt := 73) dX9_wordOfLanguage_35 rfl (fun q => ?_) (fun q => ?_)
      · refine eg_iload_n (i := 3) 4 dX9_wordOfLanguage_73 rfl rfl ?_
        refine eg_if_eq (tgt := 87) dX9_wordOfLanguage_74 rfl (fun q2 => k87 q (fun z => by rw [if_pos z.1] at q2; exact absurd q2 (by decide))) (fun q2 => ?_)
        have hs : s = true := by
          cases s with
          | true => rfl
          | false => exact absurd rfl q2
        refine eg_iload_n (i := 2) 3 dX9_wordOfLanguage_77 rfl rfl ?_
        refine eg_aload_n (i := 0) 1 dX9_wordOfLanguage_78 rfl rfl ?_
        refine eg_getI dX9_wordOfLanguage_79 fl_9_19 rfl trivial (obC_9 z1) ?_
        rw [he]
        refine eg_icmp_ne (tgt := 87) dX9_wordOfLanguage_82 rfl (fun q3 => k87 q (fun z => q3 (by rw [z.2]; congr 1; omega))) (fun q3 => ?_)
        refine eg_iload_n (i := 1) 2 dX9_wordOfLanguage_85 rfl rfl ?_
        refine eg_ireturn dX9_wordOfLanguage_86 rfl ⟨?_, rfl⟩
        have := (nI_eq' (by omega) (by omega)).mp q3
        rw [if_pos q, if_pos ⟨hs, by omega⟩]
      · refine eg_iload_n (i := 3) 4 dX9_wordOfLanguage_38 rfl rfl ?_
        refine eg_if_eq (tgt := 65) dX9_wordOfLanguage_39 rfl (fun q2 => k65 q (by
          cases s with
          | true => exact absurd q2 (by decide)
          | false => rfl)) (fun q2 => ?_)
        have hs : s = true := by
          cases s with
          | true => rfl
          | false => exact absurd rfl q2
        refine eg_iload_n (i := 2) 3 dX9_wordOfLanguage_42 rfl rfl ?_
        refine eg_aload_n (i := 0) 1 dX9_wordOfLanguage_43 rfl rfl ?_
        refine eg_getI dX9_wordOfLanguage_44 fl_9_19 rfl trivial (obC_9 z1) ?_
        rw [he]
        refine eg_icmp_ge (tgt := 65) dX9_wordOfLanguage_47 rfl (fun q3 => k65 q ?_) (fun q3 => ?_)
        · have := (nI_le' (by omega) (by omega)).mp q3
          rw [hs, decide_eq_false (show ¬ i < e - a by omega)]
          rfl
        · have hlt : a + i < e := Nat.not_le.mp (fun z => q3 ((nI_le' (by omega) (by omega)).mpr z))
          refine eg_aload_n (i := 0) 1 dX9_wordOfLanguage_50 rfl rfl ?_
          refine eg_getR dX9_wordOfLanguage_51 fl_9_9 rfl rfl (obC_9 z1) ?_
          refine eg_iload_n (i := 2) 3 dX9_wordOfLanguage_54 rfl rfl ?_
          refine eg_baload dX9_wordOfLanguage_55 (arC_50 z1 (nI_in' (by omega) (by omega))) ?_
          rw [nI_t (by omega)]
          refine eg_iload (i := 5) 0 dX9_wordOfLanguage_56 rfl ?_
          refine eg_icmp_ne (tgt := 65) dX9_wordOfLanguage_58 rfl (fun q4 => k65 q ?_) (fun q4 => ?_)
          · have q5 : ¬ M.1 (50, 0) (a + i) = c := q4
            rw [decide_eq_false q5, Bool.and_false]
          · have q5 : M.1 (50, 0) (a + i) = c := q4
            refine eg_iconst (v := 1) dX9_wordOfLanguage_61 rfl ?_
            refine eg_goto (tgt := 66) dX9_wordOfLanguage_62 rfl ?_
            exact k66 true q (by rw [hs, decide_eq_true q5, decide_eq_true (show i < e - a by omega)]; rfl)
  refine eg_S.of rfl (Nat.le_of_ble_eq_true rfl) ?_
  refine eg_iconst (v := 0) dX9_wordOfLanguage_0 rfl ?_
  refine eg_istore_n (i := 1) (ls1 := [(1, vI 0), (0, vR (9, 0))]) dX9_wordOfLanguage_1 rfl (by decide) rfl ?_
  refine eg_aload_n (i := 0) 1 dX9_wordOfLanguage_2 rfl rfl ?_
  refine eg_getI dX9_wordOfLanguage_3 fl_9_25 rfl trivial (obC_9 z1) ?_
  rw [ha]
  refine eg_istore_n (i := 2) (ls1 := [(2, vI (nI a)), (1, vI 0), (0, vR (9, 0))]) dX9_wordOfLanguage_6 rfl (by decide) rfl ?_
  refine eg_iconst (v := 1) dX9_wordOfLanguage_7 rfl ?_
  refine eg_istore_n (i := 3) (ls1 := [(3, vI 1), (2, vI (nI a)), (1, vI 0), (0, vR (9, 0))]) dX9_wordOfLanguage_8 rfl (by decide) rfl ?_
  refine eg_iconst (v := 0) dX9_wordOfLanguage_9 rfl ?_
  refine eg_istore (i := 4) (ls1 := [(4, vI 0), (3, vI 1), (2, vI (nI a)), (1, vI 0), (0, vR (9, 0))]) dX9_wordOfLanguage_10 (by decide) rfl ?_
  refine eg_sub [4, 3, 2, 1, 0] rfl ?_
  exact key 121 0 0 0 true (by omega) (by omega) (by omega)
