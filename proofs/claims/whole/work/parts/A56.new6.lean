/-! CLEARED WHILE MADE -/
theorem ls_sf {α : Type} {xs : List α} {j : Nat} {x : α} (h : xs[j]? = some x) : xs.set j x = xs := by
  apply List.ext_getElem?
  intro i
  by_cases c : j = i
  · subst c
    rw [List.getElem?_set_self (List.getElem?_eq_some_iff.mp h).1, h]
  · rw [List.getElem?_set_ne c]
theorem sl_7 {X : List va_E} {m : Nat} {x y x' y' : va_E} {Z : List va_E} (hm : X.length = m) : ((X ++ [x] ++ [y]).set (m + 1) y' ++ []).set m x' ++ Z = X ++ (x' :: y' :: Z) := by
  rw [List.append_nil, List.append_assoc, List.set_append_right _ _ (by omega), List.set_append_right _ _ (by omega), hm, Nat.sub_self, Nat.add_sub_cancel_left, List.append_assoc]
  rfl
theorem sl_8 {X : List va_E} {m : Nat} {x y y' : va_E} {Z : List va_E} (hm : X.length = m) : ((X ++ [x] ++ [y]).set (m + 1) y' ++ Z)[m]? = some x := by
  rw [List.append_assoc, List.set_append_right _ _ (by omega), hm, Nat.add_sub_cancel_left, List.append_assoc, List.getElem?_append_right (by omega), hm, Nat.sub_self]
  rfl
theorem asX5_len (κ : eg_K) (b n : Nat) : (asX5 κ b n).length = 47 := rfl
theorem asX7_len (κ : eg_K) (b n a0 : Nat) : (asX7 κ b n a0).length = 39 := rfl
theorem k_X3 {κ : eg_K} {b : Nat} {L : List va_E} {k : Nat} {fs : List Value} (he : L[k]? = some (.inr (3, fs))) (h3 : fs[3]? = some (.int 0)) (h4 : fs[4]? = some (.int 0)) : eg_X κ b mtX3_clear 1 0 0 [.ref (b + k)] L L := by
  have hne : L ≠ [] := fun z => by rw [z] at he; cases he
  refine eg_X.of rfl (Nat.le_of_ble_eq_true rfl) ?_
  refine nw_aload 0 dX3_clear_0 rfl rfl ?_
  refine nw_iconst (v := 0) dX3_clear_1 (by decide) ?_
  refine nw_put dX3_clear_2 fl_3_28 rfl he rfl rfl (List.getElem?_eq_some_iff.mp h3).1 ?_
  rw [ls_sf h3, ls_self he]
  refine nw_aload 0 dX3_clear_5 rfl rfl ?_
  refine nw_iconst (v := 0) dX3_clear_6 (by decide) ?_
  refine nw_put dX3_clear_7 fl_3_32 rfl he rfl rfl (List.getElem?_eq_some_iff.mp h4).1 ?_
  rw [ls_sf h4, ls_self he]
  exact nw_ret dX3_clear_10 rfl hne (Nat.le_refl _) (Nat.le_refl _)
theorem k_X8 {κ : eg_K} {b : Nat} {L : List va_E} {k : Nat} {fs : List Value} (he : L[k]? = some (.inr (8, fs))) (h0 : fs[0]? = some (.int 0)) (h1 : 1 < fs.length) : eg_X κ b mtX8_clear 1 0 0 [.ref (b + k)] L (L.set k (.inr (8, fs.set 1 (.int (-1))))) := by
  have hne : L.set k (.inr (8, fs.set 1 (.int (-1)))) ≠ [] := fun z => by
    have h := (List.getElem?_eq_some_iff.mp he).1
    have e : (L.set k (.inr (8, fs.set 1 (.int (-1))))).length = L.length := List.length_set
    rw [z] at e
    rw [← e] at h
    exact absurd h (Nat.not_lt_zero _)
  refine eg_X.of rfl (Nat.le_of_ble_eq_true rfl) ?_
  refine nw_aload 0 dX8_clear_0 rfl rfl ?_
  refine nw_iconst (v := 0) dX8_clear_1 (by decide) ?_
  refine nw_put dX8_clear_2 fl_8_28 rfl he rfl rfl (List.getElem?_eq_some_iff.mp h0).1 ?_
  rw [ls_sf h0, ls_self he]
  refine nw_aload 0 dX8_clear_5 rfl rfl ?_
  refine nw_iconst (v := -1) dX8_clear_6 (by decide) ?_
  refine nw_put dX8_clear_7 fl_8_32 rfl he rfl rfl h1 ?_
  exact nw_ret dX8_clear_10 rfl hne (Nat.le_refl _) (Nat.le_refl _)
theorem k_X5 {κ : eg_K} {b : Nat} {L : List va_E} {k q r : Nat} {fs hs : List Value} {f : Nat → Int32} (he : L[k]? = some (.inr (5, fs))) (g0 : ∀ j, j = 0 ∨ j = 2 ∨ j = 4 ∨ j = 5 ∨ j = 7 → fs[j]? = some (.int 0)) (g6 : 6 < fs.length) (g11 : fs[11]? = some (.ref (b + q))) (g12 : fs[12]? = some (.ref (b + r))) (hq : L[q]? = some (inA κ 3 f)) (hr : L[r]? = some (.inr (3, hs))) (k3 : hs[3]? = some (.int 0)) (k4 : hs[4]? = some (.int 0)) (d1 : k ≠ q) (d2 : k ≠ r) (d3 : q ≠ r) : eg_X κ b mtX5_clear 2 0 0 [.ref (b + k)] L ((L.set k (.inr (5, fs.set 6 (.int 3600)))).set q (inA κ 3 (upd (upd (upd f 0 (-1)) 1 (-1)) 2 (-1)))) := by
  have lt : ∀ {j : Nat} {v : Value}, fs[j]? = some v → j < fs.length := fun h => (List.getElem?_eq_some_iff.mp h).1
  refine eg_X.of rfl (Nat.le_of_ble_eq_true rfl) ?_
  refine nw_aload 0 dX5_clear_0 rfl rfl ?_
  refine nw_iconst (v := 0) dX5_clear_1 (by decide) ?_
  refine nw_put dX5_clear_2 fl_5_45 rfl he rfl rfl (lt (g0 0 (by omega))) ?_
  rw [ls_sf (g0 0 (by omega)), ls_self he]
  refine nw_aload 0 dX5_clear_5 rfl rfl ?_
  refine nw_iconst (v := 0) dX5_clear_6 (by decide) ?_
  refine nw_put dX5_clear_7 fl_5_49 rfl he rfl rfl (lt (g0 2 (by omega))) ?_
  rw [ls_sf (g0 2 (by omega)), ls_self he]
  refine nw_aload 0 dX5_clear_10 rfl rfl ?_
  refine nw_iconst (v := 0) dX5_clear_11 (by decide) ?_
  refine nw_put dX5_clear_12 fl_5_52 rfl he rfl rfl (lt (g0 4 (by omega))) ?_
  rw [ls_sf (g0 4 (by omega)), ls_self he]
  refine nw_aload 0 dX5_clear_15 rfl rfl ?_
  refine nw_iconst (v := 0) dX5_clear_16 (by decide) ?_
  refine nw_put dX5_clear_17 fl_5_56 rfl he rfl rfl (lt (g0 5 (by omega))) ?_
  rw [ls_sf (g0 5 (by omega)), ls_self he]
  refine nw_aload 0 dX5_clear_20 rfl rfl ?_
  refine nw_sipush (v := 3600) dX5_clear_21 (by decide) ?_
  refine nw_put dX5_clear_24 fl_5_59 rfl he rfl rfl g6 ?_
  have he1 : (L.set k (.inr (5, fs.set 6 (.int 3600))))[k]? = some (.inr (5, fs.set 6 (.int 3600))) := List.getElem?_set_self (List.getElem?_eq_some_iff.mp he).1
  have g7 : (fs.set 6 (.int 3600))[7]? = some (.int 0) := by rw [List.getElem?_set_ne (by decide)]; exact g0 7 (by omega)
  have g11' : (fs.set 6 (.int 3600))[11]? = some (.ref (b + q)) := by rw [List.getElem?_set_ne (by decide)]; exact g11
  have g12' : (fs.set 6 (.int 3600))[12]? = some (.ref (b + r)) := by rw [List.getElem?_set_ne (by decide)]; exact g12
  refine nw_aload 0 dX5_clear_27 rfl rfl ?_
  refine nw_iconst (v := 0) dX5_clear_28 (by decide) ?_
  refine nw_put dX5_clear_29 fl_5_62 rfl he1 rfl rfl (List.getElem?_eq_some_iff.mp g7).1 ?_
  rw [ls_sf g7, ls_self he1]
  have hq1 : (L.set k (.inr (5, fs.set 6 (.int 3600))))[q]? = some (inA κ 3 f) := by rw [List.getElem?_set_ne d1]; exact hq
  have hr1 : (L.set k (.inr (5, fs.set 6 (.int 3600))))[r]? = some (.inr (3, hs)) := by rw [List.getElem?_set_ne d2]; exact hr
  generalize hG : L.set k (.inr (5, fs.set 6 (.int 3600))) = L1 at *
  generalize hH : fs.set 6 (.int 3600) = gs at *
  have qk : ∀ e : va_E, (L1.set q e)[k]? = some (.inr (5, gs)) := fun e => by rw [List.getElem?_set_ne (fun z => d1 z.symm)]; exact he1
  have qr : ∀ e : va_E, (L1.set q e)[r]? = some (.inr (3, hs)) := fun e => by rw [List.getElem?_set_ne d3]; exact hr1
  have qq : ∀ e : va_E, (L1.set q e)[q]? = some e := fun e => List.getElem?_set_self (List.getElem?_eq_some_iff.mp hq1).1
  refine nw_iconst (v := 0) dX5_clear_32 (by decide) ?_
  refine nw_istore (ls1 := [(1, .int 0), (0, .ref (b + k))]) dX5_clear_33 rfl (by decide) rfl ?_
  refine nw_iload 0 dX5_clear_34 rfl rfl ?_
  refine nw_iconst (v := 3) dX5_clear_35 (by decide) ?_
  refine nw_ge (tgt := 52) dX5_clear_36 (by decide) (fun h => absurd h (by decide)) (fun _ => ?_)
  refine nw_aload 1 dX5_clear_39 rfl rfl ?_
  refine nw_get dX5_clear_40 fl_5_33 he1 g11' ?_
  refine nw_iload 0 dX5_clear_43 rfl rfl ?_
  refine nw_iconst (v := -1) dX5_clear_44 (by decide) ?_
  refine nw_iast dX5_clear_45 hq1 (nI_in' (n := 0) (by omega) (by omega)) ?_
  refine nw_iinc (v := 1) (ls1 := [(1, .int 1), (0, .ref (b + k))]) 0 dX5_clear_46 rfl (by decide) (by decide) rfl ?_
  refine nw_goto (tgt := 34) dX5_clear_49 (by decide) ?_
  refine nw_iload 0 dX5_clear_34 rfl rfl ?_
  refine nw_iconst (v := 3) dX5_clear_35 (by decide) ?_
  refine nw_ge (tgt := 52) dX5_clear_36 (by decide) (fun h => absurd h (by decide)) (fun _ => ?_)
  refine nw_aload 1 dX5_clear_39 rfl rfl ?_
  refine nw_get dX5_clear_40 fl_5_33 (qk _) g11' ?_
  refine nw_iload 0 dX5_clear_43 rfl rfl ?_
  refine nw_iconst (v := -1) dX5_clear_44 (by decide) ?_
  refine nw_iast dX5_clear_45 (qq _) (nI_in' (n := 1) (by omega) (by omega)) ?_
  rw [List.set_set]
  refine nw_iinc (v := 2) (ls1 := [(1, .int 2), (0, .ref (b + k))]) 0 dX5_clear_46 rfl (by decide) (by decide) rfl ?_
  refine nw_goto (tgt := 34) dX5_clear_49 (by decide) ?_
  refine nw_iload 0 dX5_clear_34 rfl rfl ?_
  refine nw_iconst (v := 3) dX5_clear_35 (by decide) ?_
  refine nw_ge (tgt := 52) dX5_clear_36 (by decide) (fun h => absurd h (by decide)) (fun _ => ?_)
  refine nw_aload 1 dX5_clear_39 rfl rfl ?_
  refine nw_get dX5_clear_40 fl_5_33 (qk _) g11' ?_
  refine nw_iload 0 dX5_clear_43 rfl rfl ?_
  refine nw_iconst (v := -1) dX5_clear_44 (by decide) ?_
  refine nw_iast dX5_clear_45 (qq _) (nI_in' (n := 2) (by omega) (by omega)) ?_
  rw [List.set_set]
  refine nw_iinc (v := 3) (ls1 := [(1, .int 3), (0, .ref (b + k))]) 0 dX5_clear_46 rfl (by decide) (by decide) rfl ?_
  refine nw_goto (tgt := 34) dX5_clear_49 (by decide) ?_
  refine nw_iload 0 dX5_clear_34 rfl rfl ?_
  refine nw_iconst (v := 3) dX5_clear_35 (by decide) ?_
  refine nw_ge (tgt := 52) dX5_clear_36 (by decide) (fun _ => ?_) (fun h => absurd (by decide) h)
  refine nw_aload 1 dX5_clear_52 rfl rfl ?_
  refine nw_get dX5_clear_53 fl_5_39 (qk _) g12' ?_
  refine nw_virt (q0 := r) (ci := 3) (As := []) (mc1 := 0) (ms1 := 0) dX5_clear_56 ml_5_65 rfl rfl (qr _) (by decide) rfl (k_X3 (qr _) k3 k4) (by decide) (Nat.le_refl _) (Nat.le_refl _) (by decide) rfl ?_
  refine nw_ret dX5_clear_59 rfl (fun z => ?_) (Nat.le_refl _) (Nat.le_refl _)
  have := qk (inA κ 3 (upd (upd (upd f 0 (-1)) 1 (-1)) 2 (-1)))
  rw [show L1.set q (inA κ 3 (upd (upd (upd f 0 (-1)) 1 (-1)) 2 (-1))) = [] from z] at this
  cases this
