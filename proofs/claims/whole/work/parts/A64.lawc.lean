/-! THE LAW'S CASES -/
theorem lr_lcmp {κ : eg_K} {p : Program} {e : Env} {s : State} {m : MethodId} {below : List Frame} {meth : Method} {c : Code} {bS Ls : Nat} {xs : Nat → Int32} {pc : Nat} {ls : List (Nat × Value)} {st : List Value} {M N : eg_H} {o : Int64} {cn sn : Nat} {x y : Int64} (C : lwC κ p s m meth c bS Ls xs) (hd : decode code pc = .ok (.lcmp, 1)) (h : x = y) (k : lqW κ p e s m below meth c bS (pc + 1) ls (.int 0 :: st) M N o cn sn) : lqW κ p e s m below meth c bS pc ls (.long y :: .long x :: st) M N o cn sn := by
  intro H locs la hl hH hS
  subst h
  refine W.lcmp C.1.1 C.1.2.1 hd ?_
  rw [show lg_cmp x x = 0 by unfold lg_cmp; simp]
  exact k H locs la hl hH hS
theorem wi_mtX10_feed : Cond.initialized mtX10_feed.1.cls ∈ eg_T ∧ Cond.code mtX10_feed.1 mtX10_feed.2.1 mtX10_feed.2.2.1 mtX10_feed.2.2.2 ∈ eg_T := ⟨(eg_t1 (i := 1) (by decide +kernel) rfl), (eg_t3 (i := 73) rfl rfl)⟩
theorem ws_mtX10_feed : Cond.instanceMethod mtX10_feed.1 ∈ eg_T ∧ Cond.selects mtX10_feed.1.cls mtX10_feed.1 mtX10_feed.1 ∈ eg_T := ⟨(eg_t3 (i := 71) (by decide +kernel) rfl), (eg_t3 (i := 72) (by decide +kernel) rfl)⟩
theorem wd_mtX10_feed : (mtX10_feed.1.cls ≠ "java/lang/invoke/MethodHandle" ∧ mtX10_feed.1.cls ≠ "java/lang/invoke/VarHandle" ∧ (parseMethodDescriptor mtX10_feed.1.desc).map (fun d => d.parameters.length) = some 5) ∧ mtX10_feed.2.2.1 ≤ 21 := by decide +kernel
theorem wi_mtX11_feed : Cond.initialized mtX11_feed.1.cls ∈ eg_T ∧ Cond.code mtX11_feed.1 mtX11_feed.2.1 mtX11_feed.2.2.1 mtX11_feed.2.2.2 ∈ eg_T := ⟨(eg_t1 (i := 12) (by decide +kernel) rfl), (eg_t7 (i := 96) rfl rfl)⟩
theorem ws_mtX11_feed : Cond.instanceMethod mtX11_feed.1 ∈ eg_T ∧ Cond.selects mtX11_feed.1.cls mtX11_feed.1 mtX11_feed.1 ∈ eg_T := ⟨(eg_t7 (i := 94) (by decide +kernel) rfl), (eg_t7 (i := 95) (by decide +kernel) rfl)⟩
theorem wd_mtX11_feed : (mtX11_feed.1.cls ≠ "java/lang/invoke/MethodHandle" ∧ mtX11_feed.1.cls ≠ "java/lang/invoke/VarHandle" ∧ (parseMethodDescriptor mtX11_feed.1.desc).map (fun d => d.parameters.length) = some 5) ∧ mtX11_feed.2.2.1 ≤ 21 := by decide +kernel
theorem wi_mtX10_text : Cond.initialized mtX10_text.1.cls ∈ eg_T ∧ Cond.code mtX10_text.1 mtX10_text.2.1 mtX10_text.2.2.1 mtX10_text.2.2.2 ∈ eg_T := ⟨(eg_t1 (i := 1) (by decide +kernel) rfl), (eg_t3 (i := 81) rfl rfl)⟩
theorem ws_mtX10_text : Cond.instanceMethod mtX10_text.1 ∈ eg_T ∧ Cond.selects mtX10_text.1.cls mtX10_text.1 mtX10_text.1 ∈ eg_T := ⟨(eg_t3 (i := 79) (by decide +kernel) rfl), (eg_t3 (i := 80) (by decide +kernel) rfl)⟩
theorem wd_mtX10_text : (mtX10_text.1.cls ≠ "java/lang/invoke/MethodHandle" ∧ mtX10_text.1.cls ≠ "java/lang/invoke/VarHandle" ∧ (parseMethodDescriptor mtX10_text.1.desc).map (fun d => d.parameters.length) = some 1) ∧ mtX10_text.2.2.1 ≤ 21 := by decide +kernel
theorem wi_mtX11_text : Cond.initialized mtX11_text.1.cls ∈ eg_T ∧ Cond.code mtX11_text.1 mtX11_text.2.1 mtX11_text.2.2.1 mtX11_text.2.2.2 ∈ eg_T := ⟨(eg_t1 (i := 12) (by decide +kernel) rfl), (eg_t7 (i := 100) rfl rfl)⟩
theorem ws_mtX11_text : Cond.instanceMethod mtX11_text.1 ∈ eg_T ∧ Cond.selects mtX11_text.1.cls mtX11_text.1 mtX11_text.1 ∈ eg_T := ⟨(eg_t7 (i := 98) (by decide +kernel) rfl), (eg_t7 (i := 99) (by decide +kernel) rfl)⟩
theorem wd_mtX11_text : (mtX11_text.1.cls ≠ "java/lang/invoke/MethodHandle" ∧ mtX11_text.1.cls ≠ "java/lang/invoke/VarHandle" ∧ (parseMethodDescriptor mtX11_text.1.desc).map (fun d => d.parameters.length) = some 1) ∧ mtX11_text.2.2.1 ≤ 21 := by decide +kernel
theorem wi_mtX10_fault : Cond.initialized mtX10_fault.1.cls ∈ eg_T ∧ Cond.code mtX10_fault.1 mtX10_fault.2.1 mtX10_fault.2.2.1 mtX10_fault.2.2.2 ∈ eg_T := ⟨(eg_t1 (i := 1) (by decide +kernel) rfl), (eg_t4 (i := 59) rfl rfl)⟩
theorem ws_mtX10_fault : Cond.instanceMethod mtX10_fault.1 ∈ eg_T ∧ Cond.selects mtX10_fault.1.cls mtX10_fault.1 mtX10_fault.1 ∈ eg_T := ⟨(eg_t4 (i := 57) (by decide +kernel) rfl), (eg_t4 (i := 58) (by decide +kernel) rfl)⟩
theorem wd_mtX10_fault : (mtX10_fault.1.cls ≠ "java/lang/invoke/MethodHandle" ∧ mtX10_fault.1.cls ≠ "java/lang/invoke/VarHandle" ∧ (parseMethodDescriptor mtX10_fault.1.desc).map (fun d => d.parameters.length) = some 1) ∧ mtX10_fault.2.2.1 ≤ 21 := by decide +kernel
theorem wi_mtX11_fault : Cond.initialized mtX11_fault.1.cls ∈ eg_T ∧ Cond.code mtX11_fault.1 mtX11_fault.2.1 mtX11_fault.2.2.1 mtX11_fault.2.2.2 ∈ eg_T := ⟨(eg_t1 (i := 12) (by decide +kernel) rfl), (eg_t7 (i := 217) rfl rfl)⟩
theorem ws_mtX11_fault : Cond.instanceMethod mtX11_fault.1 ∈ eg_T ∧ Cond.selects mtX11_fault.1.cls mtX11_fault.1 mtX11_fault.1 ∈ eg_T := ⟨(eg_t7 (i := 215) (by decide +kernel) rfl), (eg_t7 (i := 216) (by decide +kernel) rfl)⟩
theorem wd_mtX11_fault : (mtX11_fault.1.cls ≠ "java/lang/invoke/MethodHandle" ∧ mtX11_fault.1.cls ≠ "java/lang/invoke/VarHandle" ∧ (parseMethodDescriptor mtX11_fault.1.desc).map (fun d => d.parameters.length) = some 1) ∧ mtX11_fault.2.2.1 ≤ 21 := by decide +kernel
theorem wi_mtX10_named : Cond.initialized mtX10_named.1.cls ∈ eg_T ∧ Cond.code mtX10_named.1 mtX10_named.2.1 mtX10_named.2.2.1 mtX10_named.2.2.2 ∈ eg_T := ⟨(eg_t1 (i := 1) (by decide +kernel) rfl), (eg_t4 (i := 63) rfl rfl)⟩
theorem ws_mtX10_named : Cond.instanceMethod mtX10_named.1 ∈ eg_T ∧ Cond.selects mtX10_named.1.cls mtX10_named.1 mtX10_named.1 ∈ eg_T := ⟨(eg_t4 (i := 61) (by decide +kernel) rfl), (eg_t4 (i := 62) (by decide +kernel) rfl)⟩
theorem wd_mtX10_named : (mtX10_named.1.cls ≠ "java/lang/invoke/MethodHandle" ∧ mtX10_named.1.cls ≠ "java/lang/invoke/VarHandle" ∧ (parseMethodDescriptor mtX10_named.1.desc).map (fun d => d.parameters.length) = some 2) ∧ mtX10_named.2.2.1 ≤ 21 := by decide +kernel
theorem wi_mtX11_named : Cond.initialized mtX11_named.1.cls ∈ eg_T ∧ Cond.code mtX11_named.1 mtX11_named.2.1 mtX11_named.2.2.1 mtX11_named.2.2.2 ∈ eg_T := ⟨(eg_t1 (i := 12) (by decide +kernel) rfl), (eg_t7 (i := 221) rfl rfl)⟩
theorem ws_mtX11_named : Cond.instanceMethod mtX11_named.1 ∈ eg_T ∧ Cond.selects mtX11_named.1.cls mtX11_named.1 mtX11_named.1 ∈ eg_T := ⟨(eg_t7 (i := 219) (by decide +kernel) rfl), (eg_t7 (i := 220) (by decide +kernel) rfl)⟩
theorem wd_mtX11_named : (mtX11_named.1.cls ≠ "java/lang/invoke/MethodHandle" ∧ mtX11_named.1.cls ≠ "java/lang/invoke/VarHandle" ∧ (parseMethodDescriptor mtX11_named.1.desc).map (fun d => d.parameters.length) = some 2) ∧ mtX11_named.2.2.1 ≤ 21 := by decide +kernel
theorem wi_mtX10_station : Cond.initialized mtX10_station.1.cls ∈ eg_T ∧ Cond.code mtX10_station.1 mtX10_station.2.1 mtX10_station.2.2.1 mtX10_station.2.2.2 ∈ eg_T := ⟨(eg_t1 (i := 1) (by decide +kernel) rfl), (eg_t4 (i := 70) rfl rfl)⟩
theorem ws_mtX10_station : Cond.instanceMethod mtX10_station.1 ∈ eg_T ∧ Cond.selects mtX10_station.1.cls mtX10_station.1 mtX10_station.1 ∈ eg_T := ⟨(eg_t4 (i := 68) (by decide +kernel) rfl), (eg_t4 (i := 69) (by decide +kernel) rfl)⟩
theorem wd_mtX10_station : (mtX10_station.1.cls ≠ "java/lang/invoke/MethodHandle" ∧ mtX10_station.1.cls ≠ "java/lang/invoke/VarHandle" ∧ (parseMethodDescriptor mtX10_station.1.desc).map (fun d => d.parameters.length) = some 2) ∧ mtX10_station.2.2.1 ≤ 21 := by decide +kernel
theorem wi_mtX11_station : Cond.initialized mtX11_station.1.cls ∈ eg_T ∧ Cond.code mtX11_station.1 mtX11_station.2.1 mtX11_station.2.2.1 mtX11_station.2.2.2 ∈ eg_T := ⟨(eg_t1 (i := 12) (by decide +kernel) rfl), (eg_t7 (i := 237) rfl rfl)⟩
theorem ws_mtX11_station : Cond.instanceMethod mtX11_station.1 ∈ eg_T ∧ Cond.selects mtX11_station.1.cls mtX11_station.1 mtX11_station.1 ∈ eg_T := ⟨(eg_t7 (i := 235) (by decide +kernel) rfl), (eg_t7 (i := 236) (by decide +kernel) rfl)⟩
theorem wd_mtX11_station : (mtX11_station.1.cls ≠ "java/lang/invoke/MethodHandle" ∧ mtX11_station.1.cls ≠ "java/lang/invoke/VarHandle" ∧ (parseMethodDescriptor mtX11_station.1.desc).map (fun d => d.parameters.length) = some 2) ∧ mtX11_station.2.2.1 ≤ 21 := by decide +kernel
theorem wi_mtX10_row : Cond.initialized mtX10_row.1.cls ∈ eg_T ∧ Cond.code mtX10_row.1 mtX10_row.2.1 mtX10_row.2.2.1 mtX10_row.2.2.2 ∈ eg_T := ⟨(eg_t1 (i := 1) (by decide +kernel) rfl), (eg_t4 (i := 86) rfl rfl)⟩
theorem ws_mtX10_row : Cond.instanceMethod mtX10_row.1 ∈ eg_T ∧ Cond.selects mtX10_row.1.cls mtX10_row.1 mtX10_row.1 ∈ eg_T := ⟨(eg_t4 (i := 84) (by decide +kernel) rfl), (eg_t4 (i := 85) (by decide +kernel) rfl)⟩
theorem wd_mtX10_row : (mtX10_row.1.cls ≠ "java/lang/invoke/MethodHandle" ∧ mtX10_row.1.cls ≠ "java/lang/invoke/VarHandle" ∧ (parseMethodDescriptor mtX10_row.1.desc).map (fun d => d.parameters.length) = some 1) ∧ mtX10_row.2.2.1 ≤ 21 := by decide +kernel
theorem wi_mtX11_row : Cond.initialized mtX11_row.1.cls ∈ eg_T ∧ Cond.code mtX11_row.1 mtX11_row.2.1 mtX11_row.2.2.1 mtX11_row.2.2.2 ∈ eg_T := ⟨(eg_t1 (i := 12) (by decide +kernel) rfl), (eg_t8 (i := 9) rfl rfl)⟩
theorem ws_mtX11_row : Cond.instanceMethod mtX11_row.1 ∈ eg_T ∧ Cond.selects mtX11_row.1.cls mtX11_row.1 mtX11_row.1 ∈ eg_T := ⟨(eg_t8 (i := 7) (by decide +kernel) rfl), (eg_t8 (i := 8) (by decide +kernel) rfl)⟩
theorem wd_mtX11_row : (mtX11_row.1.cls ≠ "java/lang/invoke/MethodHandle" ∧ mtX11_row.1.cls ≠ "java/lang/invoke/VarHandle" ∧ (parseMethodDescriptor mtX11_row.1.desc).map (fun d => d.parameters.length) = some 1) ∧ mtX11_row.2.2.1 ≤ 21 := by decide +kernel
theorem wi_mtX10_line : Cond.initialized mtX10_line.1.cls ∈ eg_T ∧ Cond.code mtX10_line.1 mtX10_line.2.1 mtX10_line.2.2.1 mtX10_line.2.2.2 ∈ eg_T := ⟨(eg_t1 (i := 1) (by decide +kernel) rfl), (eg_t4 (i := 90) rfl rfl)⟩
theorem ws_mtX10_line : Cond.instanceMethod mtX10_line.1 ∈ eg_T ∧ Cond.selects mtX10_line.1.cls mtX10_line.1 mtX10_line.1 ∈ eg_T := ⟨(eg_t4 (i := 88) (by decide +kernel) rfl), (eg_t4 (i := 89) (by decide +kernel) rfl)⟩
theorem wd_mtX10_line : (mtX10_line.1.cls ≠ "java/lang/invoke/MethodHandle" ∧ mtX10_line.1.cls ≠ "java/lang/invoke/VarHandle" ∧ (parseMethodDescriptor mtX10_line.1.desc).map (fun d => d.parameters.length) = some 1) ∧ mtX10_line.2.2.1 ≤ 21 := by decide +kernel
theorem wi_mtX11_line : Cond.initialized mtX11_line.1.cls ∈ eg_T ∧ Cond.code mtX11_line.1 mtX11_line.2.1 mtX11_line.2.2.1 mtX11_line.2.2.2 ∈ eg_T := ⟨(eg_t1 (i := 12) (by decide +kernel) rfl), (eg_t8 (i := 13) rfl rfl)⟩
theorem ws_mtX11_line : Cond.instanceMethod mtX11_line.1 ∈ eg_T ∧ Cond.selects mtX11_line.1.cls mtX11_line.1 mtX11_line.1 ∈ eg_T := ⟨(eg_t8 (i := 11) (by decide +kernel) rfl), (eg_t8 (i := 12) (by decide +kernel) rfl)⟩
theorem wd_mtX11_line : (mtX11_line.1.cls ≠ "java/lang/invoke/MethodHandle" ∧ mtX11_line.1.cls ≠ "java/lang/invoke/VarHandle" ∧ (parseMethodDescriptor mtX11_line.1.desc).map (fun d => d.parameters.length) = some 1) ∧ mtX11_line.2.2.1 ≤ 21 := by decide +kernel
theorem wi_mtX10_seconds : Cond.initialized mtX10_seconds.1.cls ∈ eg_T ∧ Cond.code mtX10_seconds.1 mtX10_seconds.2.1 mtX10_seconds.2.2.1 mtX10_seconds.2.2.2 ∈ eg_T := ⟨(eg_t1 (i := 1) (by decide +kernel) rfl), (eg_t4 (i := 94) rfl rfl)⟩
theorem ws_mtX10_seconds : Cond.instanceMethod mtX10_seconds.1 ∈ eg_T ∧ Cond.selects mtX10_seconds.1.cls mtX10_seconds.1 mtX10_seconds.1 ∈ eg_T := ⟨(eg_t4 (i := 92) (by decide +kernel) rfl), (eg_t4 (i := 93) (by decide +kernel) rfl)⟩
theorem wd_mtX10_seconds : (mtX10_seconds.1.cls ≠ "java/lang/invoke/MethodHandle" ∧ mtX10_seconds.1.cls ≠ "java/lang/invoke/VarHandle" ∧ (parseMethodDescriptor mtX10_seconds.1.desc).map (fun d => d.parameters.length) = some 1) ∧ mtX10_seconds.2.2.1 ≤ 21 := by decide +kernel
theorem wi_mtX11_seconds : Cond.initialized mtX11_seconds.1.cls ∈ eg_T ∧ Cond.code mtX11_seconds.1 mtX11_seconds.2.1 mtX11_seconds.2.2.1 mtX11_seconds.2.2.2 ∈ eg_T := ⟨(eg_t1 (i := 12) (by decide +kernel) rfl), (eg_t8 (i := 17) rfl rfl)⟩
theorem ws_mtX11_seconds : Cond.instanceMethod mtX11_seconds.1 ∈ eg_T ∧ Cond.selects mtX11_seconds.1.cls mtX11_seconds.1 mtX11_seconds.1 ∈ eg_T := ⟨(eg_t8 (i := 15) (by decide +kernel) rfl), (eg_t8 (i := 16) (by decide +kernel) rfl)⟩
theorem wd_mtX11_seconds : (mtX11_seconds.1.cls ≠ "java/lang/invoke/MethodHandle" ∧ mtX11_seconds.1.cls ≠ "java/lang/invoke/VarHandle" ∧ (parseMethodDescriptor mtX11_seconds.1.desc).map (fun d => d.parameters.length) = some 1) ∧ mtX11_seconds.2.2.1 ≤ 21 := by decide +kernel
theorem wi_mtX10_put : Cond.initialized mtX10_put.1.cls ∈ eg_T ∧ Cond.code mtX10_put.1 mtX10_put.2.1 mtX10_put.2.2.1 mtX10_put.2.2.2 ∈ eg_T := ⟨(eg_t1 (i := 1) (by decide +kernel) rfl), (eg_t4 (i := 194) rfl rfl)⟩
theorem ws_mtX10_put : Cond.instanceMethod mtX10_put.1 ∈ eg_T ∧ Cond.selects mtX10_put.1.cls mtX10_put.1 mtX10_put.1 ∈ eg_T := ⟨(eg_t4 (i := 192) (by decide +kernel) rfl), (eg_t4 (i := 193) (by decide +kernel) rfl)⟩
theorem wd_mtX10_put : (mtX10_put.1.cls ≠ "java/lang/invoke/MethodHandle" ∧ mtX10_put.1.cls ≠ "java/lang/invoke/VarHandle" ∧ (parseMethodDescriptor mtX10_put.1.desc).map (fun d => d.parameters.length) = some 1) ∧ mtX10_put.2.2.1 ≤ 21 := by decide +kernel
theorem wi_mtX11_put : Cond.initialized mtX11_put.1.cls ∈ eg_T ∧ Cond.code mtX11_put.1 mtX11_put.2.1 mtX11_put.2.2.1 mtX11_put.2.2.2 ∈ eg_T := ⟨(eg_t1 (i := 12) (by decide +kernel) rfl), (eg_t8 (i := 103) rfl rfl)⟩
theorem ws_mtX11_put : Cond.instanceMethod mtX11_put.1 ∈ eg_T ∧ Cond.selects mtX11_put.1.cls mtX11_put.1 mtX11_put.1 ∈ eg_T := ⟨(eg_t8 (i := 101) (by decide +kernel) rfl), (eg_t8 (i := 102) (by decide +kernel) rfl)⟩
theorem wd_mtX11_put : (mtX11_put.1.cls ≠ "java/lang/invoke/MethodHandle" ∧ mtX11_put.1.cls ≠ "java/lang/invoke/VarHandle" ∧ (parseMethodDescriptor mtX11_put.1.desc).map (fun d => d.parameters.length) = some 1) ∧ mtX11_put.2.2.1 ≤ 21 := by decide +kernel
theorem wi_mtX10_change : Cond.initialized mtX10_change.1.cls ∈ eg_T ∧ Cond.code mtX10_change.1 mtX10_change.2.1 mtX10_change.2.2.1 mtX10_change.2.2.2 ∈ eg_T := ⟨(eg_t1 (i := 1) (by decide +kernel) rfl), (eg_t4 (i := 227) rfl rfl)⟩
theorem ws_mtX10_change : Cond.instanceMethod mtX10_change.1 ∈ eg_T ∧ Cond.selects mtX10_change.1.cls mtX10_change.1 mtX10_change.1 ∈ eg_T := ⟨(eg_t4 (i := 225) (by decide +kernel) rfl), (eg_t4 (i := 226) (by decide +kernel) rfl)⟩
theorem wd_mtX10_change : (mtX10_change.1.cls ≠ "java/lang/invoke/MethodHandle" ∧ mtX10_change.1.cls ≠ "java/lang/invoke/VarHandle" ∧ (parseMethodDescriptor mtX10_change.1.desc).map (fun d => d.parameters.length) = some 2) ∧ mtX10_change.2.2.1 ≤ 21 := by decide +kernel
theorem wi_mtX11_change : Cond.initialized mtX11_change.1.cls ∈ eg_T ∧ Cond.code mtX11_change.1 mtX11_change.2.1 mtX11_change.2.2.1 mtX11_change.2.2.2 ∈ eg_T := ⟨(eg_t1 (i := 12) (by decide +kernel) rfl), (eg_t8 (i := 111) rfl rfl)⟩
theorem ws_mtX11_change : Cond.instanceMethod mtX11_change.1 ∈ eg_T ∧ Cond.selects mtX11_change.1.cls mtX11_change.1 mtX11_change.1 ∈ eg_T := ⟨(eg_t8 (i := 109) (by decide +kernel) rfl), (eg_t8 (i := 110) (by decide +kernel) rfl)⟩
theorem wd_mtX11_change : (mtX11_change.1.cls ≠ "java/lang/invoke/MethodHandle" ∧ mtX11_change.1.cls ≠ "java/lang/invoke/VarHandle" ∧ (parseMethodDescriptor mtX11_change.1.desc).map (fun d => d.parameters.length) = some 2) ∧ mtX11_change.2.2.1 ≤ 21 := by decide +kernel
theorem wi_mtX10_send : Cond.initialized mtX10_send.1.cls ∈ eg_T ∧ Cond.code mtX10_send.1 mtX10_send.2.1 mtX10_send.2.2.1 mtX10_send.2.2.2 ∈ eg_T := ⟨(eg_t1 (i := 1) (by decide +kernel) rfl), (eg_t4 (i := 231) rfl rfl)⟩
theorem ws_mtX10_send : Cond.instanceMethod mtX10_send.1 ∈ eg_T ∧ Cond.selects mtX10_send.1.cls mtX10_send.1 mtX10_send.1 ∈ eg_T := ⟨(eg_t4 (i := 229) (by decide +kernel) rfl), (eg_t4 (i := 230) (by decide +kernel) rfl)⟩
theorem wd_mtX10_send : (mtX10_send.1.cls ≠ "java/lang/invoke/MethodHandle" ∧ mtX10_send.1.cls ≠ "java/lang/invoke/VarHandle" ∧ (parseMethodDescriptor mtX10_send.1.desc).map (fun d => d.parameters.length) = some 1) ∧ mtX10_send.2.2.1 ≤ 21 := by decide +kernel
theorem wi_mtX11_send : Cond.initialized mtX11_send.1.cls ∈ eg_T ∧ Cond.code mtX11_send.1 mtX11_send.2.1 mtX11_send.2.2.1 mtX11_send.2.2.2 ∈ eg_T := ⟨(eg_t1 (i := 12) (by decide +kernel) rfl), (eg_t8 (i := 119) rfl rfl)⟩
theorem ws_mtX11_send : Cond.instanceMethod mtX11_send.1 ∈ eg_T ∧ Cond.selects mtX11_send.1.cls mtX11_send.1 mtX11_send.1 ∈ eg_T := ⟨(eg_t8 (i := 117) (by decide +kernel) rfl), (eg_t8 (i := 118) (by decide +kernel) rfl)⟩
theorem wd_mtX11_send : (mtX11_send.1.cls ≠ "java/lang/invoke/MethodHandle" ∧ mtX11_send.1.cls ≠ "java/lang/invoke/VarHandle" ∧ (parseMethodDescriptor mtX11_send.1.desc).map (fun d => d.parameters.length) = some 1) ∧ mtX11_send.2.2.1 ≤ 21 := by decide +kernel
theorem wi_mtX10_undo : Cond.initialized mtX10_undo.1.cls ∈ eg_T ∧ Cond.code mtX10_undo.1 mtX10_undo.2.1 mtX10_undo.2.2.1 mtX10_undo.2.2.2 ∈ eg_T := ⟨(eg_t1 (i := 1) (by decide +kernel) rfl), (eg_t4 (i := 239) rfl rfl)⟩
theorem ws_mtX10_undo : Cond.instanceMethod mtX10_undo.1 ∈ eg_T ∧ Cond.selects mtX10_undo.1.cls mtX10_undo.1 mtX10_undo.1 ∈ eg_T := ⟨(eg_t4 (i := 237) (by decide +kernel) rfl), (eg_t4 (i := 238) (by decide +kernel) rfl)⟩
theorem wd_mtX10_undo : (mtX10_undo.1.cls ≠ "java/lang/invoke/MethodHandle" ∧ mtX10_undo.1.cls ≠ "java/lang/invoke/VarHandle" ∧ (parseMethodDescriptor mtX10_undo.1.desc).map (fun d => d.parameters.length) = some 0) ∧ mtX10_undo.2.2.1 ≤ 21 := by decide +kernel
theorem wi_mtX11_undo : Cond.initialized mtX11_undo.1.cls ∈ eg_T ∧ Cond.code mtX11_undo.1 mtX11_undo.2.1 mtX11_undo.2.2.1 mtX11_undo.2.2.2 ∈ eg_T := ⟨(eg_t1 (i := 12) (by decide +kernel) rfl), (eg_t8 (i := 123) rfl rfl)⟩
theorem ws_mtX11_undo : Cond.instanceMethod mtX11_undo.1 ∈ eg_T ∧ Cond.selects mtX11_undo.1.cls mtX11_undo.1 mtX11_undo.1 ∈ eg_T := ⟨(eg_t8 (i := 121) (by decide +kernel) rfl), (eg_t8 (i := 122) (by decide +kernel) rfl)⟩
theorem wd_mtX11_undo : (mtX11_undo.1.cls ≠ "java/lang/invoke/MethodHandle" ∧ mtX11_undo.1.cls ≠ "java/lang/invoke/VarHandle" ∧ (parseMethodDescriptor mtX11_undo.1.desc).map (fun d => d.parameters.length) = some 0) ∧ mtX11_undo.2.2.1 ≤ 21 := by decide +kernel
theorem wi_mtX10_waited : Cond.initialized mtX10_waited.1.cls ∈ eg_T ∧ Cond.code mtX10_waited.1 mtX10_waited.2.1 mtX10_waited.2.2.1 mtX10_waited.2.2.2 ∈ eg_T := ⟨(eg_t1 (i := 1) (by decide +kernel) rfl), (eg_t5 (i := 3) rfl rfl)⟩
theorem ws_mtX10_waited : Cond.instanceMethod mtX10_waited.1 ∈ eg_T ∧ Cond.selects mtX10_waited.1.cls mtX10_waited.1 mtX10_waited.1 ∈ eg_T := ⟨(eg_t5 (i := 1) (by decide +kernel) rfl), (eg_t5 (i := 2) (by decide +kernel) rfl)⟩
theorem wd_mtX10_waited : (mtX10_waited.1.cls ≠ "java/lang/invoke/MethodHandle" ∧ mtX10_waited.1.cls ≠ "java/lang/invoke/VarHandle" ∧ (parseMethodDescriptor mtX10_waited.1.desc).map (fun d => d.parameters.length) = some 1) ∧ mtX10_waited.2.2.1 ≤ 21 := by decide +kernel
theorem wi_mtX11_waited : Cond.initialized mtX11_waited.1.cls ∈ eg_T ∧ Cond.code mtX11_waited.1 mtX11_waited.2.1 mtX11_waited.2.2.1 mtX11_waited.2.2.2 ∈ eg_T := ⟨(eg_t1 (i := 12) (by decide +kernel) rfl), (eg_t8 (i := 127) rfl rfl)⟩
theorem ws_mtX11_waited : Cond.instanceMethod mtX11_waited.1 ∈ eg_T ∧ Cond.selects mtX11_waited.1.cls mtX11_waited.1 mtX11_waited.1 ∈ eg_T := ⟨(eg_t8 (i := 125) (by decide +kernel) rfl), (eg_t8 (i := 126) (by decide +kernel) rfl)⟩
theorem wd_mtX11_waited : (mtX11_waited.1.cls ≠ "java/lang/invoke/MethodHandle" ∧ mtX11_waited.1.cls ≠ "java/lang/invoke/VarHandle" ∧ (parseMethodDescriptor mtX11_waited.1.desc).map (fun d => d.parameters.length) = some 1) ∧ mtX11_waited.2.2.1 ≤ 21 := by decide +kernel
theorem wi_mtX10_slow : Cond.initialized mtX10_slow.1.cls ∈ eg_T ∧ Cond.code mtX10_slow.1 mtX10_slow.2.1 mtX10_slow.2.2.1 mtX10_slow.2.2.2 ∈ eg_T := ⟨(eg_t1 (i := 1) (by decide +kernel) rfl), (eg_t5 (i := 18) rfl rfl)⟩
theorem ws_mtX10_slow : Cond.instanceMethod mtX10_slow.1 ∈ eg_T ∧ Cond.selects mtX10_slow.1.cls mtX10_slow.1 mtX10_slow.1 ∈ eg_T := ⟨(eg_t5 (i := 16) (by decide +kernel) rfl), (eg_t5 (i := 17) (by decide +kernel) rfl)⟩
theorem wd_mtX10_slow : (mtX10_slow.1.cls ≠ "java/lang/invoke/MethodHandle" ∧ mtX10_slow.1.cls ≠ "java/lang/invoke/VarHandle" ∧ (parseMethodDescriptor mtX10_slow.1.desc).map (fun d => d.parameters.length) = some 2) ∧ mtX10_slow.2.2.1 ≤ 21 := by decide +kernel
theorem wi_mtX11_slow : Cond.initialized mtX11_slow.1.cls ∈ eg_T ∧ Cond.code mtX11_slow.1 mtX11_slow.2.1 mtX11_slow.2.2.1 mtX11_slow.2.2.2 ∈ eg_T := ⟨(eg_t1 (i := 12) (by decide +kernel) rfl), (eg_t8 (i := 142) rfl rfl)⟩
theorem ws_mtX11_slow : Cond.instanceMethod mtX11_slow.1 ∈ eg_T ∧ Cond.selects mtX11_slow.1.cls mtX11_slow.1 mtX11_slow.1 ∈ eg_T := ⟨(eg_t8 (i := 140) (by decide +kernel) rfl), (eg_t8 (i := 141) (by decide +kernel) rfl)⟩
theorem wd_mtX11_slow : (mtX11_slow.1.cls ≠ "java/lang/invoke/MethodHandle" ∧ mtX11_slow.1.cls ≠ "java/lang/invoke/VarHandle" ∧ (parseMethodDescriptor mtX11_slow.1.desc).map (fun d => d.parameters.length) = some 2) ∧ mtX11_slow.2.2.1 ≤ 21 := by decide +kernel
theorem wi_mtX10_many : Cond.initialized mtX10_many.1.cls ∈ eg_T ∧ Cond.code mtX10_many.1 mtX10_many.2.1 mtX10_many.2.2.1 mtX10_many.2.2.2 ∈ eg_T := ⟨(eg_t1 (i := 1) (by decide +kernel) rfl), (eg_t5 (i := 42) rfl rfl)⟩
theorem ws_mtX10_many : Cond.instanceMethod mtX10_many.1 ∈ eg_T ∧ Cond.selects mtX10_many.1.cls mtX10_many.1 mtX10_many.1 ∈ eg_T := ⟨(eg_t5 (i := 40) (by decide +kernel) rfl), (eg_t5 (i := 41) (by decide +kernel) rfl)⟩
theorem wd_mtX10_many : (mtX10_many.1.cls ≠ "java/lang/invoke/MethodHandle" ∧ mtX10_many.1.cls ≠ "java/lang/invoke/VarHandle" ∧ (parseMethodDescriptor mtX10_many.1.desc).map (fun d => d.parameters.length) = some 3) ∧ mtX10_many.2.2.1 ≤ 21 := by decide +kernel
theorem wi_mtX11_many : Cond.initialized mtX11_many.1.cls ∈ eg_T ∧ Cond.code mtX11_many.1 mtX11_many.2.1 mtX11_many.2.2.1 mtX11_many.2.2.2 ∈ eg_T := ⟨(eg_t1 (i := 12) (by decide +kernel) rfl), (eg_t8 (i := 147) rfl rfl)⟩
theorem ws_mtX11_many : Cond.instanceMethod mtX11_many.1 ∈ eg_T ∧ Cond.selects mtX11_many.1.cls mtX11_many.1 mtX11_many.1 ∈ eg_T := ⟨(eg_t8 (i := 145) (by decide +kernel) rfl), (eg_t8 (i := 146) (by decide +kernel) rfl)⟩
theorem wd_mtX11_many : (mtX11_many.1.cls ≠ "java/lang/invoke/MethodHandle" ∧ mtX11_many.1.cls ≠ "java/lang/invoke/VarHandle" ∧ (parseMethodDescriptor mtX11_many.1.desc).map (fun d => d.parameters.length) = some 3) ∧ mtX11_many.2.2.1 ≤ 21 := by decide +kernel
theorem wi_mtX10_best : Cond.initialized mtX10_best.1.cls ∈ eg_T ∧ Cond.code mtX10_best.1 mtX10_best.2.1 mtX10_best.2.2.1 mtX10_best.2.2.2 ∈ eg_T := ⟨(eg_t1 (i := 1) (by decide +kernel) rfl), (eg_t5 (i := 47) rfl rfl)⟩
theorem ws_mtX10_best : Cond.instanceMethod mtX10_best.1 ∈ eg_T ∧ Cond.selects mtX10_best.1.cls mtX10_best.1 mtX10_best.1 ∈ eg_T := ⟨(eg_t5 (i := 45) (by decide +kernel) rfl), (eg_t5 (i := 46) (by decide +kernel) rfl)⟩
theorem wd_mtX10_best : (mtX10_best.1.cls ≠ "java/lang/invoke/MethodHandle" ∧ mtX10_best.1.cls ≠ "java/lang/invoke/VarHandle" ∧ (parseMethodDescriptor mtX10_best.1.desc).map (fun d => d.parameters.length) = some 2) ∧ mtX10_best.2.2.1 ≤ 21 := by decide +kernel
theorem wi_mtX11_best : Cond.initialized mtX11_best.1.cls ∈ eg_T ∧ Cond.code mtX11_best.1 mtX11_best.2.1 mtX11_best.2.2.1 mtX11_best.2.2.2 ∈ eg_T := ⟨(eg_t1 (i := 12) (by decide +kernel) rfl), (eg_t8 (i := 155) rfl rfl)⟩
theorem ws_mtX11_best : Cond.instanceMethod mtX11_best.1 ∈ eg_T ∧ Cond.selects mtX11_best.1.cls mtX11_best.1 mtX11_best.1 ∈ eg_T := ⟨(eg_t8 (i := 153) (by decide +kernel) rfl), (eg_t8 (i := 154) (by decide +kernel) rfl)⟩
theorem wd_mtX11_best : (mtX11_best.1.cls ≠ "java/lang/invoke/MethodHandle" ∧ mtX11_best.1.cls ≠ "java/lang/invoke/VarHandle" ∧ (parseMethodDescriptor mtX11_best.1.desc).map (fun d => d.parameters.length) = some 2) ∧ mtX11_best.2.2.1 ≤ 21 := by decide +kernel
theorem wi_mtX10_seen : Cond.initialized mtX10_seen.1.cls ∈ eg_T ∧ Cond.code mtX10_seen.1 mtX10_seen.2.1 mtX10_seen.2.2.1 mtX10_seen.2.2.2 ∈ eg_T := ⟨(eg_t1 (i := 1) (by decide +kernel) rfl), (eg_t5 (i := 59) rfl rfl)⟩
theorem ws_mtX10_seen : Cond.instanceMethod mtX10_seen.1 ∈ eg_T ∧ Cond.selects mtX10_seen.1.cls mtX10_seen.1 mtX10_seen.1 ∈ eg_T := ⟨(eg_t5 (i := 57) (by decide +kernel) rfl), (eg_t5 (i := 58) (by decide +kernel) rfl)⟩
theorem wd_mtX10_seen : (mtX10_seen.1.cls ≠ "java/lang/invoke/MethodHandle" ∧ mtX10_seen.1.cls ≠ "java/lang/invoke/VarHandle" ∧ (parseMethodDescriptor mtX10_seen.1.desc).map (fun d => d.parameters.length) = some 2) ∧ mtX10_seen.2.2.1 ≤ 21 := by decide +kernel
theorem wi_mtX11_seen : Cond.initialized mtX11_seen.1.cls ∈ eg_T ∧ Cond.code mtX11_seen.1 mtX11_seen.2.1 mtX11_seen.2.2.1 mtX11_seen.2.2.2 ∈ eg_T := ⟨(eg_t1 (i := 12) (by decide +kernel) rfl), (eg_t8 (i := 162) rfl rfl)⟩
theorem ws_mtX11_seen : Cond.instanceMethod mtX11_seen.1 ∈ eg_T ∧ Cond.selects mtX11_seen.1.cls mtX11_seen.1 mtX11_seen.1 ∈ eg_T := ⟨(eg_t8 (i := 160) (by decide +kernel) rfl), (eg_t8 (i := 161) (by decide +kernel) rfl)⟩
theorem wd_mtX11_seen : (mtX11_seen.1.cls ≠ "java/lang/invoke/MethodHandle" ∧ mtX11_seen.1.cls ≠ "java/lang/invoke/VarHandle" ∧ (parseMethodDescriptor mtX11_seen.1.desc).map (fun d => d.parameters.length) = some 2) ∧ mtX11_seen.2.2.1 ≤ 21 := by decide +kernel
theorem wi_mtX10_plates : Cond.initialized mtX10_plates.1.cls ∈ eg_T ∧ Cond.code mtX10_plates.1 mtX10_plates.2.1 mtX10_plates.2.2.1 mtX10_plates.2.2.2 ∈ eg_T := ⟨(eg_t1 (i := 1) (by decide +kernel) rfl), (eg_t5 (i := 67) rfl rfl)⟩
theorem ws_mtX10_plates : Cond.instanceMethod mtX10_plates.1 ∈ eg_T ∧ Cond.selects mtX10_plates.1.cls mtX10_plates.1 mtX10_plates.1 ∈ eg_T := ⟨(eg_t5 (i := 65) (by decide +kernel) rfl), (eg_t5 (i := 66) (by decide +kernel) rfl)⟩
theorem wd_mtX10_plates : (mtX10_plates.1.cls ≠ "java/lang/invoke/MethodHandle" ∧ mtX10_plates.1.cls ≠ "java/lang/invoke/VarHandle" ∧ (parseMethodDescriptor mtX10_plates.1.desc).map (fun d => d.parameters.length) = some 3) ∧ mtX10_plates.2.2.1 ≤ 21 := by decide +kernel
theorem wi_mtX11_plates : Cond.initialized mtX11_plates.1.cls ∈ eg_T ∧ Cond.code mtX11_plates.1 mtX11_plates.2.1 mtX11_plates.2.2.1 mtX11_plates.2.2.2 ∈ eg_T := ⟨(eg_t1 (i := 12) (by decide +kernel) rfl), (eg_t8 (i := 170) rfl rfl)⟩
theorem ws_mtX11_plates : Cond.instanceMethod mtX11_plates.1 ∈ eg_T ∧ Cond.selects mtX11_plates.1.cls mtX11_plates.1 mtX11_plates.1 ∈ eg_T := ⟨(eg_t8 (i := 168) (by decide +kernel) rfl), (eg_t8 (i := 169) (by decide +kernel) rfl)⟩
theorem wd_mtX11_plates : (mtX11_plates.1.cls ≠ "java/lang/invoke/MethodHandle" ∧ mtX11_plates.1.cls ≠ "java/lang/invoke/VarHandle" ∧ (parseMethodDescriptor mtX11_plates.1.desc).map (fun d => d.parameters.length) = some 3) ∧ mtX11_plates.2.2.1 ≤ 21 := by decide +kernel
theorem wi_mtX10_worth : Cond.initialized mtX10_worth.1.cls ∈ eg_T ∧ Cond.code mtX10_worth.1 mtX10_worth.2.1 mtX10_worth.2.2.1 mtX10_worth.2.2.2 ∈ eg_T := ⟨(eg_t1 (i := 1) (by decide +kernel) rfl), (eg_t5 (i := 83) rfl rfl)⟩
theorem ws_mtX10_worth : Cond.instanceMethod mtX10_worth.1 ∈ eg_T ∧ Cond.selects mtX10_worth.1.cls mtX10_worth.1 mtX10_worth.1 ∈ eg_T := ⟨(eg_t5 (i := 81) (by decide +kernel) rfl), (eg_t5 (i := 82) (by decide +kernel) rfl)⟩
theorem wd_mtX10_worth : (mtX10_worth.1.cls ≠ "java/lang/invoke/MethodHandle" ∧ mtX10_worth.1.cls ≠ "java/lang/invoke/VarHandle" ∧ (parseMethodDescriptor mtX10_worth.1.desc).map (fun d => d.parameters.length) = some 1) ∧ mtX10_worth.2.2.1 ≤ 21 := by decide +kernel
theorem wi_mtX11_worth : Cond.initialized mtX11_worth.1.cls ∈ eg_T ∧ Cond.code mtX11_worth.1 mtX11_worth.2.1 mtX11_worth.2.2.1 mtX11_worth.2.2.2 ∈ eg_T := ⟨(eg_t1 (i := 12) (by decide +kernel) rfl), (eg_t8 (i := 178) rfl rfl)⟩
theorem ws_mtX11_worth : Cond.instanceMethod mtX11_worth.1 ∈ eg_T ∧ Cond.selects mtX11_worth.1.cls mtX11_worth.1 mtX11_worth.1 ∈ eg_T := ⟨(eg_t8 (i := 176) (by decide +kernel) rfl), (eg_t8 (i := 177) (by decide +kernel) rfl)⟩
theorem wd_mtX11_worth : (mtX11_worth.1.cls ≠ "java/lang/invoke/MethodHandle" ∧ mtX11_worth.1.cls ≠ "java/lang/invoke/VarHandle" ∧ (parseMethodDescriptor mtX11_worth.1.desc).map (fun d => d.parameters.length) = some 1) ∧ mtX11_worth.2.2.1 ≤ 21 := by decide +kernel
theorem wi_mtX10_fill : Cond.initialized mtX10_fill.1.cls ∈ eg_T ∧ Cond.code mtX10_fill.1 mtX10_fill.2.1 mtX10_fill.2.2.1 mtX10_fill.2.2.2 ∈ eg_T := ⟨(eg_t1 (i := 1) (by decide +kernel) rfl), (eg_t5 (i := 87) rfl rfl)⟩
theorem ws_mtX10_fill : Cond.instanceMethod mtX10_fill.1 ∈ eg_T ∧ Cond.selects mtX10_fill.1.cls mtX10_fill.1 mtX10_fill.1 ∈ eg_T := ⟨(eg_t5 (i := 85) (by decide +kernel) rfl), (eg_t5 (i := 86) (by decide +kernel) rfl)⟩
theorem wd_mtX10_fill : (mtX10_fill.1.cls ≠ "java/lang/invoke/MethodHandle" ∧ mtX10_fill.1.cls ≠ "java/lang/invoke/VarHandle" ∧ (parseMethodDescriptor mtX10_fill.1.desc).map (fun d => d.parameters.length) = some 5) ∧ mtX10_fill.2.2.1 ≤ 21 := by decide +kernel
theorem wi_mtX11_fill : Cond.initialized mtX11_fill.1.cls ∈ eg_T ∧ Cond.code mtX11_fill.1 mtX11_fill.2.1 mtX11_fill.2.2.1 mtX11_fill.2.2.2 ∈ eg_T := ⟨(eg_t1 (i := 12) (by decide +kernel) rfl), (eg_t8 (i := 182) rfl rfl)⟩
theorem ws_mtX11_fill : Cond.instanceMethod mtX11_fill.1 ∈ eg_T ∧ Cond.selects mtX11_fill.1.cls mtX11_fill.1 mtX11_fill.1 ∈ eg_T := ⟨(eg_t8 (i := 180) (by decide +kernel) rfl), (eg_t8 (i := 181) (by decide +kernel) rfl)⟩
theorem wd_mtX11_fill : (mtX11_fill.1.cls ≠ "java/lang/invoke/MethodHandle" ∧ mtX11_fill.1.cls ≠ "java/lang/invoke/VarHandle" ∧ (parseMethodDescriptor mtX11_fill.1.desc).map (fun d => d.parameters.length) = some 5) ∧ mtX11_fill.2.2.1 ≤ 21 := by decide +kernel
theorem wi_mtX10_rule : Cond.initialized mtX10_rule.1.cls ∈ eg_T ∧ Cond.code mtX10_rule.1 mtX10_rule.2.1 mtX10_rule.2.2.1 mtX10_rule.2.2.2 ∈ eg_T := ⟨(eg_t1 (i := 1) (by decide +kernel) rfl), (eg_t5 (i := 99) rfl rfl)⟩
theorem ws_mtX10_rule : Cond.instanceMethod mtX10_rule.1 ∈ eg_T ∧ Cond.selects mtX10_rule.1.cls mtX10_rule.1 mtX10_rule.1 ∈ eg_T := ⟨(eg_t5 (i := 97) (by decide +kernel) rfl), (eg_t5 (i := 98) (by decide +kernel) rfl)⟩
theorem wd_mtX10_rule : (mtX10_rule.1.cls ≠ "java/lang/invoke/MethodHandle" ∧ mtX10_rule.1.cls ≠ "java/lang/invoke/VarHandle" ∧ (parseMethodDescriptor mtX10_rule.1.desc).map (fun d => d.parameters.length) = some 5) ∧ mtX10_rule.2.2.1 ≤ 21 := by decide +kernel
theorem wi_mtX11_rule : Cond.initialized mtX11_rule.1.cls ∈ eg_T ∧ Cond.code mtX11_rule.1 mtX11_rule.2.1 mtX11_rule.2.2.1 mtX11_rule.2.2.2 ∈ eg_T := ⟨(eg_t1 (i := 12) (by decide +kernel) rfl), (eg_t8 (i := 194) rfl rfl)⟩
theorem ws_mtX11_rule : Cond.instanceMethod mtX11_rule.1 ∈ eg_T ∧ Cond.selects mtX11_rule.1.cls mtX11_rule.1 mtX11_rule.1 ∈ eg_T := ⟨(eg_t8 (i := 192) (by decide +kernel) rfl), (eg_t8 (i := 193) (by decide +kernel) rfl)⟩
theorem wd_mtX11_rule : (mtX11_rule.1.cls ≠ "java/lang/invoke/MethodHandle" ∧ mtX11_rule.1.cls ≠ "java/lang/invoke/VarHandle" ∧ (parseMethodDescriptor mtX11_rule.1.desc).map (fun d => d.parameters.length) = some 5) ∧ mtX11_rule.2.2.1 ≤ 21 := by decide +kernel
theorem wi_mtX10_bus : Cond.initialized mtX10_bus.1.cls ∈ eg_T ∧ Cond.code mtX10_bus.1 mtX10_bus.2.1 mtX10_bus.2.2.1 mtX10_bus.2.2.2 ∈ eg_T := ⟨(eg_t1 (i := 1) (by decide +kernel) rfl), (eg_t5 (i := 103) rfl rfl)⟩
theorem ws_mtX10_bus : Cond.instanceMethod mtX10_bus.1 ∈ eg_T ∧ Cond.selects mtX10_bus.1.cls mtX10_bus.1 mtX10_bus.1 ∈ eg_T := ⟨(eg_t5 (i := 101) (by decide +kernel) rfl), (eg_t5 (i := 102) (by decide +kernel) rfl)⟩
theorem wd_mtX10_bus : (mtX10_bus.1.cls ≠ "java/lang/invoke/MethodHandle" ∧ mtX10_bus.1.cls ≠ "java/lang/invoke/VarHandle" ∧ (parseMethodDescriptor mtX10_bus.1.desc).map (fun d => d.parameters.length) = some 4) ∧ mtX10_bus.2.2.1 ≤ 21 := by decide +kernel
theorem wi_mtX11_bus : Cond.initialized mtX11_bus.1.cls ∈ eg_T ∧ Cond.code mtX11_bus.1 mtX11_bus.2.1 mtX11_bus.2.2.1 mtX11_bus.2.2.2 ∈ eg_T := ⟨(eg_t1 (i := 12) (by decide +kernel) rfl), (eg_t8 (i := 198) rfl rfl)⟩
theorem ws_mtX11_bus : Cond.instanceMethod mtX11_bus.1 ∈ eg_T ∧ Cond.selects mtX11_bus.1.cls mtX11_bus.1 mtX11_bus.1 ∈ eg_T := ⟨(eg_t8 (i := 196) (by decide +kernel) rfl), (eg_t8 (i := 197) (by decide +kernel) rfl)⟩
theorem wd_mtX11_bus : (mtX11_bus.1.cls ≠ "java/lang/invoke/MethodHandle" ∧ mtX11_bus.1.cls ≠ "java/lang/invoke/VarHandle" ∧ (parseMethodDescriptor mtX11_bus.1.desc).map (fun d => d.parameters.length) = some 4) ∧ mtX11_bus.2.2.1 ≤ 21 := by decide +kernel
theorem wi_mtX10_chance : Cond.initialized mtX10_chance.1.cls ∈ eg_T ∧ Cond.code mtX10_chance.1 mtX10_chance.2.1 mtX10_chance.2.2.1 mtX10_chance.2.2.2 ∈ eg_T := ⟨(eg_t1 (i := 1) (by decide +kernel) rfl), (eg_t5 (i := 108) rfl rfl)⟩
theorem ws_mtX10_chance : Cond.instanceMethod mtX10_chance.1 ∈ eg_T ∧ Cond.selects mtX10_chance.1.cls mtX10_chance.1 mtX10_chance.1 ∈ eg_T := ⟨(eg_t5 (i := 106) (by decide +kernel) rfl), (eg_t5 (i := 107) (by decide +kernel) rfl)⟩
theorem wd_mtX10_chance : (mtX10_chance.1.cls ≠ "java/lang/invoke/MethodHandle" ∧ mtX10_chance.1.cls ≠ "java/lang/invoke/VarHandle" ∧ (parseMethodDescriptor mtX10_chance.1.desc).map (fun d => d.parameters.length) = some 4) ∧ mtX10_chance.2.2.1 ≤ 21 := by decide +kernel
theorem wi_mtX11_chance : Cond.initialized mtX11_chance.1.cls ∈ eg_T ∧ Cond.code mtX11_chance.1 mtX11_chance.2.1 mtX11_chance.2.2.1 mtX11_chance.2.2.2 ∈ eg_T := ⟨(eg_t1 (i := 12) (by decide +kernel) rfl), (eg_t8 (i := 202) rfl rfl)⟩
theorem ws_mtX11_chance : Cond.instanceMethod mtX11_chance.1 ∈ eg_T ∧ Cond.selects mtX11_chance.1.cls mtX11_chance.1 mtX11_chance.1 ∈ eg_T := ⟨(eg_t8 (i := 200) (by decide +kernel) rfl), (eg_t8 (i := 201) (by decide +kernel) rfl)⟩
theorem wd_mtX11_chance : (mtX11_chance.1.cls ≠ "java/lang/invoke/MethodHandle" ∧ mtX11_chance.1.cls ≠ "java/lang/invoke/VarHandle" ∧ (parseMethodDescriptor mtX11_chance.1.desc).map (fun d => d.parameters.length) = some 4) ∧ mtX11_chance.2.2.1 ≤ 21 := by decide +kernel
theorem wi_mtX10_law : Cond.initialized mtX10_law.1.cls ∈ eg_T ∧ Cond.code mtX10_law.1 mtX10_law.2.1 mtX10_law.2.2.1 mtX10_law.2.2.2 ∈ eg_T := ⟨(eg_t1 (i := 1) (by decide +kernel) rfl), (eg_t5 (i := 116) rfl rfl)⟩
theorem ws_mtX10_law : Cond.instanceMethod mtX10_law.1 ∈ eg_T ∧ Cond.selects mtX10_law.1.cls mtX10_law.1 mtX10_law.1 ∈ eg_T := ⟨(eg_t5 (i := 114) (by decide +kernel) rfl), (eg_t5 (i := 115) (by decide +kernel) rfl)⟩
theorem wd_mtX10_law : (mtX10_law.1.cls ≠ "java/lang/invoke/MethodHandle" ∧ mtX10_law.1.cls ≠ "java/lang/invoke/VarHandle" ∧ (parseMethodDescriptor mtX10_law.1.desc).map (fun d => d.parameters.length) = some 5) ∧ mtX10_law.2.2.1 ≤ 21 := by decide +kernel
theorem wi_mtX11_law : Cond.initialized mtX11_law.1.cls ∈ eg_T ∧ Cond.code mtX11_law.1 mtX11_law.2.1 mtX11_law.2.2.1 mtX11_law.2.2.2 ∈ eg_T := ⟨(eg_t1 (i := 12) (by decide +kernel) rfl), (eg_t8 (i := 210) rfl rfl)⟩
theorem ws_mtX11_law : Cond.instanceMethod mtX11_law.1 ∈ eg_T ∧ Cond.selects mtX11_law.1.cls mtX11_law.1 mtX11_law.1 ∈ eg_T := ⟨(eg_t8 (i := 208) (by decide +kernel) rfl), (eg_t8 (i := 209) (by decide +kernel) rfl)⟩
theorem wd_mtX11_law : (mtX11_law.1.cls ≠ "java/lang/invoke/MethodHandle" ∧ mtX11_law.1.cls ≠ "java/lang/invoke/VarHandle" ∧ (parseMethodDescriptor mtX11_law.1.desc).map (fun d => d.parameters.length) = some 5) ∧ mtX11_law.2.2.1 ≤ 21 := by decide +kernel
theorem wi_mtX10_count : Cond.initialized mtX10_count.1.cls ∈ eg_T ∧ Cond.code mtX10_count.1 mtX10_count.2.1 mtX10_count.2.2.1 mtX10_count.2.2.2 ∈ eg_T := ⟨(eg_t1 (i := 1) (by decide +kernel) rfl), (eg_t5 (i := 126) rfl rfl)⟩
theorem ws_mtX10_count : Cond.instanceMethod mtX10_count.1 ∈ eg_T ∧ Cond.selects mtX10_count.1.cls mtX10_count.1 mtX10_count.1 ∈ eg_T := ⟨(eg_t5 (i := 124) (by decide +kernel) rfl), (eg_t5 (i := 125) (by decide +kernel) rfl)⟩
theorem wd_mtX10_count : (mtX10_count.1.cls ≠ "java/lang/invoke/MethodHandle" ∧ mtX10_count.1.cls ≠ "java/lang/invoke/VarHandle" ∧ (parseMethodDescriptor mtX10_count.1.desc).map (fun d => d.parameters.length) = some 4) ∧ mtX10_count.2.2.1 ≤ 21 := by decide +kernel
theorem wi_mtX11_count : Cond.initialized mtX11_count.1.cls ∈ eg_T ∧ Cond.code mtX11_count.1 mtX11_count.2.1 mtX11_count.2.2.1 mtX11_count.2.2.2 ∈ eg_T := ⟨(eg_t1 (i := 12) (by decide +kernel) rfl), (eg_t8 (i := 215) rfl rfl)⟩
theorem ws_mtX11_count : Cond.instanceMethod mtX11_count.1 ∈ eg_T ∧ Cond.selects mtX11_count.1.cls mtX11_count.1 mtX11_count.1 ∈ eg_T := ⟨(eg_t8 (i := 213) (by decide +kernel) rfl), (eg_t8 (i := 214) (by decide +kernel) rfl)⟩
theorem wd_mtX11_count : (mtX11_count.1.cls ≠ "java/lang/invoke/MethodHandle" ∧ mtX11_count.1.cls ≠ "java/lang/invoke/VarHandle" ∧ (parseMethodDescriptor mtX11_count.1.desc).map (fun d => d.parameters.length) = some 4) ∧ mtX11_count.2.2.1 ≤ 21 := by decide +kernel
theorem wi_mtX10_strike : Cond.initialized mtX10_strike.1.cls ∈ eg_T ∧ Cond.code mtX10_strike.1 mtX10_strike.2.1 mtX10_strike.2.2.1 mtX10_strike.2.2.2 ∈ eg_T := ⟨(eg_t1 (i := 1) (by decide +kernel) rfl), (eg_t5 (i := 134) rfl rfl)⟩
theorem ws_mtX10_strike : Cond.instanceMethod mtX10_strike.1 ∈ eg_T ∧ Cond.selects mtX10_strike.1.cls mtX10_strike.1 mtX10_strike.1 ∈ eg_T := ⟨(eg_t5 (i := 132) (by decide +kernel) rfl), (eg_t5 (i := 133) (by decide +kernel) rfl)⟩
theorem wd_mtX10_strike : (mtX10_strike.1.cls ≠ "java/lang/invoke/MethodHandle" ∧ mtX10_strike.1.cls ≠ "java/lang/invoke/VarHandle" ∧ (parseMethodDescriptor mtX10_strike.1.desc).map (fun d => d.parameters.length) = some 1) ∧ mtX10_strike.2.2.1 ≤ 21 := by decide +kernel
theorem wi_mtX11_strike : Cond.initialized mtX11_strike.1.cls ∈ eg_T ∧ Cond.code mtX11_strike.1 mtX11_strike.2.1 mtX11_strike.2.2.1 mtX11_strike.2.2.2 ∈ eg_T := ⟨(eg_t1 (i := 12) (by decide +kernel) rfl), (eg_t8 (i := 219) rfl rfl)⟩
theorem ws_mtX11_strike : Cond.instanceMethod mtX11_strike.1 ∈ eg_T ∧ Cond.selects mtX11_strike.1.cls mtX11_strike.1 mtX11_strike.1 ∈ eg_T := ⟨(eg_t8 (i := 217) (by decide +kernel) rfl), (eg_t8 (i := 218) (by decide +kernel) rfl)⟩
theorem wd_mtX11_strike : (mtX11_strike.1.cls ≠ "java/lang/invoke/MethodHandle" ∧ mtX11_strike.1.cls ≠ "java/lang/invoke/VarHandle" ∧ (parseMethodDescriptor mtX11_strike.1.desc).map (fun d => d.parameters.length) = some 1) ∧ mtX11_strike.2.2.1 ≤ 21 := by decide +kernel
theorem wi_mtX10_known : Cond.initialized mtX10_known.1.cls ∈ eg_T ∧ Cond.code mtX10_known.1 mtX10_known.2.1 mtX10_known.2.2.1 mtX10_known.2.2.2 ∈ eg_T := ⟨(eg_t1 (i := 1) (by decide +kernel) rfl), (eg_t5 (i := 138) rfl rfl)⟩
theorem ws_mtX10_known : Cond.instanceMethod mtX10_known.1 ∈ eg_T ∧ Cond.selects mtX10_known.1.cls mtX10_known.1 mtX10_known.1 ∈ eg_T := ⟨(eg_t5 (i := 136) (by decide +kernel) rfl), (eg_t5 (i := 137) (by decide +kernel) rfl)⟩
theorem wd_mtX10_known : (mtX10_known.1.cls ≠ "java/lang/invoke/MethodHandle" ∧ mtX10_known.1.cls ≠ "java/lang/invoke/VarHandle" ∧ (parseMethodDescriptor mtX10_known.1.desc).map (fun d => d.parameters.length) = some 1) ∧ mtX10_known.2.2.1 ≤ 21 := by decide +kernel
theorem wi_mtX11_known : Cond.initialized mtX11_known.1.cls ∈ eg_T ∧ Cond.code mtX11_known.1 mtX11_known.2.1 mtX11_known.2.2.1 mtX11_known.2.2.2 ∈ eg_T := ⟨(eg_t1 (i := 12) (by decide +kernel) rfl), (eg_t8 (i := 223) rfl rfl)⟩
theorem ws_mtX11_known : Cond.instanceMethod mtX11_known.1 ∈ eg_T ∧ Cond.selects mtX11_known.1.cls mtX11_known.1 mtX11_known.1 ∈ eg_T := ⟨(eg_t8 (i := 221) (by decide +kernel) rfl), (eg_t8 (i := 222) (by decide +kernel) rfl)⟩
theorem wd_mtX11_known : (mtX11_known.1.cls ≠ "java/lang/invoke/MethodHandle" ∧ mtX11_known.1.cls ≠ "java/lang/invoke/VarHandle" ∧ (parseMethodDescriptor mtX11_known.1.desc).map (fun d => d.parameters.length) = some 1) ∧ mtX11_known.2.2.1 ≤ 21 := by decide +kernel
theorem wi_mtX10_fits : Cond.initialized mtX10_fits.1.cls ∈ eg_T ∧ Cond.code mtX10_fits.1 mtX10_fits.2.1 mtX10_fits.2.2.1 mtX10_fits.2.2.2 ∈ eg_T := ⟨(eg_t1 (i := 1) (by decide +kernel) rfl), (eg_t5 (i := 142) rfl rfl)⟩
theorem ws_mtX10_fits : Cond.instanceMethod mtX10_fits.1 ∈ eg_T ∧ Cond.selects mtX10_fits.1.cls mtX10_fits.1 mtX10_fits.1 ∈ eg_T := ⟨(eg_t5 (i := 140) (by decide +kernel) rfl), (eg_t5 (i := 141) (by decide +kernel) rfl)⟩
theorem wd_mtX10_fits : (mtX10_fits.1.cls ≠ "java/lang/invoke/MethodHandle" ∧ mtX10_fits.1.cls ≠ "java/lang/invoke/VarHandle" ∧ (parseMethodDescriptor mtX10_fits.1.desc).map (fun d => d.parameters.length) = some 0) ∧ mtX10_fits.2.2.1 ≤ 21 := by decide +kernel
theorem wi_mtX11_fits : Cond.initialized mtX11_fits.1.cls ∈ eg_T ∧ Cond.code mtX11_fits.1 mtX11_fits.2.1 mtX11_fits.2.2.1 mtX11_fits.2.2.2 ∈ eg_T := ⟨(eg_t1 (i := 12) (by decide +kernel) rfl), (eg_t8 (i := 227) rfl rfl)⟩
theorem ws_mtX11_fits : Cond.instanceMethod mtX11_fits.1 ∈ eg_T ∧ Cond.selects mtX11_fits.1.cls mtX11_fits.1 mtX11_fits.1 ∈ eg_T := ⟨(eg_t8 (i := 225) (by decide +kernel) rfl), (eg_t8 (i := 226) (by decide +kernel) rfl)⟩
theorem wd_mtX11_fits : (mtX11_fits.1.cls ≠ "java/lang/invoke/MethodHandle" ∧ mtX11_fits.1.cls ≠ "java/lang/invoke/VarHandle" ∧ (parseMethodDescriptor mtX11_fits.1.desc).map (fun d => d.parameters.length) = some 0) ∧ mtX11_fits.2.2.1 ≤ 21 := by decide +kernel
theorem wi_mtX10_keep : Cond.initialized mtX10_keep.1.cls ∈ eg_T ∧ Cond.code mtX10_keep.1 mtX10_keep.2.1 mtX10_keep.2.2.1 mtX10_keep.2.2.2 ∈ eg_T := ⟨(eg_t1 (i := 1) (by decide +kernel) rfl), (eg_t5 (i := 166) rfl rfl)⟩
theorem ws_mtX10_keep : Cond.instanceMethod mtX10_keep.1 ∈ eg_T ∧ Cond.selects mtX10_keep.1.cls mtX10_keep.1 mtX10_keep.1 ∈ eg_T := ⟨(eg_t5 (i := 164) (by decide +kernel) rfl), (eg_t5 (i := 165) (by decide +kernel) rfl)⟩
theorem wd_mtX10_keep : (mtX10_keep.1.cls ≠ "java/lang/invoke/MethodHandle" ∧ mtX10_keep.1.cls ≠ "java/lang/invoke/VarHandle" ∧ (parseMethodDescriptor mtX10_keep.1.desc).map (fun d => d.parameters.length) = some 0) ∧ mtX10_keep.2.2.1 ≤ 21 := by decide +kernel
theorem wi_mtX11_keep : Cond.initialized mtX11_keep.1.cls ∈ eg_T ∧ Cond.code mtX11_keep.1 mtX11_keep.2.1 mtX11_keep.2.2.1 mtX11_keep.2.2.2 ∈ eg_T := ⟨(eg_t1 (i := 12) (by decide +kernel) rfl), (eg_t8 (i := 239) rfl rfl)⟩
theorem ws_mtX11_keep : Cond.instanceMethod mtX11_keep.1 ∈ eg_T ∧ Cond.selects mtX11_keep.1.cls mtX11_keep.1 mtX11_keep.1 ∈ eg_T := ⟨(eg_t8 (i := 237) (by decide +kernel) rfl), (eg_t8 (i := 238) (by decide +kernel) rfl)⟩
theorem wd_mtX11_keep : (mtX11_keep.1.cls ≠ "java/lang/invoke/MethodHandle" ∧ mtX11_keep.1.cls ≠ "java/lang/invoke/VarHandle" ∧ (parseMethodDescriptor mtX11_keep.1.desc).map (fun d => d.parameters.length) = some 0) ∧ mtX11_keep.2.2.1 ≤ 21 := by decide +kernel
theorem wi_mtX10_back : Cond.initialized mtX10_back.1.cls ∈ eg_T ∧ Cond.code mtX10_back.1 mtX10_back.2.1 mtX10_back.2.2.1 mtX10_back.2.2.2 ∈ eg_T := ⟨(eg_t1 (i := 1) (by decide +kernel) rfl), (eg_t5 (i := 170) rfl rfl)⟩
theorem ws_mtX10_back : Cond.instanceMethod mtX10_back.1 ∈ eg_T ∧ Cond.selects mtX10_back.1.cls mtX10_back.1 mtX10_back.1 ∈ eg_T := ⟨(eg_t5 (i := 168) (by decide +kernel) rfl), (eg_t5 (i := 169) (by decide +kernel) rfl)⟩
theorem wd_mtX10_back : (mtX10_back.1.cls ≠ "java/lang/invoke/MethodHandle" ∧ mtX10_back.1.cls ≠ "java/lang/invoke/VarHandle" ∧ (parseMethodDescriptor mtX10_back.1.desc).map (fun d => d.parameters.length) = some 0) ∧ mtX10_back.2.2.1 ≤ 21 := by decide +kernel
theorem wi_mtX11_back : Cond.initialized mtX11_back.1.cls ∈ eg_T ∧ Cond.code mtX11_back.1 mtX11_back.2.1 mtX11_back.2.2.1 mtX11_back.2.2.2 ∈ eg_T := ⟨(eg_t1 (i := 12) (by decide +kernel) rfl), (eg_t9 (i := 3) rfl rfl)⟩
theorem ws_mtX11_back : Cond.instanceMethod mtX11_back.1 ∈ eg_T ∧ Cond.selects mtX11_back.1.cls mtX11_back.1 mtX11_back.1 ∈ eg_T := ⟨(eg_t9 (i := 1) (by decide +kernel) rfl), (eg_t9 (i := 2) (by decide +kernel) rfl)⟩
theorem wd_mtX11_back : (mtX11_back.1.cls ≠ "java/lang/invoke/MethodHandle" ∧ mtX11_back.1.cls ≠ "java/lang/invoke/VarHandle" ∧ (parseMethodDescriptor mtX11_back.1.desc).map (fun d => d.parameters.length) = some 0) ∧ mtX11_back.2.2.1 ≤ 21 := by decide +kernel
theorem wi_mtX10_all : Cond.initialized mtX10_all.1.cls ∈ eg_T ∧ Cond.code mtX10_all.1 mtX10_all.2.1 mtX10_all.2.2.1 mtX10_all.2.2.2 ∈ eg_T := ⟨(eg_t1 (i := 1) (by decide +kernel) rfl), (eg_t5 (i := 174) rfl rfl)⟩
theorem ws_mtX10_all : Cond.instanceMethod mtX10_all.1 ∈ eg_T ∧ Cond.selects mtX10_all.1.cls mtX10_all.1 mtX10_all.1 ∈ eg_T := ⟨(eg_t5 (i := 172) (by decide +kernel) rfl), (eg_t5 (i := 173) (by decide +kernel) rfl)⟩
theorem wd_mtX10_all : (mtX10_all.1.cls ≠ "java/lang/invoke/MethodHandle" ∧ mtX10_all.1.cls ≠ "java/lang/invoke/VarHandle" ∧ (parseMethodDescriptor mtX10_all.1.desc).map (fun d => d.parameters.length) = some 1) ∧ mtX10_all.2.2.1 ≤ 21 := by decide +kernel
theorem wi_mtX11_all : Cond.initialized mtX11_all.1.cls ∈ eg_T ∧ Cond.code mtX11_all.1 mtX11_all.2.1 mtX11_all.2.2.1 mtX11_all.2.2.2 ∈ eg_T := ⟨(eg_t1 (i := 12) (by decide +kernel) rfl), (eg_t9 (i := 7) rfl rfl)⟩
theorem ws_mtX11_all : Cond.instanceMethod mtX11_all.1 ∈ eg_T ∧ Cond.selects mtX11_all.1.cls mtX11_all.1 mtX11_all.1 ∈ eg_T := ⟨(eg_t9 (i := 5) (by decide +kernel) rfl), (eg_t9 (i := 6) (by decide +kernel) rfl)⟩
theorem wd_mtX11_all : (mtX11_all.1.cls ≠ "java/lang/invoke/MethodHandle" ∧ mtX11_all.1.cls ≠ "java/lang/invoke/VarHandle" ∧ (parseMethodDescriptor mtX11_all.1.desc).map (fun d => d.parameters.length) = some 1) ∧ mtX11_all.2.2.1 ≤ 21 := by decide +kernel
theorem ml_L_21 : eg_MV RL 21 mtX10_feed 5 := ⟨⟨(eg_t3 (i := 70) (by decide +kernel) rfl), ws_mtX10_feed.1, ws_mtX10_feed.2, wi_mtX10_feed⟩, wd_mtX10_feed⟩
theorem ml_L_25 : eg_MV RL 25 mtX11_feed 5 := ⟨⟨(eg_t7 (i := 93) (by decide +kernel) rfl), ws_mtX11_feed.1, ws_mtX11_feed.2, wi_mtX11_feed⟩, wd_mtX11_feed⟩
theorem ml_L_26 : eg_MV RL 26 mtX10_text 1 := ⟨⟨(eg_t3 (i := 78) (by decide +kernel) rfl), ws_mtX10_text.1, ws_mtX10_text.2, wi_mtX10_text⟩, wd_mtX10_text⟩
theorem ml_L_30 : eg_MV RL 30 mtX11_text 1 := ⟨⟨(eg_t7 (i := 97) (by decide +kernel) rfl), ws_mtX11_text.1, ws_mtX11_text.2, wi_mtX11_text⟩, wd_mtX11_text⟩
theorem ml_L_31 : eg_MV RL 31 mtX10_fault 1 := ⟨⟨(eg_t4 (i := 56) (by decide +kernel) rfl), ws_mtX10_fault.1, ws_mtX10_fault.2, wi_mtX10_fault⟩, wd_mtX10_fault⟩
theorem ml_L_34 : eg_MV RL 34 mtX11_fault 1 := ⟨⟨(eg_t7 (i := 214) (by decide +kernel) rfl), ws_mtX11_fault.1, ws_mtX11_fault.2, wi_mtX11_fault⟩, wd_mtX11_fault⟩
theorem ml_L_35 : eg_MV RL 35 mtX10_named 2 := ⟨⟨(eg_t4 (i := 60) (by decide +kernel) rfl), ws_mtX10_named.1, ws_mtX10_named.2, wi_mtX10_named⟩, wd_mtX10_named⟩
theorem ml_L_38 : eg_MV RL 38 mtX11_named 2 := ⟨⟨(eg_t7 (i := 218) (by decide +kernel) rfl), ws_mtX11_named.1, ws_mtX11_named.2, wi_mtX11_named⟩, wd_mtX11_named⟩
theorem ml_L_49 : eg_MV RL 49 mtX10_station 2 := ⟨⟨(eg_t4 (i := 67) (by decide +kernel) rfl), ws_mtX10_station.1, ws_mtX10_station.2, wi_mtX10_station⟩, wd_mtX10_station⟩
theorem ml_L_52 : eg_MV RL 52 mtX11_station 2 := ⟨⟨(eg_t7 (i := 234) (by decide +kernel) rfl), ws_mtX11_station.1, ws_mtX11_station.2, wi_mtX11_station⟩, wd_mtX11_station⟩
theorem ml_L_53 : eg_MV RL 53 mtX10_row 1 := ⟨⟨(eg_t4 (i := 83) (by decide +kernel) rfl), ws_mtX10_row.1, ws_mtX10_row.2, wi_mtX10_row⟩, wd_mtX10_row⟩
theorem ml_L_56 : eg_MV RL 56 mtX11_row 1 := ⟨⟨(eg_t8 (i := 6) (by decide +kernel) rfl), ws_mtX11_row.1, ws_mtX11_row.2, wi_mtX11_row⟩, wd_mtX11_row⟩
theorem ml_L_57 : eg_MV RL 57 mtX10_line 1 := ⟨⟨(eg_t4 (i := 87) (by decide +kernel) rfl), ws_mtX10_line.1, ws_mtX10_line.2, wi_mtX10_line⟩, wd_mtX10_line⟩
theorem ml_L_60 : eg_MV RL 60 mtX11_line 1 := ⟨⟨(eg_t8 (i := 10) (by decide +kernel) rfl), ws_mtX11_line.1, ws_mtX11_line.2, wi_mtX11_line⟩, wd_mtX11_line⟩
theorem ml_L_61 : eg_MV RL 61 mtX10_seconds 1 := ⟨⟨(eg_t4 (i := 91) (by decide +kernel) rfl), ws_mtX10_seconds.1, ws_mtX10_seconds.2, wi_mtX10_seconds⟩, wd_mtX10_seconds⟩
theorem ml_L_64 : eg_MV RL 64 mtX11_seconds 1 := ⟨⟨(eg_t8 (i := 14) (by decide +kernel) rfl), ws_mtX11_seconds.1, ws_mtX11_seconds.2, wi_mtX11_seconds⟩, wd_mtX11_seconds⟩
theorem ml_L_65 : eg_MV RL 65 mtX10_put 1 := ⟨⟨(eg_t4 (i := 191) (by decide +kernel) rfl), ws_mtX10_put.1, ws_mtX10_put.2, wi_mtX10_put⟩, wd_mtX10_put⟩
theorem ml_L_68 : eg_MV RL 68 mtX11_put 1 := ⟨⟨(eg_t8 (i := 100) (by decide +kernel) rfl), ws_mtX11_put.1, ws_mtX11_put.2, wi_mtX11_put⟩, wd_mtX11_put⟩
theorem ml_L_69 : eg_MV RL 69 mtX10_change 2 := ⟨⟨(eg_t4 (i := 224) (by decide +kernel) rfl), ws_mtX10_change.1, ws_mtX10_change.2, wi_mtX10_change⟩, wd_mtX10_change⟩
theorem ml_L_73 : eg_MV RL 73 mtX11_change 2 := ⟨⟨(eg_t8 (i := 108) (by decide +kernel) rfl), ws_mtX11_change.1, ws_mtX11_change.2, wi_mtX11_change⟩, wd_mtX11_change⟩
theorem ml_L_74 : eg_MV RL 74 mtX10_send 1 := ⟨⟨(eg_t4 (i := 228) (by decide +kernel) rfl), ws_mtX10_send.1, ws_mtX10_send.2, wi_mtX10_send⟩, wd_mtX10_send⟩
theorem ml_L_78 : eg_MV RL 78 mtX11_send 1 := ⟨⟨(eg_t8 (i := 116) (by decide +kernel) rfl), ws_mtX11_send.1, ws_mtX11_send.2, wi_mtX11_send⟩, wd_mtX11_send⟩
theorem ml_L_79 : eg_MV RL 79 mtX10_undo 0 := ⟨⟨(eg_t4 (i := 236) (by decide +kernel) rfl), ws_mtX10_undo.1, ws_mtX10_undo.2, wi_mtX10_undo⟩, wd_mtX10_undo⟩
theorem ml_L_82 : eg_MV RL 82 mtX11_undo 0 := ⟨⟨(eg_t8 (i := 120) (by decide +kernel) rfl), ws_mtX11_undo.1, ws_mtX11_undo.2, wi_mtX11_undo⟩, wd_mtX11_undo⟩
theorem ml_L_83 : eg_MV RL 83 mtX10_waited 1 := ⟨⟨(eg_t5 (i := 0) (by decide +kernel) rfl), ws_mtX10_waited.1, ws_mtX10_waited.2, wi_mtX10_waited⟩, wd_mtX10_waited⟩
theorem ml_L_86 : eg_MV RL 86 mtX11_waited 1 := ⟨⟨(eg_t8 (i := 124) (by decide +kernel) rfl), ws_mtX11_waited.1, ws_mtX11_waited.2, wi_mtX11_waited⟩, wd_mtX11_waited⟩
theorem ml_L_87 : eg_MV RL 87 mtX10_slow 2 := ⟨⟨(eg_t5 (i := 15) (by decide +kernel) rfl), ws_mtX10_slow.1, ws_mtX10_slow.2, wi_mtX10_slow⟩, wd_mtX10_slow⟩
theorem ml_L_90 : eg_MV RL 90 mtX11_slow 2 := ⟨⟨(eg_t8 (i := 139) (by decide +kernel) rfl), ws_mtX11_slow.1, ws_mtX11_slow.2, wi_mtX11_slow⟩, wd_mtX11_slow⟩
theorem ml_L_91 : eg_MV RL 91 mtX10_many 3 := ⟨⟨(eg_t5 (i := 39) (by decide +kernel) rfl), ws_mtX10_many.1, ws_mtX10_many.2, wi_mtX10_many⟩, wd_mtX10_many⟩
theorem ml_L_95 : eg_MV RL 95 mtX11_many 3 := ⟨⟨(eg_t8 (i := 144) (by decide +kernel) rfl), ws_mtX11_many.1, ws_mtX11_many.2, wi_mtX11_many⟩, wd_mtX11_many⟩
theorem ml_L_96 : eg_MV RL 96 mtX10_best 2 := ⟨⟨(eg_t5 (i := 44) (by decide +kernel) rfl), ws_mtX10_best.1, ws_mtX10_best.2, wi_mtX10_best⟩, wd_mtX10_best⟩
theorem ml_L_99 : eg_MV RL 99 mtX11_best 2 := ⟨⟨(eg_t8 (i := 152) (by decide +kernel) rfl), ws_mtX11_best.1, ws_mtX11_best.2, wi_mtX11_best⟩, wd_mtX11_best⟩
theorem ml_L_100 : eg_MV RL 100 mtX10_seen 2 := ⟨⟨(eg_t5 (i := 56) (by decide +kernel) rfl), ws_mtX10_seen.1, ws_mtX10_seen.2, wi_mtX10_seen⟩, wd_mtX10_seen⟩
theorem ml_L_103 : eg_MV RL 103 mtX11_seen 2 := ⟨⟨(eg_t8 (i := 159) (by decide +kernel) rfl), ws_mtX11_seen.1, ws_mtX11_seen.2, wi_mtX11_seen⟩, wd_mtX11_seen⟩
theorem ml_L_104 : eg_MV RL 104 mtX10_plates 3 := ⟨⟨(eg_t5 (i := 64) (by decide +kernel) rfl), ws_mtX10_plates.1, ws_mtX10_plates.2, wi_mtX10_plates⟩, wd_mtX10_plates⟩
theorem ml_L_107 : eg_MV RL 107 mtX11_plates 3 := ⟨⟨(eg_t8 (i := 167) (by decide +kernel) rfl), ws_mtX11_plates.1, ws_mtX11_plates.2, wi_mtX11_plates⟩, wd_mtX11_plates⟩
theorem ml_L_108 : eg_MV RL 108 mtX10_worth 1 := ⟨⟨(eg_t5 (i := 80) (by decide +kernel) rfl), ws_mtX10_worth.1, ws_mtX10_worth.2, wi_mtX10_worth⟩, wd_mtX10_worth⟩
theorem ml_L_111 : eg_MV RL 111 mtX11_worth 1 := ⟨⟨(eg_t8 (i := 175) (by decide +kernel) rfl), ws_mtX11_worth.1, ws_mtX11_worth.2, wi_mtX11_worth⟩, wd_mtX11_worth⟩
theorem ml_L_112 : eg_MV RL 112 mtX10_fill 5 := ⟨⟨(eg_t5 (i := 84) (by decide +kernel) rfl), ws_mtX10_fill.1, ws_mtX10_fill.2, wi_mtX10_fill⟩, wd_mtX10_fill⟩
theorem ml_L_115 : eg_MV RL 115 mtX11_fill 5 := ⟨⟨(eg_t8 (i := 179) (by decide +kernel) rfl), ws_mtX11_fill.1, ws_mtX11_fill.2, wi_mtX11_fill⟩, wd_mtX11_fill⟩
theorem ml_L_116 : eg_MV RL 116 mtX10_rule 5 := ⟨⟨(eg_t5 (i := 96) (by decide +kernel) rfl), ws_mtX10_rule.1, ws_mtX10_rule.2, wi_mtX10_rule⟩, wd_mtX10_rule⟩
theorem ml_L_119 : eg_MV RL 119 mtX11_rule 5 := ⟨⟨(eg_t8 (i := 191) (by decide +kernel) rfl), ws_mtX11_rule.1, ws_mtX11_rule.2, wi_mtX11_rule⟩, wd_mtX11_rule⟩
theorem ml_L_120 : eg_MV RL 120 mtX10_bus 4 := ⟨⟨(eg_t5 (i := 100) (by decide +kernel) rfl), ws_mtX10_bus.1, ws_mtX10_bus.2, wi_mtX10_bus⟩, wd_mtX10_bus⟩
theorem ml_L_124 : eg_MV RL 124 mtX11_bus 4 := ⟨⟨(eg_t8 (i := 195) (by decide +kernel) rfl), ws_mtX11_bus.1, ws_mtX11_bus.2, wi_mtX11_bus⟩, wd_mtX11_bus⟩
theorem ml_L_125 : eg_MV RL 125 mtX10_chance 4 := ⟨⟨(eg_t5 (i := 105) (by decide +kernel) rfl), ws_mtX10_chance.1, ws_mtX10_chance.2, wi_mtX10_chance⟩, wd_mtX10_chance⟩
theorem ml_L_128 : eg_MV RL 128 mtX11_chance 4 := ⟨⟨(eg_t8 (i := 199) (by decide +kernel) rfl), ws_mtX11_chance.1, ws_mtX11_chance.2, wi_mtX11_chance⟩, wd_mtX11_chance⟩
theorem ml_L_129 : eg_MV RL 129 mtX10_law 5 := ⟨⟨(eg_t5 (i := 113) (by decide +kernel) rfl), ws_mtX10_law.1, ws_mtX10_law.2, wi_mtX10_law⟩, wd_mtX10_law⟩
theorem ml_L_133 : eg_MV RL 133 mtX11_law 5 := ⟨⟨(eg_t8 (i := 207) (by decide +kernel) rfl), ws_mtX11_law.1, ws_mtX11_law.2, wi_mtX11_law⟩, wd_mtX11_law⟩
theorem ml_L_134 : eg_MV RL 134 mtX10_count 4 := ⟨⟨(eg_t5 (i := 123) (by decide +kernel) rfl), ws_mtX10_count.1, ws_mtX10_count.2, wi_mtX10_count⟩, wd_mtX10_count⟩
theorem ml_L_137 : eg_MV RL 137 mtX11_count 4 := ⟨⟨(eg_t8 (i := 212) (by decide +kernel) rfl), ws_mtX11_count.1, ws_mtX11_count.2, wi_mtX11_count⟩, wd_mtX11_count⟩
theorem ml_L_138 : eg_MV RL 138 mtX10_strike 1 := ⟨⟨(eg_t5 (i := 131) (by decide +kernel) rfl), ws_mtX10_strike.1, ws_mtX10_strike.2, wi_mtX10_strike⟩, wd_mtX10_strike⟩
theorem ml_L_141 : eg_MV RL 141 mtX11_strike 1 := ⟨⟨(eg_t8 (i := 216) (by decide +kernel) rfl), ws_mtX11_strike.1, ws_mtX11_strike.2, wi_mtX11_strike⟩, wd_mtX11_strike⟩
theorem ml_L_142 : eg_MV RL 142 mtX10_known 1 := ⟨⟨(eg_t5 (i := 135) (by decide +kernel) rfl), ws_mtX10_known.1, ws_mtX10_known.2, wi_mtX10_known⟩, wd_mtX10_known⟩
theorem ml_L_145 : eg_MV RL 145 mtX11_known 1 := ⟨⟨(eg_t8 (i := 220) (by decide +kernel) rfl), ws_mtX11_known.1, ws_mtX11_known.2, wi_mtX11_known⟩, wd_mtX11_known⟩
theorem ml_L_146 : eg_MV RL 146 mtX10_fits 0 := ⟨⟨(eg_t5 (i := 139) (by decide +kernel) rfl), ws_mtX10_fits.1, ws_mtX10_fits.2, wi_mtX10_fits⟩, wd_mtX10_fits⟩
theorem ml_L_149 : eg_MV RL 149 mtX11_fits 0 := ⟨⟨(eg_t8 (i := 224) (by decide +kernel) rfl), ws_mtX11_fits.1, ws_mtX11_fits.2, wi_mtX11_fits⟩, wd_mtX11_fits⟩
theorem ml_L_150 : eg_MV RL 150 mtX10_keep 0 := ⟨⟨(eg_t5 (i := 163) (by decide +kernel) rfl), ws_mtX10_keep.1, ws_mtX10_keep.2, wi_mtX10_keep⟩, wd_mtX10_keep⟩
theorem ml_L_153 : eg_MV RL 153 mtX11_keep 0 := ⟨⟨(eg_t8 (i := 236) (by decide +kernel) rfl), ws_mtX11_keep.1, ws_mtX11_keep.2, wi_mtX11_keep⟩, wd_mtX11_keep⟩
theorem ml_L_154 : eg_MV RL 154 mtX10_back 0 := ⟨⟨(eg_t5 (i := 167) (by decide +kernel) rfl), ws_mtX10_back.1, ws_mtX10_back.2, wi_mtX10_back⟩, wd_mtX10_back⟩
theorem ml_L_157 : eg_MV RL 157 mtX11_back 0 := ⟨⟨(eg_t9 (i := 0) (by decide +kernel) rfl), ws_mtX11_back.1, ws_mtX11_back.2, wi_mtX11_back⟩, wd_mtX11_back⟩
theorem ml_L_158 : eg_MV RL 158 mtX10_all 1 := ⟨⟨(eg_t5 (i := 171) (by decide +kernel) rfl), ws_mtX10_all.1, ws_mtX10_all.2, wi_mtX10_all⟩, wd_mtX10_all⟩
theorem ml_L_161 : eg_MV RL 161 mtX11_all 1 := ⟨⟨(eg_t9 (i := 4) (by decide +kernel) rfl), ws_mtX11_all.1, ws_mtX11_all.2, wi_mtX11_all⟩, wd_mtX11_all⟩
theorem lc_feed {κ : eg_K} {p : Program} {e : Env} {s : State} {m : MethodId} {below : List Frame} {meth : Method} {c : Code} {bS Ls : Nat} {xs : Nat → Int32} {M N : eg_H} {o : Int64} {cn sn i C0 : Nat} (C : lwC κ p s m meth c bS Ls xs) (hb : cn ≤ 601024 ∧ sn ≤ 7293034) (hi : i + 6 ≤ Ls) (h : StI mtX10_feed mtX11_feed [vI (xs (i + 1)), vI (xs (i + 2)), vI (xs (i + 3)), vI (xs (i + 4)), vI (xs (i + 5))] M N C0) (kk : ∀ M1 N1 p1, JJ M1 N1 (C0 + 60) p1 → lqW κ p e s m below meth c bS 1400 (lsL κ s bS i) [] M1 N1 o cn sn) : lqW κ p e s m below meth c bS 184 (lsL κ s bS i) [] M N o cn sn := by
  obtain ⟨r, P, Q, hc, hm, hj⟩ := h
  refine lr_aload C 3 dL_law_184 rfl rfl ?_
  refine lr_arg (k := 1) C dL_law_185 dL_law_186 dL_law_188 dL_law_189 dL_law_190 (by decide) (Or.inl ⟨rfl, rfl⟩) (by omega) ?_
  refine lr_arg (k := 2) C dL_law_191 dL_law_192 dL_law_194 dL_law_195 dL_law_196 (by decide) (Or.inl ⟨rfl, rfl⟩) (by omega) ?_
  refine lr_arg (k := 3) C dL_law_197 dL_law_198 dL_law_200 dL_law_201 dL_law_202 (by decide) (Or.inl ⟨rfl, rfl⟩) (by omega) ?_
  refine lr_arg (k := 4) C dL_law_203 dL_law_204 dL_law_206 dL_law_207 dL_law_208 (by decide) (Or.inl ⟨rfl, rfl⟩) (by omega) ?_
  refine lr_arg (k := 5) C dL_law_209 dL_law_210 dL_law_212 dL_law_213 dL_law_214 (by decide) (Or.inl ⟨rfl, rfl⟩) (by omega) ?_
  refine lr_CI (av := [vI (xs (i + 1)), vI (xs (i + 2)), vI (xs (i + 3)), vI (xs (i + 4)), vI (xs (i + 5))]) (st := []) C hb dL_law_215 ml_L_21 rfl rfl rfl (by decide) (hc κ) (fun x M1 hx => ?_)
  obtain ⟨ex, hP⟩ := hx
  refine lr_aload C 2 dL_law_218 rfl rfl ?_
  refine lr_arg (k := 1) C dL_law_219 dL_law_220 dL_law_222 dL_law_223 dL_law_224 (by decide) (Or.inl ⟨rfl, rfl⟩) (by omega) ?_
  refine lr_arg (k := 2) C dL_law_225 dL_law_226 dL_law_228 dL_law_229 dL_law_230 (by decide) (Or.inl ⟨rfl, rfl⟩) (by omega) ?_
  refine lr_arg (k := 3) C dL_law_231 dL_law_232 dL_law_234 dL_law_235 dL_law_236 (by decide) (Or.inl ⟨rfl, rfl⟩) (by omega) ?_
  refine lr_arg (k := 4) C dL_law_237 dL_law_238 dL_law_240 dL_law_241 dL_law_242 (by decide) (Or.inl ⟨rfl, rfl⟩) (by omega) ?_
  refine lr_arg (k := 5) C dL_law_243 dL_law_244 dL_law_246 dL_law_247 dL_law_248 (by decide) (Or.inl ⟨rfl, rfl⟩) (by omega) ?_
  refine lr_MI (av := [vI (xs (i + 1)), vI (xs (i + 2)), vI (xs (i + 3)), vI (xs (i + 4)), vI (xs (i + 5))]) (st := [.int x]) C hb dL_law_249 ml_L_25 rfl rfl rfl (Nat.le_of_ble_eq_true rfl) (hm κ) (fun z N1 hz => ?_)
  obtain ⟨ez, hQ⟩ := hz
  refine lr_eq (tgt := 1400) C dL_law_252 (by decide) (ex.trans ez.symm) ?_
  obtain ⟨p1, hJ⟩ := hj M1 N1 hP hQ
  exact kk M1 N1 p1 hJ
theorem lc_text {κ : eg_K} {p : Program} {e : Env} {s : State} {m : MethodId} {below : List Frame} {meth : Method} {c : Code} {bS Ls : Nat} {xs : Nat → Int32} {M N : eg_H} {o : Int64} {cn sn i C0 : Nat} (C : lwC κ p s m meth c bS Ls xs) (hb : cn ≤ 601024 ∧ sn ≤ 7293034) (hi : i + 6 ≤ Ls) (h : StI mtX10_text mtX11_text [vI (xs (i + 1))] M N C0) (kk : ∀ M1 N1 p1, JJ M1 N1 (C0 + 60) p1 → lqW κ p e s m below meth c bS 1400 (lsL κ s bS i) [] M1 N1 o cn sn) : lqW κ p e s m below meth c bS 257 (lsL κ s bS i) [] M N o cn sn := by
  obtain ⟨r, P, Q, hc, hm, hj⟩ := h
  refine lr_aload C 3 dL_law_257 rfl rfl ?_
  refine lr_arg (k := 1) C dL_law_258 dL_law_259 dL_law_261 dL_law_262 dL_law_263 (by decide) (Or.inl ⟨rfl, rfl⟩) (by omega) ?_
  refine lr_CI (av := [vI (xs (i + 1))]) (st := []) C hb dL_law_264 ml_L_26 rfl rfl rfl (by decide) (hc κ) (fun x M1 hx => ?_)
  obtain ⟨ex, hP⟩ := hx
  refine lr_aload C 2 dL_law_267 rfl rfl ?_
  refine lr_arg (k := 1) C dL_law_268 dL_law_269 dL_law_271 dL_law_272 dL_law_273 (by decide) (Or.inl ⟨rfl, rfl⟩) (by omega) ?_
  refine lr_MI (av := [vI (xs (i + 1))]) (st := [.int x]) C hb dL_law_274 ml_L_30 rfl rfl rfl (Nat.le_of_ble_eq_true rfl) (hm κ) (fun z N1 hz => ?_)
  obtain ⟨ez, hQ⟩ := hz
  refine lr_eq (tgt := 1400) C dL_law_277 (by decide) (ex.trans ez.symm) ?_
  obtain ⟨p1, hJ⟩ := hj M1 N1 hP hQ
  exact kk M1 N1 p1 hJ
theorem lc_fault {κ : eg_K} {p : Program} {e : Env} {s : State} {m : MethodId} {below : List Frame} {meth : Method} {c : Code} {bS Ls : Nat} {xs : Nat → Int32} {M N : eg_H} {o : Int64} {cn sn i C0 : Nat} (C : lwC κ p s m meth c bS Ls xs) (hb : cn ≤ 601024 ∧ sn ≤ 7293034) (hi : i + 6 ≤ Ls) (h : StI mtX10_fault mtX11_fault [vI (xs (i + 1))] M N C0) (kk : ∀ M1 N1 p1, JJ M1 N1 (C0 + 60) p1 → lqW κ p e s m below meth c bS 1400 (lsL κ s bS i) [] M1 N1 o cn sn) : lqW κ p e s m below meth c bS 282 (lsL κ s bS i) [] M N o cn sn := by
  obtain ⟨r, P, Q, hc, hm, hj⟩ := h
  refine lr_aload C 3 dL_law_282 rfl rfl ?_
  refine lr_arg (k := 1) C dL_law_283 dL_law_284 dL_law_286 dL_law_287 dL_law_288 (by decide) (Or.inl ⟨rfl, rfl⟩) (by omega) ?_
  refine lr_CI (av := [vI (xs (i + 1))]) (st := []) C hb dL_law_289 ml_L_31 rfl rfl rfl (by decide) (hc κ) (fun x M1 hx => ?_)
  obtain ⟨ex, hP⟩ := hx
  refine lr_aload C 2 dL_law_292 rfl rfl ?_
  refine lr_arg (k := 1) C dL_law_293 dL_law_294 dL_law_296 dL_law_297 dL_law_298 (by decide) (Or.inl ⟨rfl, rfl⟩) (by omega) ?_
  refine lr_MI (av := [vI (xs (i + 1))]) (st := [.int x]) C hb dL_law_299 ml_L_34 rfl rfl rfl (Nat.le_of_ble_eq_true rfl) (hm κ) (fun z N1 hz => ?_)
  obtain ⟨ez, hQ⟩ := hz
  refine lr_eq (tgt := 1400) C dL_law_302 (by decide) (ex.trans ez.symm) ?_
  obtain ⟨p1, hJ⟩ := hj M1 N1 hP hQ
  exact kk M1 N1 p1 hJ
theorem lc_named {κ : eg_K} {p : Program} {e : Env} {s : State} {m : MethodId} {below : List Frame} {meth : Method} {c : Code} {bS Ls : Nat} {xs : Nat → Int32} {M N : eg_H} {o : Int64} {cn sn i C0 : Nat} (C : lwC κ p s m meth c bS Ls xs) (hb : cn ≤ 601024 ∧ sn ≤ 7293034) (hi : i + 6 ≤ Ls) (h : StI mtX10_named mtX11_named [vI (xs (i + 1)), vI (xs (i + 2))] M N C0) (kk : ∀ M1 N1 p1, JJ M1 N1 (C0 + 60) p1 → lqW κ p e s m below meth c bS 1400 (lsL κ s bS i) [] M1 N1 o cn sn) : lqW κ p e s m below meth c bS 307 (lsL κ s bS i) [] M N o cn sn := by
  obtain ⟨r, P, Q, hc, hm, hj⟩ := h
  refine lr_aload C 3 dL_law_307 rfl rfl ?_
  refine lr_arg (k := 1) C dL_law_308 dL_law_309 dL_law_311 dL_law_312 dL_law_313 (by decide) (Or.inl ⟨rfl, rfl⟩) (by omega) ?_
  refine lr_arg (k := 2) C dL_law_314 dL_law_315 dL_law_317 dL_law_318 dL_law_319 (by decide) (Or.inl ⟨rfl, rfl⟩) (by omega) ?_
  refine lr_CI (av := [vI (xs (i + 1)), vI (xs (i + 2))]) (st := []) C hb dL_law_320 ml_L_35 rfl rfl rfl (by decide) (hc κ) (fun x M1 hx => ?_)
  obtain ⟨ex, hP⟩ := hx
  refine lr_aload C 2 dL_law_323 rfl rfl ?_
  refine lr_arg (k := 1) C dL_law_324 dL_law_325 dL_law_327 dL_law_328 dL_law_329 (by decide) (Or.inl ⟨rfl, rfl⟩) (by omega) ?_
  refine lr_arg (k := 2) C dL_law_330 dL_law_331 dL_law_333 dL_law_334 dL_law_335 (by decide) (Or.inl ⟨rfl, rfl⟩) (by omega) ?_
  refine lr_MI (av := [vI (xs (i + 1)), vI (xs (i + 2))]) (st := [.int x]) C hb dL_law_336 ml_L_38 rfl rfl rfl (Nat.le_of_ble_eq_true rfl) (hm κ) (fun z N1 hz => ?_)
  obtain ⟨ez, hQ⟩ := hz
  refine lr_eq (tgt := 1400) C dL_law_339 (by decide) (ex.trans ez.symm) ?_
  obtain ⟨p1, hJ⟩ := hj M1 N1 hP hQ
  exact kk M1 N1 p1 hJ
theorem lc_station {κ : eg_K} {p : Program} {e : Env} {s : State} {m : MethodId} {below : List Frame} {meth : Method} {c : Code} {bS Ls : Nat} {xs : Nat → Int32} {M N : eg_H} {o : Int64} {cn sn i C0 : Nat} (C : lwC κ p s m meth c bS Ls xs) (hb : cn ≤ 601024 ∧ sn ≤ 7293034) (hi : i + 6 ≤ Ls) (h : StI mtX10_station mtX11_station [vI (xs (i + 1)), vI (xs (i + 2))] M N C0) (kk : ∀ M1 N1 p1, JJ M1 N1 (C0 + 60) p1 → lqW κ p e s m below meth c bS 1400 (lsL κ s bS i) [] M1 N1 o cn sn) : lqW κ p e s m below meth c bS 412 (lsL κ s bS i) [] M N o cn sn := by
  obtain ⟨r, P, Q, hc, hm, hj⟩ := h
  refine lr_aload C 3 dL_law_412 rfl rfl ?_
  refine lr_arg (k := 1) C dL_law_413 dL_law_414 dL_law_416 dL_law_417 dL_law_418 (by decide) (Or.inl ⟨rfl, rfl⟩) (by omega) ?_
  refine lr_arg (k := 2) C dL_law_419 dL_law_420 dL_law_422 dL_law_423 dL_law_424 (by decide) (Or.inl ⟨rfl, rfl⟩) (by omega) ?_
  refine lr_CI (av := [vI (xs (i + 1)), vI (xs (i + 2))]) (st := []) C hb dL_law_425 ml_L_49 rfl rfl rfl (by decide) (hc κ) (fun x M1 hx => ?_)
  obtain ⟨ex, hP⟩ := hx
  refine lr_aload C 2 dL_law_428 rfl rfl ?_
  refine lr_arg (k := 1) C dL_law_429 dL_law_430 dL_law_432 dL_law_433 dL_law_434 (by decide) (Or.inl ⟨rfl, rfl⟩) (by omega) ?_
  refine lr_arg (k := 2) C dL_law_435 dL_law_436 dL_law_438 dL_law_439 dL_law_440 (by decide) (Or.inl ⟨rfl, rfl⟩) (by omega) ?_
  refine lr_MI (av := [vI (xs (i + 1)), vI (xs (i + 2))]) (st := [.int x]) C hb dL_law_441 ml_L_52 rfl rfl rfl (Nat.le_of_ble_eq_true rfl) (hm κ) (fun z N1 hz => ?_)
  obtain ⟨ez, hQ⟩ := hz
  refine lr_eq (tgt := 1400) C dL_law_444 (by decide) (ex.trans ez.symm) ?_
  obtain ⟨p1, hJ⟩ := hj M1 N1 hP hQ
  exact kk M1 N1 p1 hJ
theorem lc_row {κ : eg_K} {p : Program} {e : Env} {s : State} {m : MethodId} {below : List Frame} {meth : Method} {c : Code} {bS Ls : Nat} {xs : Nat → Int32} {M N : eg_H} {o : Int64} {cn sn i C0 : Nat} (C : lwC κ p s m meth c bS Ls xs) (hb : cn ≤ 601024 ∧ sn ≤ 7293034) (hi : i + 6 ≤ Ls) (h : StI mtX10_row mtX11_row [vI (xs (i + 1))] M N C0) (kk : ∀ M1 N1 p1, JJ M1 N1 (C0 + 60) p1 → lqW κ p e s m below meth c bS 1400 (lsL κ s bS i) [] M1 N1 o cn sn) : lqW κ p e s m below meth c bS 449 (lsL κ s bS i) [] M N o cn sn := by
  obtain ⟨r, P, Q, hc, hm, hj⟩ := h
  refine lr_aload C 3 dL_law_449 rfl rfl ?_
  refine lr_arg (k := 1) C dL_law_450 dL_law_451 dL_law_453 dL_law_454 dL_law_455 (by decide) (Or.inl ⟨rfl, rfl⟩) (by omega) ?_
  refine lr_CI (av := [vI (xs (i + 1))]) (st := []) C hb dL_law_456 ml_L_53 rfl rfl rfl (by decide) (hc κ) (fun x M1 hx => ?_)
  obtain ⟨ex, hP⟩ := hx
  refine lr_aload C 2 dL_law_459 rfl rfl ?_
  refine lr_arg (k := 1) C dL_law_460 dL_law_461 dL_law_463 dL_law_464 dL_law_465 (by decide) (Or.inl ⟨rfl, rfl⟩) (by omega) ?_
  refine lr_MI (av := [vI (xs (i + 1))]) (st := [.int x]) C hb dL_law_466 ml_L_56 rfl rfl rfl (Nat.le_of_ble_eq_true rfl) (hm κ) (fun z N1 hz => ?_)
  obtain ⟨ez, hQ⟩ := hz
  refine lr_eq (tgt := 1400) C dL_law_469 (by decide) (ex.trans ez.symm) ?_
  obtain ⟨p1, hJ⟩ := hj M1 N1 hP hQ
  exact kk M1 N1 p1 hJ
theorem lc_line {κ : eg_K} {p : Program} {e : Env} {s : State} {m : MethodId} {below : List Frame} {meth : Method} {c : Code} {bS Ls : Nat} {xs : Nat → Int32} {M N : eg_H} {o : Int64} {cn sn i C0 : Nat} (C : lwC κ p s m meth c bS Ls xs) (hb : cn ≤ 601024 ∧ sn ≤ 7293034) (hi : i + 6 ≤ Ls) (h : StI mtX10_line mtX11_line [vI (xs (i + 1))] M N C0) (kk : ∀ M1 N1 p1, JJ M1 N1 (C0 + 60) p1 → lqW κ p e s m below meth c bS 1400 (lsL κ s bS i) [] M1 N1 o cn sn) : lqW κ p e s m below meth c bS 474 (lsL κ s bS i) [] M N o cn sn := by
  obtain ⟨r, P, Q, hc, hm, hj⟩ := h
  refine lr_aload C 3 dL_law_474 rfl rfl ?_
  refine lr_arg (k := 1) C dL_law_475 dL_law_476 dL_law_478 dL_law_479 dL_law_480 (by decide) (Or.inl ⟨rfl, rfl⟩) (by omega) ?_
  refine lr_CI (av := [vI (xs (i + 1))]) (st := []) C hb dL_law_481 ml_L_57 rfl rfl rfl (by decide) (hc κ) (fun x M1 hx => ?_)
  obtain ⟨ex, hP⟩ := hx
  refine lr_aload C 2 dL_law_484 rfl rfl ?_
  refine lr_arg (k := 1) C dL_law_485 dL_law_486 dL_law_488 dL_law_489 dL_law_490 (by decide) (Or.inl ⟨rfl, rfl⟩) (by omega) ?_
  refine lr_MI (av := [vI (xs (i + 1))]) (st := [.int x]) C hb dL_law_491 ml_L_60 rfl rfl rfl (Nat.le_of_ble_eq_true rfl) (hm κ) (fun z N1 hz => ?_)
  obtain ⟨ez, hQ⟩ := hz
  refine lr_eq (tgt := 1400) C dL_law_494 (by decide) (ex.trans ez.symm) ?_
  obtain ⟨p1, hJ⟩ := hj M1 N1 hP hQ
  exact kk M1 N1 p1 hJ
theorem lc_seconds {κ : eg_K} {p : Program} {e : Env} {s : State} {m : MethodId} {below : List Frame} {meth : Method} {c : Code} {bS Ls : Nat} {xs : Nat → Int32} {M N : eg_H} {o : Int64} {cn sn i C0 : Nat} (C : lwC κ p s m meth c bS Ls xs) (hb : cn ≤ 601024 ∧ sn ≤ 7293034) (hi : i + 6 ≤ Ls) (h : StI mtX10_seconds mtX11_seconds [vI (xs (i + 1))] M N C0) (kk : ∀ M1 N1 p1, JJ M1 N1 (C0 + 60) p1 → lqW κ p e s m below meth c bS 1400 (lsL κ s bS i) [] M1 N1 o cn sn) : lqW κ p e s m below meth c bS 499 (lsL κ s bS i) [] M N o cn sn := by
  obtain ⟨r, P, Q, hc, hm, hj⟩ := h
  refine lr_aload C 3 dL_law_499 rfl rfl ?_
  refine lr_arg (k := 1) C dL_law_500 dL_law_501 dL_law_503 dL_law_504 dL_law_505 (by decide) (Or.inl ⟨rfl, rfl⟩) (by omega) ?_
  refine lr_CI (av := [vI (xs (i + 1))]) (st := []) C hb dL_law_506 ml_L_61 rfl rfl rfl (by decide) (hc κ) (fun x M1 hx => ?_)
  obtain ⟨ex, hP⟩ := hx
  refine lr_aload C 2 dL_law_509 rfl rfl ?_
  refine lr_arg (k := 1) C dL_law_510 dL_law_511 dL_law_513 dL_law_514 dL_law_515 (by decide) (Or.inl ⟨rfl, rfl⟩) (by omega) ?_
  refine lr_MI (av := [vI (xs (i + 1))]) (st := [.int x]) C hb dL_law_516 ml_L_64 rfl rfl rfl (Nat.le_of_ble_eq_true rfl) (hm κ) (fun z N1 hz => ?_)
  obtain ⟨ez, hQ⟩ := hz
  refine lr_eq (tgt := 1400) C dL_law_519 (by decide) (ex.trans ez.symm) ?_
  obtain ⟨p1, hJ⟩ := hj M1 N1 hP hQ
  exact kk M1 N1 p1 hJ
theorem lc_put {κ : eg_K} {p : Program} {e : Env} {s : State} {m : MethodId} {below : List Frame} {meth : Method} {c : Code} {bS Ls : Nat} {xs : Nat → Int32} {M N : eg_H} {o : Int64} {cn sn i C0 : Nat} (C : lwC κ p s m meth c bS Ls xs) (hb : cn ≤ 601024 ∧ sn ≤ 7293034) (hi : i + 6 ≤ Ls) (h : StI mtX10_put mtX11_put [vI (xs (i + 1))] M N C0) (kk : ∀ M1 N1 p1, JJ M1 N1 (C0 + 60) p1 → lqW κ p e s m below meth c bS 1400 (lsL κ s bS i) [] M1 N1 o cn sn) : lqW κ p e s m below meth c bS 524 (lsL κ s bS i) [] M N o cn sn := by
  obtain ⟨r, P, Q, hc, hm, hj⟩ := h
  refine lr_aload C 3 dL_law_524 rfl rfl ?_
  refine lr_arg (k := 1) C dL_law_525 dL_law_526 dL_law_528 dL_law_529 dL_law_530 (by decide) (Or.inl ⟨rfl, rfl⟩) (by omega) ?_
  refine lr_CI (av := [vI (xs (i + 1))]) (st := []) C hb dL_law_531 ml_L_65 rfl rfl rfl (by decide) (hc κ) (fun x M1 hx => ?_)
  obtain ⟨ex, hP⟩ := hx
  refine lr_aload C 2 dL_law_534 rfl rfl ?_
  refine lr_arg (k := 1) C dL_law_535 dL_law_536 dL_law_538 dL_law_539 dL_law_540 (by decide) (Or.inl ⟨rfl, rfl⟩) (by omega) ?_
  refine lr_MI (av := [vI (xs (i + 1))]) (st := [.int x]) C hb dL_law_541 ml_L_68 rfl rfl rfl (Nat.le_of_ble_eq_true rfl) (hm κ) (fun z N1 hz => ?_)
  obtain ⟨ez, hQ⟩ := hz
  refine lr_eq (tgt := 1400) C dL_law_544 (by decide) (ex.trans ez.symm) ?_
  obtain ⟨p1, hJ⟩ := hj M1 N1 hP hQ
  exact kk M1 N1 p1 hJ
theorem lc_change {κ : eg_K} {p : Program} {e : Env} {s : State} {m : MethodId} {below : List Frame} {meth : Method} {c : Code} {bS Ls : Nat} {xs : Nat → Int32} {M N : eg_H} {o : Int64} {cn sn i C0 : Nat} (C : lwC κ p s m meth c bS Ls xs) (hb : cn ≤ 601024 ∧ sn ≤ 7293034) (hi : i + 6 ≤ Ls) (h : StI mtX10_change mtX11_change [vI (xs (i + 1)), vI (xs (i + 2))] M N C0) (kk : ∀ M1 N1 p1, JJ M1 N1 (C0 + 60) p1 → lqW κ p e s m below meth c bS 1400 (lsL κ s bS i) [] M1 N1 o cn sn) : lqW κ p e s m below meth c bS 549 (lsL κ s bS i) [] M N o cn sn := by
  obtain ⟨r, P, Q, hc, hm, hj⟩ := h
  refine lr_aload C 3 dL_law_549 rfl rfl ?_
  refine lr_arg (k := 1) C dL_law_550 dL_law_551 dL_law_553 dL_law_554 dL_law_555 (by decide) (Or.inl ⟨rfl, rfl⟩) (by omega) ?_
  refine lr_arg (k := 2) C dL_law_556 dL_law_557 dL_law_559 dL_law_560 dL_law_561 (by decide) (Or.inl ⟨rfl, rfl⟩) (by omega) ?_
  refine lr_CI (av := [vI (xs (i + 1)), vI (xs (i + 2))]) (st := []) C hb dL_law_562 ml_L_69 rfl rfl rfl (by decide) (hc κ) (fun x M1 hx => ?_)
  obtain ⟨ex, hP⟩ := hx
  refine lr_aload C 2 dL_law_565 rfl rfl ?_
  refine lr_arg (k := 1) C dL_law_566 dL_law_567 dL_law_569 dL_law_570 dL_law_571 (by decide) (Or.inl ⟨rfl, rfl⟩) (by omega) ?_
  refine lr_arg (k := 2) C dL_law_572 dL_law_573 dL_law_575 dL_law_576 dL_law_577 (by decide) (Or.inl ⟨rfl, rfl⟩) (by omega) ?_
  refine lr_MI (av := [vI (xs (i + 1)), vI (xs (i + 2))]) (st := [.int x]) C hb dL_law_578 ml_L_73 rfl rfl rfl (Nat.le_of_ble_eq_true rfl) (hm κ) (fun z N1 hz => ?_)
  obtain ⟨ez, hQ⟩ := hz
  refine lr_eq (tgt := 1400) C dL_law_581 (by decide) (ex.trans ez.symm) ?_
  obtain ⟨p1, hJ⟩ := hj M1 N1 hP hQ
  exact kk M1 N1 p1 hJ
theorem lc_send {κ : eg_K} {p : Program} {e : Env} {s : State} {m : MethodId} {below : List Frame} {meth : Method} {c : Code} {bS Ls : Nat} {xs : Nat → Int32} {M N : eg_H} {o : Int64} {cn sn i C0 : Nat} (C : lwC κ p s m meth c bS Ls xs) (hb : cn ≤ 601024 ∧ sn ≤ 7293034) (hi : i + 6 ≤ Ls) (h : StI mtX10_send mtX11_send [vI (xs (i + 1))] M N C0) (kk : ∀ M1 N1 p1, JJ M1 N1 (C0 + 60) p1 → lqW κ p e s m below meth c bS 1400 (lsL κ s bS i) [] M1 N1 o cn sn) : lqW κ p e s m below meth c bS 586 (lsL κ s bS i) [] M N o cn sn := by
  obtain ⟨r, P, Q, hc, hm, hj⟩ := h
  refine lr_aload C 3 dL_law_586 rfl rfl ?_
  refine lr_arg (k := 1) C dL_law_587 dL_law_588 dL_law_590 dL_law_591 dL_law_592 (by decide) (Or.inl ⟨rfl, rfl⟩) (by omega) ?_
  refine lr_CI (av := [vI (xs (i + 1))]) (st := []) C hb dL_law_593 ml_L_74 rfl rfl rfl (by decide) (hc κ) (fun x M1 hx => ?_)
  obtain ⟨ex, hP⟩ := hx
  refine lr_aload C 2 dL_law_596 rfl rfl ?_
  refine lr_arg (k := 1) C dL_law_597 dL_law_598 dL_law_600 dL_law_601 dL_law_602 (by decide) (Or.inl ⟨rfl, rfl⟩) (by omega) ?_
  refine lr_MI (av := [vI (xs (i + 1))]) (st := [.int x]) C hb dL_law_603 ml_L_78 rfl rfl rfl (Nat.le_of_ble_eq_true rfl) (hm κ) (fun z N1 hz => ?_)
  obtain ⟨ez, hQ⟩ := hz
  refine lr_eq (tgt := 1400) C dL_law_606 (by decide) (ex.trans ez.symm) ?_
  obtain ⟨p1, hJ⟩ := hj M1 N1 hP hQ
  exact kk M1 N1 p1 hJ
theorem lc_undo {κ : eg_K} {p : Program} {e : Env} {s : State} {m : MethodId} {below : List Frame} {meth : Method} {c : Code} {bS Ls : Nat} {xs : Nat → Int32} {M N : eg_H} {o : Int64} {cn sn i C0 : Nat} (C : lwC κ p s m meth c bS Ls xs) (hb : cn ≤ 601024 ∧ sn ≤ 7293034) (hi : i + 6 ≤ Ls) (h : StI mtX10_undo mtX11_undo [] M N C0) (kk : ∀ M1 N1 p1, JJ M1 N1 (C0 + 60) p1 → lqW κ p e s m below meth c bS 1400 (lsL κ s bS i) [] M1 N1 o cn sn) : lqW κ p e s m below meth c bS 611 (lsL κ s bS i) [] M N o cn sn := by
  obtain ⟨r, P, Q, hc, hm, hj⟩ := h
  refine lr_aload C 3 dL_law_611 rfl rfl ?_
  refine lr_CI (av := []) (st := []) C hb dL_law_612 ml_L_79 rfl rfl rfl (by decide) (hc κ) (fun x M1 hx => ?_)
  obtain ⟨ex, hP⟩ := hx
  refine lr_aload C 2 dL_law_615 rfl rfl ?_
  refine lr_MI (av := []) (st := [.int x]) C hb dL_law_616 ml_L_82 rfl rfl rfl (Nat.le_of_ble_eq_true rfl) (hm κ) (fun z N1 hz => ?_)
  obtain ⟨ez, hQ⟩ := hz
  refine lr_eq (tgt := 1400) C dL_law_619 (by decide) (ex.trans ez.symm) ?_
  obtain ⟨p1, hJ⟩ := hj M1 N1 hP hQ
  exact kk M1 N1 p1 hJ
theorem lc_waited {κ : eg_K} {p : Program} {e : Env} {s : State} {m : MethodId} {below : List Frame} {meth : Method} {c : Code} {bS Ls : Nat} {xs : Nat → Int32} {M N : eg_H} {o : Int64} {cn sn i C0 : Nat} (C : lwC κ p s m meth c bS Ls xs) (hb : cn ≤ 601024 ∧ sn ≤ 7293034) (hi : i + 6 ≤ Ls) (h : StI mtX10_waited mtX11_waited [vI (xs (i + 1))] M N C0) (kk : ∀ M1 N1 p1, JJ M1 N1 (C0 + 60) p1 → lqW κ p e s m below meth c bS 1400 (lsL κ s bS i) [] M1 N1 o cn sn) : lqW κ p e s m below meth c bS 624 (lsL κ s bS i) [] M N o cn sn := by
  obtain ⟨r, P, Q, hc, hm, hj⟩ := h
  refine lr_aload C 3 dL_law_624 rfl rfl ?_
  refine lr_arg (k := 1) C dL_law_625 dL_law_626 dL_law_628 dL_law_629 dL_law_630 (by decide) (Or.inl ⟨rfl, rfl⟩) (by omega) ?_
  refine lr_CI (av := [vI (xs (i + 1))]) (st := []) C hb dL_law_631 ml_L_83 rfl rfl rfl (by decide) (hc κ) (fun x M1 hx => ?_)
  obtain ⟨ex, hP⟩ := hx
  refine lr_aload C 2 dL_law_634 rfl rfl ?_
  refine lr_arg (k := 1) C dL_law_635 dL_law_636 dL_law_638 dL_law_639 dL_law_640 (by decide) (Or.inl ⟨rfl, rfl⟩) (by omega) ?_
  refine lr_MI (av := [vI (xs (i + 1))]) (st := [.int x]) C hb dL_law_641 ml_L_86 rfl rfl rfl (Nat.le_of_ble_eq_true rfl) (hm κ) (fun z N1 hz => ?_)
  obtain ⟨ez, hQ⟩ := hz
  refine lr_eq (tgt := 1400) C dL_law_644 (by decide) (ex.trans ez.symm) ?_
  obtain ⟨p1, hJ⟩ := hj M1 N1 hP hQ
  exact kk M1 N1 p1 hJ
theorem lc_slow {κ : eg_K} {p : Program} {e : Env} {s : State} {m : MethodId} {below : List Frame} {meth : Method} {c : Code} {bS Ls : Nat} {xs : Nat → Int32} {M N : eg_H} {o : Int64} {cn sn i C0 : Nat} (C : lwC κ p s m meth c bS Ls xs) (hb : cn ≤ 601024 ∧ sn ≤ 7293034) (hi : i + 6 ≤ Ls) (h : StI mtX10_slow mtX11_slow [vI (xs (i + 1)), vI (xs (i + 2))] M N C0) (kk : ∀ M1 N1 p1, JJ M1 N1 (C0 + 60) p1 → lqW κ p e s m below meth c bS 1400 (lsL κ s bS i) [] M1 N1 o cn sn) : lqW κ p e s m below meth c bS 649 (lsL κ s bS i) [] M N o cn sn := by
  obtain ⟨r, P, Q, hc, hm, hj⟩ := h
  refine lr_aload C 3 dL_law_649 rfl rfl ?_
  refine lr_arg (k := 1) C dL_law_650 dL_law_651 dL_law_653 dL_law_654 dL_law_655 (by decide) (Or.inl ⟨rfl, rfl⟩) (by omega) ?_
  refine lr_arg (k := 2) C dL_law_656 dL_law_657 dL_law_659 dL_law_660 dL_law_661 (by decide) (Or.inl ⟨rfl, rfl⟩) (by omega) ?_
  refine lr_CI (av := [vI (xs (i + 1)), vI (xs (i + 2))]) (st := []) C hb dL_law_662 ml_L_87 rfl rfl rfl (by decide) (hc κ) (fun x M1 hx => ?_)
  obtain ⟨ex, hP⟩ := hx
  refine lr_aload C 2 dL_law_665 rfl rfl ?_
  refine lr_arg (k := 1) C dL_law_666 dL_law_667 dL_law_669 dL_law_670 dL_law_671 (by decide) (Or.inl ⟨rfl, rfl⟩) (by omega) ?_
  refine lr_arg (k := 2) C dL_law_672 dL_law_673 dL_law_675 dL_law_676 dL_law_677 (by decide) (Or.inl ⟨rfl, rfl⟩) (by omega) ?_
  refine lr_MI (av := [vI (xs (i + 1)), vI (xs (i + 2))]) (st := [.int x]) C hb dL_law_678 ml_L_90 rfl rfl rfl (Nat.le_of_ble_eq_true rfl) (hm κ) (fun z N1 hz => ?_)
  obtain ⟨ez, hQ⟩ := hz
  refine lr_eq (tgt := 1400) C dL_law_681 (by decide) (ex.trans ez.symm) ?_
  obtain ⟨p1, hJ⟩ := hj M1 N1 hP hQ
  exact kk M1 N1 p1 hJ
theorem lc_many {κ : eg_K} {p : Program} {e : Env} {s : State} {m : MethodId} {below : List Frame} {meth : Method} {c : Code} {bS Ls : Nat} {xs : Nat → Int32} {M N : eg_H} {o : Int64} {cn sn i C0 : Nat} (C : lwC κ p s m meth c bS Ls xs) (hb : cn ≤ 601024 ∧ sn ≤ 7293034) (hi : i + 6 ≤ Ls) (h : StI mtX10_many mtX11_many [vI (xs (i + 1)), vI (xs (i + 2)), vI (xs (i + 3))] M N C0) (kk : ∀ M1 N1 p1, JJ M1 N1 (C0 + 60) p1 → lqW κ p e s m below meth c bS 1400 (lsL κ s bS i) [] M1 N1 o cn sn) : lqW κ p e s m below meth c bS 686 (lsL κ s bS i) [] M N o cn sn := by
  obtain ⟨r, P, Q, hc, hm, hj⟩ := h
  refine lr_aload C 3 dL_law_686 rfl rfl ?_
  refine lr_arg (k := 1) C dL_law_687 dL_law_688 dL_law_690 dL_law_691 dL_law_692 (by decide) (Or.inl ⟨rfl, rfl⟩) (by omega) ?_
  refine lr_arg (k := 2) C dL_law_693 dL_law_694 dL_law_696 dL_law_697 dL_law_698 (by decide) (Or.inl ⟨rfl, rfl⟩) (by omega) ?_
  refine lr_arg (k := 3) C dL_law_699 dL_law_700 dL_law_702 dL_law_703 dL_law_704 (by decide) (Or.inl ⟨rfl, rfl⟩) (by omega) ?_
  refine lr_CI (av := [vI (xs (i + 1)), vI (xs (i + 2)), vI (xs (i + 3))]) (st := []) C hb dL_law_705 ml_L_91 rfl rfl rfl (by decide) (hc κ) (fun x M1 hx => ?_)
  obtain ⟨ex, hP⟩ := hx
  refine lr_aload C 2 dL_law_708 rfl rfl ?_
  refine lr_arg (k := 1) C dL_law_709 dL_law_710 dL_law_712 dL_law_713 dL_law_714 (by decide) (Or.inl ⟨rfl, rfl⟩) (by omega) ?_
  refine lr_arg (k := 2) C dL_law_715 dL_law_716 dL_law_718 dL_law_719 dL_law_720 (by decide) (Or.inl ⟨rfl, rfl⟩) (by omega) ?_
  refine lr_arg (k := 3) C dL_law_721 dL_law_722 dL_law_724 dL_law_725 dL_law_726 (by decide) (Or.inl ⟨rfl, rfl⟩) (by omega) ?_
  refine lr_MI (av := [vI (xs (i + 1)), vI (xs (i + 2)), vI (xs (i + 3))]) (st := [.int x]) C hb dL_law_727 ml_L_95 rfl rfl rfl (Nat.le_of_ble_eq_true rfl) (hm κ) (fun z N1 hz => ?_)
  obtain ⟨ez, hQ⟩ := hz
  refine lr_eq (tgt := 1400) C dL_law_730 (by decide) (ex.trans ez.symm) ?_
  obtain ⟨p1, hJ⟩ := hj M1 N1 hP hQ
  exact kk M1 N1 p1 hJ
theorem lc_best {κ : eg_K} {p : Program} {e : Env} {s : State} {m : MethodId} {below : List Frame} {meth : Method} {c : Code} {bS Ls : Nat} {xs : Nat → Int32} {M N : eg_H} {o : Int64} {cn sn i C0 : Nat} (C : lwC κ p s m meth c bS Ls xs) (hb : cn ≤ 601024 ∧ sn ≤ 7293034) (hi : i + 6 ≤ Ls) (h : StI mtX10_best mtX11_best [vI (xs (i + 1)), vI (xs (i + 2))] M N C0) (kk : ∀ M1 N1 p1, JJ M1 N1 (C0 + 60) p1 → lqW κ p e s m below meth c bS 1400 (lsL κ s bS i) [] M1 N1 o cn sn) : lqW κ p e s m below meth c bS 735 (lsL κ s bS i) [] M N o cn sn := by
  obtain ⟨r, P, Q, hc, hm, hj⟩ := h
  refine lr_aload C 3 dL_law_735 rfl rfl ?_
  refine lr_arg (k := 1) C dL_law_736 dL_law_737 dL_law_739 dL_law_740 dL_law_741 (by decide) (Or.inl ⟨rfl, rfl⟩) (by omega) ?_
  refine lr_arg (k := 2) C dL_law_742 dL_law_743 dL_law_745 dL_law_746 dL_law_747 (by decide) (Or.inl ⟨rfl, rfl⟩) (by omega) ?_
  refine lr_CI (av := [vI (xs (i + 1)), vI (xs (i + 2))]) (st := []) C hb dL_law_748 ml_L_96 rfl rfl rfl (by decide) (hc κ) (fun x M1 hx => ?_)
  obtain ⟨ex, hP⟩ := hx
  refine lr_aload C 2 dL_law_751 rfl rfl ?_
  refine lr_arg (k := 1) C dL_law_752 dL_law_753 dL_law_755 dL_law_756 dL_law_757 (by decide) (Or.inl ⟨rfl, rfl⟩) (by omega) ?_
  refine lr_arg (k := 2) C dL_law_758 dL_law_759 dL_law_761 dL_law_762 dL_law_763 (by decide) (Or.inl ⟨rfl, rfl⟩) (by omega) ?_
  refine lr_MI (av := [vI (xs (i + 1)), vI (xs (i + 2))]) (st := [.int x]) C hb dL_law_764 ml_L_99 rfl rfl rfl (Nat.le_of_ble_eq_true rfl) (hm κ) (fun z N1 hz => ?_)
  obtain ⟨ez, hQ⟩ := hz
  refine lr_eq (tgt := 1400) C dL_law_767 (by decide) (ex.trans ez.symm) ?_
  obtain ⟨p1, hJ⟩ := hj M1 N1 hP hQ
  exact kk M1 N1 p1 hJ
theorem lc_seen {κ : eg_K} {p : Program} {e : Env} {s : State} {m : MethodId} {below : List Frame} {meth : Method} {c : Code} {bS Ls : Nat} {xs : Nat → Int32} {M N : eg_H} {o : Int64} {cn sn i C0 : Nat} (C : lwC κ p s m meth c bS Ls xs) (hb : cn ≤ 601024 ∧ sn ≤ 7293034) (hi : i + 6 ≤ Ls) (h : StI mtX10_seen mtX11_seen [vI (xs (i + 1)), vI (xs (i + 2))] M N C0) (kk : ∀ M1 N1 p1, JJ M1 N1 (C0 + 60) p1 → lqW κ p e s m below meth c bS 1400 (lsL κ s bS i) [] M1 N1 o cn sn) : lqW κ p e s m below meth c bS 772 (lsL κ s bS i) [] M N o cn sn := by
  obtain ⟨r, P, Q, hc, hm, hj⟩ := h
  refine lr_aload C 3 dL_law_772 rfl rfl ?_
  refine lr_arg (k := 1) C dL_law_773 dL_law_774 dL_law_776 dL_law_777 dL_law_778 (by decide) (Or.inl ⟨rfl, rfl⟩) (by omega) ?_
  refine lr_arg (k := 2) C dL_law_779 dL_law_780 dL_law_782 dL_law_783 dL_law_784 (by decide) (Or.inl ⟨rfl, rfl⟩) (by omega) ?_
  refine lr_CI (av := [vI (xs (i + 1)), vI (xs (i + 2))]) (st := []) C hb dL_law_785 ml_L_100 rfl rfl rfl (by decide) (hc κ) (fun x M1 hx => ?_)
  obtain ⟨ex, hP⟩ := hx
  refine lr_aload C 2 dL_law_788 rfl rfl ?_
  refine lr_arg (k := 1) C dL_law_789 dL_law_790 dL_law_792 dL_law_793 dL_law_794 (by decide) (Or.inl ⟨rfl, rfl⟩) (by omega) ?_
  refine lr_arg (k := 2) C dL_law_795 dL_law_796 dL_law_798 dL_law_799 dL_law_800 (by decide) (Or.inl ⟨rfl, rfl⟩) (by omega) ?_
  refine lr_MI (av := [vI (xs (i + 1)), vI (xs (i + 2))]) (st := [.int x]) C hb dL_law_801 ml_L_103 rfl rfl rfl (Nat.le_of_ble_eq_true rfl) (hm κ) (fun z N1 hz => ?_)
  obtain ⟨ez, hQ⟩ := hz
  refine lr_eq (tgt := 1400) C dL_law_804 (by decide) (ex.trans ez.symm) ?_
  obtain ⟨p1, hJ⟩ := hj M1 N1 hP hQ
  exact kk M1 N1 p1 hJ
theorem lc_plates {κ : eg_K} {p : Program} {e : Env} {s : State} {m : MethodId} {below : List Frame} {meth : Method} {c : Code} {bS Ls : Nat} {xs : Nat → Int32} {M N : eg_H} {o : Int64} {cn sn i C0 : Nat} (C : lwC κ p s m meth c bS Ls xs) (hb : cn ≤ 601024 ∧ sn ≤ 7293034) (hi : i + 6 ≤ Ls) (h : StI mtX10_plates mtX11_plates [vI (xs (i + 1)), vI (xs (i + 2)), vI (xs (i + 3))] M N C0) (kk : ∀ M1 N1 p1, JJ M1 N1 (C0 + 60) p1 → lqW κ p e s m below meth c bS 1400 (lsL κ s bS i) [] M1 N1 o cn sn) : lqW κ p e s m below meth c bS 809 (lsL κ s bS i) [] M N o cn sn := by
  obtain ⟨r, P, Q, hc, hm, hj⟩ := h
  refine lr_aload C 3 dL_law_809 rfl rfl ?_
  refine lr_arg (k := 1) C dL_law_810 dL_law_811 dL_law_813 dL_law_814 dL_law_815 (by decide) (Or.inl ⟨rfl, rfl⟩) (by omega) ?_
  refine lr_arg (k := 2) C dL_law_816 dL_law_817 dL_law_819 dL_law_820 dL_law_821 (by decide) (Or.inl ⟨rfl, rfl⟩) (by omega) ?_
  refine lr_arg (k := 3) C dL_law_822 dL_law_823 dL_law_825 dL_law_826 dL_law_827 (by decide) (Or.inl ⟨rfl, rfl⟩) (by omega) ?_
  refine lr_CI (av := [vI (xs (i + 1)), vI (xs (i + 2)), vI (xs (i + 3))]) (st := []) C hb dL_law_828 ml_L_104 rfl rfl rfl (by decide) (hc κ) (fun x M1 hx => ?_)
  obtain ⟨ex, hP⟩ := hx
  refine lr_aload C 2 dL_law_831 rfl rfl ?_
  refine lr_arg (k := 1) C dL_law_832 dL_law_833 dL_law_835 dL_law_836 dL_law_837 (by decide) (Or.inl ⟨rfl, rfl⟩) (by omega) ?_
  refine lr_arg (k := 2) C dL_law_838 dL_law_839 dL_law_841 dL_law_842 dL_law_843 (by decide) (Or.inl ⟨rfl, rfl⟩) (by omega) ?_
  refine lr_arg (k := 3) C dL_law_844 dL_law_845 dL_law_847 dL_law_848 dL_law_849 (by decide) (Or.inl ⟨rfl, rfl⟩) (by omega) ?_
  refine lr_MI (av := [vI (xs (i + 1)), vI (xs (i + 2)), vI (xs (i + 3))]) (st := [.int x]) C hb dL_law_850 ml_L_107 rfl rfl rfl (Nat.le_of_ble_eq_true rfl) (hm κ) (fun z N1 hz => ?_)
  obtain ⟨ez, hQ⟩ := hz
  refine lr_eq (tgt := 1400) C dL_law_853 (by decide) (ex.trans ez.symm) ?_
  obtain ⟨p1, hJ⟩ := hj M1 N1 hP hQ
  exact kk M1 N1 p1 hJ
theorem lc_worth {κ : eg_K} {p : Program} {e : Env} {s : State} {m : MethodId} {below : List Frame} {meth : Method} {c : Code} {bS Ls : Nat} {xs : Nat → Int32} {M N : eg_H} {o : Int64} {cn sn i C0 : Nat} (C : lwC κ p s m meth c bS Ls xs) (hb : cn ≤ 601024 ∧ sn ≤ 7293034) (hi : i + 6 ≤ Ls) (h : StI mtX10_worth mtX11_worth [vI (xs (i + 1))] M N C0) (kk : ∀ M1 N1 p1, JJ M1 N1 (C0 + 60) p1 → lqW κ p e s m below meth c bS 1400 (lsL κ s bS i) [] M1 N1 o cn sn) : lqW κ p e s m below meth c bS 858 (lsL κ s bS i) [] M N o cn sn := by
  obtain ⟨r, P, Q, hc, hm, hj⟩ := h
  refine lr_aload C 3 dL_law_858 rfl rfl ?_
  refine lr_arg (k := 1) C dL_law_859 dL_law_860 dL_law_862 dL_law_863 dL_law_864 (by decide) (Or.inl ⟨rfl, rfl⟩) (by omega) ?_
  refine lr_CI (av := [vI (xs (i + 1))]) (st := []) C hb dL_law_865 ml_L_108 rfl rfl rfl (by decide) (hc κ) (fun x M1 hx => ?_)
  obtain ⟨ex, hP⟩ := hx
  refine lr_aload C 2 dL_law_868 rfl rfl ?_
  refine lr_arg (k := 1) C dL_law_869 dL_law_870 dL_law_872 dL_law_873 dL_law_874 (by decide) (Or.inl ⟨rfl, rfl⟩) (by omega) ?_
  refine lr_MI (av := [vI (xs (i + 1))]) (st := [.int x]) C hb dL_law_875 ml_L_111 rfl rfl rfl (Nat.le_of_ble_eq_true rfl) (hm κ) (fun z N1 hz => ?_)
  obtain ⟨ez, hQ⟩ := hz
  refine lr_eq (tgt := 1400) C dL_law_878 (by decide) (ex.trans ez.symm) ?_
  obtain ⟨p1, hJ⟩ := hj M1 N1 hP hQ
  exact kk M1 N1 p1 hJ
theorem lc_fill {κ : eg_K} {p : Program} {e : Env} {s : State} {m : MethodId} {below : List Frame} {meth : Method} {c : Code} {bS Ls : Nat} {xs : Nat → Int32} {M N : eg_H} {o : Int64} {cn sn i C0 : Nat} (C : lwC κ p s m meth c bS Ls xs) (hb : cn ≤ 601024 ∧ sn ≤ 7293034) (hi : i + 6 ≤ Ls) (h : StI mtX10_fill mtX11_fill [vI (xs (i + 1)), vI (xs (i + 2)), vI (xs (i + 3)), vI (xs (i + 4)), vI (xs (i + 5))] M N C0) (kk : ∀ M1 N1 p1, JJ M1 N1 (C0 + 60) p1 → lqW κ p e s m below meth c bS 1400 (lsL κ s bS i) [] M1 N1 o cn sn) : lqW κ p e s m below meth c bS 883 (lsL κ s bS i) [] M N o cn sn := by
  obtain ⟨r, P, Q, hc, hm, hj⟩ := h
  refine lr_aload C 3 dL_law_883 rfl rfl ?_
  refine lr_arg (k := 1) C dL_law_884 dL_law_885 dL_law_887 dL_law_888 dL_law_889 (by decide) (Or.inl ⟨rfl, rfl⟩) (by omega) ?_
  refine lr_arg (k := 2) C dL_law_890 dL_law_891 dL_law_893 dL_law_894 dL_law_895 (by decide) (Or.inl ⟨rfl, rfl⟩) (by omega) ?_
  refine lr_arg (k := 3) C dL_law_896 dL_law_897 dL_law_899 dL_law_900 dL_law_901 (by decide) (Or.inl ⟨rfl, rfl⟩) (by omega) ?_
  refine lr_arg (k := 4) C dL_law_902 dL_law_903 dL_law_905 dL_law_906 dL_law_907 (by decide) (Or.inl ⟨rfl, rfl⟩) (by omega) ?_
  refine lr_arg (k := 5) C dL_law_908 dL_law_909 dL_law_911 dL_law_912 dL_law_913 (by decide) (Or.inl ⟨rfl, rfl⟩) (by omega) ?_
  refine lr_CI (av := [vI (xs (i + 1)), vI (xs (i + 2)), vI (xs (i + 3)), vI (xs (i + 4)), vI (xs (i + 5))]) (st := []) C hb dL_law_914 ml_L_112 rfl rfl rfl (by decide) (hc κ) (fun x M1 hx => ?_)
  obtain ⟨ex, hP⟩ := hx
  refine lr_aload C 2 dL_law_917 rfl rfl ?_
  refine lr_arg (k := 1) C dL_law_918 dL_law_919 dL_law_921 dL_law_922 dL_law_923 (by decide) (Or.inl ⟨rfl, rfl⟩) (by omega) ?_
  refine lr_arg (k := 2) C dL_law_924 dL_law_925 dL_law_927 dL_law_928 dL_law_929 (by decide) (Or.inl ⟨rfl, rfl⟩) (by omega) ?_
  refine lr_arg (k := 3) C dL_law_930 dL_law_931 dL_law_933 dL_law_934 dL_law_935 (by decide) (Or.inl ⟨rfl, rfl⟩) (by omega) ?_
  refine lr_arg (k := 4) C dL_law_936 dL_law_937 dL_law_939 dL_law_940 dL_law_941 (by decide) (Or.inl ⟨rfl, rfl⟩) (by omega) ?_
  refine lr_arg (k := 5) C dL_law_942 dL_law_943 dL_law_945 dL_law_946 dL_law_947 (by decide) (Or.inl ⟨rfl, rfl⟩) (by omega) ?_
  refine lr_MI (av := [vI (xs (i + 1)), vI (xs (i + 2)), vI (xs (i + 3)), vI (xs (i + 4)), vI (xs (i + 5))]) (st := [.int x]) C hb dL_law_948 ml_L_115 rfl rfl rfl (Nat.le_of_ble_eq_true rfl) (hm κ) (fun z N1 hz => ?_)
  obtain ⟨ez, hQ⟩ := hz
  refine lr_eq (tgt := 1400) C dL_law_951 (by decide) (ex.trans ez.symm) ?_
  obtain ⟨p1, hJ⟩ := hj M1 N1 hP hQ
  exact kk M1 N1 p1 hJ
theorem lc_rule {κ : eg_K} {p : Program} {e : Env} {s : State} {m : MethodId} {below : List Frame} {meth : Method} {c : Code} {bS Ls : Nat} {xs : Nat → Int32} {M N : eg_H} {o : Int64} {cn sn i C0 : Nat} (C : lwC κ p s m meth c bS Ls xs) (hb : cn ≤ 601024 ∧ sn ≤ 7293034) (hi : i + 6 ≤ Ls) (h : StI mtX10_rule mtX11_rule [vI (xs (i + 1)), vI (xs (i + 2)), vI (xs (i + 3)), vI (xs (i + 4)), vI (xs (i + 5))] M N C0) (kk : ∀ M1 N1 p1, JJ M1 N1 (C0 + 60) p1 → lqW κ p e s m below meth c bS 1400 (lsL κ s bS i) [] M1 N1 o cn sn) : lqW κ p e s m below meth c bS 956 (lsL κ s bS i) [] M N o cn sn := by
  obtain ⟨r, P, Q, hc, hm, hj⟩ := h
  refine lr_aload C 3 dL_law_956 rfl rfl ?_
  refine lr_arg (k := 1) C dL_law_957 dL_law_958 dL_law_960 dL_law_961 dL_law_962 (by decide) (Or.inl ⟨rfl, rfl⟩) (by omega) ?_
  refine lr_arg (k := 2) C dL_law_963 dL_law_964 dL_law_966 dL_law_967 dL_law_968 (by decide) (Or.inl ⟨rfl, rfl⟩) (by omega) ?_
  refine lr_arg (k := 3) C dL_law_969 dL_law_970 dL_law_972 dL_law_973 dL_law_974 (by decide) (Or.inl ⟨rfl, rfl⟩) (by omega) ?_
  refine lr_arg (k := 4) C dL_law_975 dL_law_976 dL_law_978 dL_law_979 dL_law_980 (by decide) (Or.inl ⟨rfl, rfl⟩) (by omega) ?_
  refine lr_arg (k := 5) C dL_law_981 dL_law_982 dL_law_984 dL_law_985 dL_law_986 (by decide) (Or.inl ⟨rfl, rfl⟩) (by omega) ?_
  refine lr_CI (av := [vI (xs (i + 1)), vI (xs (i + 2)), vI (xs (i + 3)), vI (xs (i + 4)), vI (xs (i + 5))]) (st := []) C hb dL_law_987 ml_L_116 rfl rfl rfl (by decide) (hc κ) (fun x M1 hx => ?_)
  obtain ⟨ex, hP⟩ := hx
  refine lr_aload C 2 dL_law_990 rfl rfl ?_
  refine lr_arg (k := 1) C dL_law_991 dL_law_992 dL_law_994 dL_law_995 dL_law_996 (by decide) (Or.inl ⟨rfl, rfl⟩) (by omega) ?_
  refine lr_arg (k := 2) C dL_law_997 dL_law_998 dL_law_1000 dL_law_1001 dL_law_1002 (by decide) (Or.inl ⟨rfl, rfl⟩) (by omega) ?_
  refine lr_arg (k := 3) C dL_law_1003 dL_law_1004 dL_law_1006 dL_law_1007 dL_law_1008 (by decide) (Or.inl ⟨rfl, rfl⟩) (by omega) ?_
  refine lr_arg (k := 4) C dL_law_1009 dL_law_1010 dL_law_1012 dL_law_1013 dL_law_1014 (by decide) (Or.inl ⟨rfl, rfl⟩) (by omega) ?_
  refine lr_arg (k := 5) C dL_law_1015 dL_law_1016 dL_law_1018 dL_law_1019 dL_law_1020 (by decide) (Or.inl ⟨rfl, rfl⟩) (by omega) ?_
  refine lr_MI (av := [vI (xs (i + 1)), vI (xs (i + 2)), vI (xs (i + 3)), vI (xs (i + 4)), vI (xs (i + 5))]) (st := [.int x]) C hb dL_law_1021 ml_L_119 rfl rfl rfl (Nat.le_of_ble_eq_true rfl) (hm κ) (fun z N1 hz => ?_)
  obtain ⟨ez, hQ⟩ := hz
  refine lr_eq (tgt := 1400) C dL_law_1024 (by decide) (ex.trans ez.symm) ?_
  obtain ⟨p1, hJ⟩ := hj M1 N1 hP hQ
  exact kk M1 N1 p1 hJ
theorem lc_bus {κ : eg_K} {p : Program} {e : Env} {s : State} {m : MethodId} {below : List Frame} {meth : Method} {c : Code} {bS Ls : Nat} {xs : Nat → Int32} {M N : eg_H} {o : Int64} {cn sn i C0 : Nat} (C : lwC κ p s m meth c bS Ls xs) (hb : cn ≤ 601024 ∧ sn ≤ 7293034) (hi : i + 6 ≤ Ls) (h : StI mtX10_bus mtX11_bus [vI (xs (i + 1)), vI (xs (i + 2)), vI (xs (i + 3)), vI (xs (i + 4))] M N C0) (kk : ∀ M1 N1 p1, JJ M1 N1 (C0 + 60) p1 → lqW κ p e s m below meth c bS 1400 (lsL κ s bS i) [] M1 N1 o cn sn) : lqW κ p e s m below meth c bS 1029 (lsL κ s bS i) [] M N o cn sn := by
  obtain ⟨r, P, Q, hc, hm, hj⟩ := h
  refine lr_aload C 3 dL_law_1029 rfl rfl ?_
  refine lr_arg (k := 1) C dL_law_1030 dL_law_1031 dL_law_1033 dL_law_1034 dL_law_1035 (by decide) (Or.inl ⟨rfl, rfl⟩) (by omega) ?_
  refine lr_arg (k := 2) C dL_law_1036 dL_law_1037 dL_law_1039 dL_law_1040 dL_law_1041 (by decide) (Or.inl ⟨rfl, rfl⟩) (by omega) ?_
  refine lr_arg (k := 3) C dL_law_1042 dL_law_1043 dL_law_1045 dL_law_1046 dL_law_1047 (by decide) (Or.inl ⟨rfl, rfl⟩) (by omega) ?_
  refine lr_arg (k := 4) C dL_law_1048 dL_law_1049 dL_law_1051 dL_law_1052 dL_law_1053 (by decide) (Or.inl ⟨rfl, rfl⟩) (by omega) ?_
  refine lr_CI (av := [vI (xs (i + 1)), vI (xs (i + 2)), vI (xs (i + 3)), vI (xs (i + 4))]) (st := []) C hb dL_law_1054 ml_L_120 rfl rfl rfl (by decide) (hc κ) (fun x M1 hx => ?_)
  obtain ⟨ex, hP⟩ := hx
  refine lr_aload C 2 dL_law_1057 rfl rfl ?_
  refine lr_arg (k := 1) C dL_law_1058 dL_law_1059 dL_law_1061 dL_law_1062 dL_law_1063 (by decide) (Or.inl ⟨rfl, rfl⟩) (by omega) ?_
  refine lr_arg (k := 2) C dL_law_1064 dL_law_1065 dL_law_1067 dL_law_1068 dL_law_1069 (by decide) (Or.inl ⟨rfl, rfl⟩) (by omega) ?_
  refine lr_arg (k := 3) C dL_law_1070 dL_law_1071 dL_law_1073 dL_law_1074 dL_law_1075 (by decide) (Or.inl ⟨rfl, rfl⟩) (by omega) ?_
  refine lr_arg (k := 4) C dL_law_1076 dL_law_1077 dL_law_1079 dL_law_1080 dL_law_1081 (by decide) (Or.inl ⟨rfl, rfl⟩) (by omega) ?_
  refine lr_MI (av := [vI (xs (i + 1)), vI (xs (i + 2)), vI (xs (i + 3)), vI (xs (i + 4))]) (st := [.int x]) C hb dL_law_1082 ml_L_124 rfl rfl rfl (Nat.le_of_ble_eq_true rfl) (hm κ) (fun z N1 hz => ?_)
  obtain ⟨ez, hQ⟩ := hz
  refine lr_eq (tgt := 1400) C dL_law_1085 (by decide) (ex.trans ez.symm) ?_
  obtain ⟨p1, hJ⟩ := hj M1 N1 hP hQ
  exact kk M1 N1 p1 hJ
theorem lc_chance {κ : eg_K} {p : Program} {e : Env} {s : State} {m : MethodId} {below : List Frame} {meth : Method} {c : Code} {bS Ls : Nat} {xs : Nat → Int32} {M N : eg_H} {o : Int64} {cn sn i C0 : Nat} (C : lwC κ p s m meth c bS Ls xs) (hb : cn ≤ 601024 ∧ sn ≤ 7293034) (hi : i + 6 ≤ Ls) (h : StI mtX10_chance mtX11_chance [vI (xs (i + 1)), vI (xs (i + 2)), vI (xs (i + 3)), vI (xs (i + 4))] M N C0) (kk : ∀ M1 N1 p1, JJ M1 N1 (C0 + 60) p1 → lqW κ p e s m below meth c bS 1400 (lsL κ s bS i) [] M1 N1 o cn sn) : lqW κ p e s m below meth c bS 1090 (lsL κ s bS i) [] M N o cn sn := by
  obtain ⟨r, P, Q, hc, hm, hj⟩ := h
  refine lr_aload C 3 dL_law_1090 rfl rfl ?_
  refine lr_arg (k := 1) C dL_law_1091 dL_law_1092 dL_law_1094 dL_law_1095 dL_law_1096 (by decide) (Or.inl ⟨rfl, rfl⟩) (by omega) ?_
  refine lr_arg (k := 2) C dL_law_1097 dL_law_1098 dL_law_1100 dL_law_1101 dL_law_1102 (by decide) (Or.inl ⟨rfl, rfl⟩) (by omega) ?_
  refine lr_arg (k := 3) C dL_law_1103 dL_law_1104 dL_law_1106 dL_law_1107 dL_law_1108 (by decide) (Or.inl ⟨rfl, rfl⟩) (by omega) ?_
  refine lr_arg (k := 4) C dL_law_1109 dL_law_1110 dL_law_1112 dL_law_1113 dL_law_1114 (by decide) (Or.inl ⟨rfl, rfl⟩) (by omega) ?_
  refine lr_CI (av := [vI (xs (i + 1)), vI (xs (i + 2)), vI (xs (i + 3)), vI (xs (i + 4))]) (st := []) C hb dL_law_1115 ml_L_125 rfl rfl rfl (by decide) (hc κ) (fun x M1 hx => ?_)
  obtain ⟨ex, hP⟩ := hx
  refine lr_aload C 2 dL_law_1118 rfl rfl ?_
  refine lr_arg (k := 1) C dL_law_1119 dL_law_1120 dL_law_1122 dL_law_1123 dL_law_1124 (by decide) (Or.inl ⟨rfl, rfl⟩) (by omega) ?_
  refine lr_arg (k := 2) C dL_law_1125 dL_law_1126 dL_law_1128 dL_law_1129 dL_law_1130 (by decide) (Or.inl ⟨rfl, rfl⟩) (by omega) ?_
  refine lr_arg (k := 3) C dL_law_1131 dL_law_1132 dL_law_1134 dL_law_1135 dL_law_1136 (by decide) (Or.inl ⟨rfl, rfl⟩) (by omega) ?_
  refine lr_arg (k := 4) C dL_law_1137 dL_law_1138 dL_law_1140 dL_law_1141 dL_law_1142 (by decide) (Or.inl ⟨rfl, rfl⟩) (by omega) ?_
  refine lr_MI (av := [vI (xs (i + 1)), vI (xs (i + 2)), vI (xs (i + 3)), vI (xs (i + 4))]) (st := [.int x]) C hb dL_law_1143 ml_L_128 rfl rfl rfl (Nat.le_of_ble_eq_true rfl) (hm κ) (fun z N1 hz => ?_)
  obtain ⟨ez, hQ⟩ := hz
  refine lr_eq (tgt := 1400) C dL_law_1146 (by decide) (ex.trans ez.symm) ?_
  obtain ⟨p1, hJ⟩ := hj M1 N1 hP hQ
  exact kk M1 N1 p1 hJ
theorem lc_law {κ : eg_K} {p : Program} {e : Env} {s : State} {m : MethodId} {below : List Frame} {meth : Method} {c : Code} {bS Ls : Nat} {xs : Nat → Int32} {M N : eg_H} {o : Int64} {cn sn i C0 : Nat} (C : lwC κ p s m meth c bS Ls xs) (hb : cn ≤ 601024 ∧ sn ≤ 7293034) (hi : i + 6 ≤ Ls) (h : StL mtX10_law mtX11_law [vI (xs (i + 1)), vI (xs (i + 2)), vI (xs (i + 3)), vI (xs (i + 4)), vI (xs (i + 5))] M N C0) (kk : ∀ M1 N1 p1, JJ M1 N1 (C0 + 60) p1 → lqW κ p e s m below meth c bS 1400 (lsL κ s bS i) [] M1 N1 o cn sn) : lqW κ p e s m below meth c bS 1151 (lsL κ s bS i) [] M N o cn sn := by
  obtain ⟨r, P, Q, hc, hm, hj⟩ := h
  refine lr_aload C 3 dL_law_1151 rfl rfl ?_
  refine lr_arg (k := 1) C dL_law_1152 dL_law_1153 dL_law_1155 dL_law_1156 dL_law_1157 (by decide) (Or.inl ⟨rfl, rfl⟩) (by omega) ?_
  refine lr_arg (k := 2) C dL_law_1158 dL_law_1159 dL_law_1161 dL_law_1162 dL_law_1163 (by decide) (Or.inl ⟨rfl, rfl⟩) (by omega) ?_
  refine lr_arg (k := 3) C dL_law_1164 dL_law_1165 dL_law_1167 dL_law_1168 dL_law_1169 (by decide) (Or.inl ⟨rfl, rfl⟩) (by omega) ?_
  refine lr_arg (k := 4) C dL_law_1170 dL_law_1171 dL_law_1173 dL_law_1174 dL_law_1175 (by decide) (Or.inl ⟨rfl, rfl⟩) (by omega) ?_
  refine lr_arg (k := 5) C dL_law_1176 dL_law_1177 dL_law_1179 dL_law_1180 dL_law_1181 (by decide) (Or.inl ⟨rfl, rfl⟩) (by omega) ?_
  refine lr_CL (av := [vI (xs (i + 1)), vI (xs (i + 2)), vI (xs (i + 3)), vI (xs (i + 4)), vI (xs (i + 5))]) (st := []) C hb dL_law_1182 ml_L_129 rfl rfl rfl (by decide) (hc κ) (fun x M1 hx => ?_)
  obtain ⟨ex, hP⟩ := hx
  refine lr_aload C 2 dL_law_1185 rfl rfl ?_
  refine lr_arg (k := 1) C dL_law_1186 dL_law_1187 dL_law_1189 dL_law_1190 dL_law_1191 (by decide) (Or.inl ⟨rfl, rfl⟩) (by omega) ?_
  refine lr_arg (k := 2) C dL_law_1192 dL_law_1193 dL_law_1195 dL_law_1196 dL_law_1197 (by decide) (Or.inl ⟨rfl, rfl⟩) (by omega) ?_
  refine lr_arg (k := 3) C dL_law_1198 dL_law_1199 dL_law_1201 dL_law_1202 dL_law_1203 (by decide) (Or.inl ⟨rfl, rfl⟩) (by omega) ?_
  refine lr_arg (k := 4) C dL_law_1204 dL_law_1205 dL_law_1207 dL_law_1208 dL_law_1209 (by decide) (Or.inl ⟨rfl, rfl⟩) (by omega) ?_
  refine lr_arg (k := 5) C dL_law_1210 dL_law_1211 dL_law_1213 dL_law_1214 dL_law_1215 (by decide) (Or.inl ⟨rfl, rfl⟩) (by omega) ?_
  refine lr_ML (av := [vI (xs (i + 1)), vI (xs (i + 2)), vI (xs (i + 3)), vI (xs (i + 4)), vI (xs (i + 5))]) (st := [.long x]) C hb dL_law_1216 ml_L_133 rfl rfl rfl (Nat.le_of_ble_eq_true rfl) (hm κ) (fun z N1 hz => ?_)
  obtain ⟨ez, hQ⟩ := hz
  refine lr_lcmp C dL_law_1219 (ex.trans ez.symm) ?_
  refine lr_if_eq (tgt := 1400) C dL_law_1220 (by decide) rfl ?_
  obtain ⟨p1, hJ⟩ := hj M1 N1 hP hQ
  exact kk M1 N1 p1 hJ
theorem lc_count {κ : eg_K} {p : Program} {e : Env} {s : State} {m : MethodId} {below : List Frame} {meth : Method} {c : Code} {bS Ls : Nat} {xs : Nat → Int32} {M N : eg_H} {o : Int64} {cn sn i C0 : Nat} (C : lwC κ p s m meth c bS Ls xs) (hb : cn ≤ 601024 ∧ sn ≤ 7293034) (hi : i + 6 ≤ Ls) (h : StI mtX10_count mtX11_count [vI (xs (i + 1)), vI (xs (i + 2)), vI (xs (i + 3)), vI (xs (i + 4))] M N C0) (kk : ∀ M1 N1 p1, JJ M1 N1 (C0 + 60) p1 → lqW κ p e s m below meth c bS 1400 (lsL κ s bS i) [] M1 N1 o cn sn) : lqW κ p e s m below meth c bS 1225 (lsL κ s bS i) [] M N o cn sn := by
  obtain ⟨r, P, Q, hc, hm, hj⟩ := h
  refine lr_aload C 3 dL_law_1225 rfl rfl ?_
  refine lr_arg (k := 1) C dL_law_1226 dL_law_1227 dL_law_1229 dL_law_1230 dL_law_1231 (by decide) (Or.inl ⟨rfl, rfl⟩) (by omega) ?_
  refine lr_arg (k := 2) C dL_law_1232 dL_law_1233 dL_law_1235 dL_law_1236 dL_law_1237 (by decide) (Or.inl ⟨rfl, rfl⟩) (by omega) ?_
  refine lr_arg (k := 3) C dL_law_1238 dL_law_1239 dL_law_1241 dL_law_1242 dL_law_1243 (by decide) (Or.inl ⟨rfl, rfl⟩) (by omega) ?_
  refine lr_arg (k := 4) C dL_law_1244 dL_law_1245 dL_law_1247 dL_law_1248 dL_law_1249 (by decide) (Or.inl ⟨rfl, rfl⟩) (by omega) ?_
  refine lr_CI (av := [vI (xs (i + 1)), vI (xs (i + 2)), vI (xs (i + 3)), vI (xs (i + 4))]) (st := []) C hb dL_law_1250 ml_L_134 rfl rfl rfl (by decide) (hc κ) (fun x M1 hx => ?_)
  obtain ⟨ex, hP⟩ := hx
  refine lr_aload C 2 dL_law_1253 rfl rfl ?_
  refine lr_arg (k := 1) C dL_law_1254 dL_law_1255 dL_law_1257 dL_law_1258 dL_law_1259 (by decide) (Or.inl ⟨rfl, rfl⟩) (by omega) ?_
  refine lr_arg (k := 2) C dL_law_1260 dL_law_1261 dL_law_1263 dL_law_1264 dL_law_1265 (by decide) (Or.inl ⟨rfl, rfl⟩) (by omega) ?_
  refine lr_arg (k := 3) C dL_law_1266 dL_law_1267 dL_law_1269 dL_law_1270 dL_law_1271 (by decide) (Or.inl ⟨rfl, rfl⟩) (by omega) ?_
  refine lr_arg (k := 4) C dL_law_1272 dL_law_1273 dL_law_1275 dL_law_1276 dL_law_1277 (by decide) (Or.inl ⟨rfl, rfl⟩) (by omega) ?_
  refine lr_MI (av := [vI (xs (i + 1)), vI (xs (i + 2)), vI (xs (i + 3)), vI (xs (i + 4))]) (st := [.int x]) C hb dL_law_1278 ml_L_137 rfl rfl rfl (Nat.le_of_ble_eq_true rfl) (hm κ) (fun z N1 hz => ?_)
  obtain ⟨ez, hQ⟩ := hz
  refine lr_eq (tgt := 1400) C dL_law_1281 (by decide) (ex.trans ez.symm) ?_
  obtain ⟨p1, hJ⟩ := hj M1 N1 hP hQ
  exact kk M1 N1 p1 hJ
theorem lc_strike {κ : eg_K} {p : Program} {e : Env} {s : State} {m : MethodId} {below : List Frame} {meth : Method} {c : Code} {bS Ls : Nat} {xs : Nat → Int32} {M N : eg_H} {o : Int64} {cn sn i C0 : Nat} (C : lwC κ p s m meth c bS Ls xs) (hb : cn ≤ 601024 ∧ sn ≤ 7293034) (hi : i + 6 ≤ Ls) (h : StI mtX10_strike mtX11_strike [vI (xs (i + 1))] M N C0) (kk : ∀ M1 N1 p1, JJ M1 N1 (C0 + 60) p1 → lqW κ p e s m below meth c bS 1400 (lsL κ s bS i) [] M1 N1 o cn sn) : lqW κ p e s m below meth c bS 1286 (lsL κ s bS i) [] M N o cn sn := by
  obtain ⟨r, P, Q, hc, hm, hj⟩ := h
  refine lr_aload C 3 dL_law_1286 rfl rfl ?_
  refine lr_arg (k := 1) C dL_law_1287 dL_law_1288 dL_law_1290 dL_law_1291 dL_law_1292 (by decide) (Or.inl ⟨rfl, rfl⟩) (by omega) ?_
  refine lr_CI (av := [vI (xs (i + 1))]) (st := []) C hb dL_law_1293 ml_L_138 rfl rfl rfl (by decide) (hc κ) (fun x M1 hx => ?_)
  obtain ⟨ex, hP⟩ := hx
  refine lr_aload C 2 dL_law_1296 rfl rfl ?_
  refine lr_arg (k := 1) C dL_law_1297 dL_law_1298 dL_law_1300 dL_law_1301 dL_law_1302 (by decide) (Or.inl ⟨rfl, rfl⟩) (by omega) ?_
  refine lr_MI (av := [vI (xs (i + 1))]) (st := [.int x]) C hb dL_law_1303 ml_L_141 rfl rfl rfl (Nat.le_of_ble_eq_true rfl) (hm κ) (fun z N1 hz => ?_)
  obtain ⟨ez, hQ⟩ := hz
  refine lr_eq (tgt := 1400) C dL_law_1306 (by decide) (ex.trans ez.symm) ?_
  obtain ⟨p1, hJ⟩ := hj M1 N1 hP hQ
  exact kk M1 N1 p1 hJ
theorem lc_known {κ : eg_K} {p : Program} {e : Env} {s : State} {m : MethodId} {below : List Frame} {meth : Method} {c : Code} {bS Ls : Nat} {xs : Nat → Int32} {M N : eg_H} {o : Int64} {cn sn i C0 : Nat} (C : lwC κ p s m meth c bS Ls xs) (hb : cn ≤ 601024 ∧ sn ≤ 7293034) (hi : i + 6 ≤ Ls) (h : StI mtX10_known mtX11_known [vI (xs (i + 1))] M N C0) (kk : ∀ M1 N1 p1, JJ M1 N1 (C0 + 60) p1 → lqW κ p e s m below meth c bS 1400 (lsL κ s bS i) [] M1 N1 o cn sn) : lqW κ p e s m below meth c bS 1311 (lsL κ s bS i) [] M N o cn sn := by
  obtain ⟨r, P, Q, hc, hm, hj⟩ := h
  refine lr_aload C 3 dL_law_1311 rfl rfl ?_
  refine lr_arg (k := 1) C dL_law_1312 dL_law_1313 dL_law_1315 dL_law_1316 dL_law_1317 (by decide) (Or.inl ⟨rfl, rfl⟩) (by omega) ?_
  refine lr_CI (av := [vI (xs (i + 1))]) (st := []) C hb dL_law_1318 ml_L_142 rfl rfl rfl (by decide) (hc κ) (fun x M1 hx => ?_)
  obtain ⟨ex, hP⟩ := hx
  refine lr_aload C 2 dL_law_1321 rfl rfl ?_
  refine lr_arg (k := 1) C dL_law_1322 dL_law_1323 dL_law_1325 dL_law_1326 dL_law_1327 (by decide) (Or.inl ⟨rfl, rfl⟩) (by omega) ?_
  refine lr_MI (av := [vI (xs (i + 1))]) (st := [.int x]) C hb dL_law_1328 ml_L_145 rfl rfl rfl (Nat.le_of_ble_eq_true rfl) (hm κ) (fun z N1 hz => ?_)
  obtain ⟨ez, hQ⟩ := hz
  refine lr_eq (tgt := 1400) C dL_law_1331 (by decide) (ex.trans ez.symm) ?_
  obtain ⟨p1, hJ⟩ := hj M1 N1 hP hQ
  exact kk M1 N1 p1 hJ
theorem lc_fits {κ : eg_K} {p : Program} {e : Env} {s : State} {m : MethodId} {below : List Frame} {meth : Method} {c : Code} {bS Ls : Nat} {xs : Nat → Int32} {M N : eg_H} {o : Int64} {cn sn i C0 : Nat} (C : lwC κ p s m meth c bS Ls xs) (hb : cn ≤ 601024 ∧ sn ≤ 7293034) (hi : i + 6 ≤ Ls) (h : StI mtX10_fits mtX11_fits [] M N C0) (kk : ∀ M1 N1 p1, JJ M1 N1 (C0 + 60) p1 → lqW κ p e s m below meth c bS 1400 (lsL κ s bS i) [] M1 N1 o cn sn) : lqW κ p e s m below meth c bS 1336 (lsL κ s bS i) [] M N o cn sn := by
  obtain ⟨r, P, Q, hc, hm, hj⟩ := h
  refine lr_aload C 3 dL_law_1336 rfl rfl ?_
  refine lr_CI (av := []) (st := []) C hb dL_law_1337 ml_L_146 rfl rfl rfl (by decide) (hc κ) (fun x M1 hx => ?_)
  obtain ⟨ex, hP⟩ := hx
  refine lr_aload C 2 dL_law_1340 rfl rfl ?_
  refine lr_MI (av := []) (st := [.int x]) C hb dL_law_1341 ml_L_149 rfl rfl rfl (Nat.le_of_ble_eq_true rfl) (hm κ) (fun z N1 hz => ?_)
  obtain ⟨ez, hQ⟩ := hz
  refine lr_eq (tgt := 1400) C dL_law_1344 (by decide) (ex.trans ez.symm) ?_
  obtain ⟨p1, hJ⟩ := hj M1 N1 hP hQ
  exact kk M1 N1 p1 hJ
theorem lc_keep {κ : eg_K} {p : Program} {e : Env} {s : State} {m : MethodId} {below : List Frame} {meth : Method} {c : Code} {bS Ls : Nat} {xs : Nat → Int32} {M N : eg_H} {o : Int64} {cn sn i C0 : Nat} (C : lwC κ p s m meth c bS Ls xs) (hb : cn ≤ 601024 ∧ sn ≤ 7293034) (hi : i + 6 ≤ Ls) (h : StI mtX10_keep mtX11_keep [] M N C0) (kk : ∀ M1 N1 p1, JJ M1 N1 (C0 + 60) p1 → lqW κ p e s m below meth c bS 1400 (lsL κ s bS i) [] M1 N1 o cn sn) : lqW κ p e s m below meth c bS 1349 (lsL κ s bS i) [] M N o cn sn := by
  obtain ⟨r, P, Q, hc, hm, hj⟩ := h
  refine lr_aload C 3 dL_law_1349 rfl rfl ?_
  refine lr_CI (av := []) (st := []) C hb dL_law_1350 ml_L_150 rfl rfl rfl (by decide) (hc κ) (fun x M1 hx => ?_)
  obtain ⟨ex, hP⟩ := hx
  refine lr_aload C 2 dL_law_1353 rfl rfl ?_
  refine lr_MI (av := []) (st := [.int x]) C hb dL_law_1354 ml_L_153 rfl rfl rfl (Nat.le_of_ble_eq_true rfl) (hm κ) (fun z N1 hz => ?_)
  obtain ⟨ez, hQ⟩ := hz
  refine lr_eq (tgt := 1400) C dL_law_1357 (by decide) (ex.trans ez.symm) ?_
  obtain ⟨p1, hJ⟩ := hj M1 N1 hP hQ
  exact kk M1 N1 p1 hJ
theorem lc_back {κ : eg_K} {p : Program} {e : Env} {s : State} {m : MethodId} {below : List Frame} {meth : Method} {c : Code} {bS Ls : Nat} {xs : Nat → Int32} {M N : eg_H} {o : Int64} {cn sn i C0 : Nat} (C : lwC κ p s m meth c bS Ls xs) (hb : cn ≤ 601024 ∧ sn ≤ 7293034) (hi : i + 6 ≤ Ls) (h : StI mtX10_back mtX11_back [] M N C0) (kk : ∀ M1 N1 p1, JJ M1 N1 (C0 + 60) p1 → lqW κ p e s m below meth c bS 1400 (lsL κ s bS i) [] M1 N1 o cn sn) : lqW κ p e s m below meth c bS 1362 (lsL κ s bS i) [] M N o cn sn := by
  obtain ⟨r, P, Q, hc, hm, hj⟩ := h
  refine lr_aload C 3 dL_law_1362 rfl rfl ?_
  refine lr_CI (av := []) (st := []) C hb dL_law_1363 ml_L_154 rfl rfl rfl (by decide) (hc κ) (fun x M1 hx => ?_)
  obtain ⟨ex, hP⟩ := hx
  refine lr_aload C 2 dL_law_1366 rfl rfl ?_
  refine lr_MI (av := []) (st := [.int x]) C hb dL_law_1367 ml_L_157 rfl rfl rfl (Nat.le_of_ble_eq_true rfl) (hm κ) (fun z N1 hz => ?_)
  obtain ⟨ez, hQ⟩ := hz
  refine lr_eq (tgt := 1400) C dL_law_1370 (by decide) (ex.trans ez.symm) ?_
  obtain ⟨p1, hJ⟩ := hj M1 N1 hP hQ
  exact kk M1 N1 p1 hJ
theorem lc_all {κ : eg_K} {p : Program} {e : Env} {s : State} {m : MethodId} {below : List Frame} {meth : Method} {c : Code} {bS Ls : Nat} {xs : Nat → Int32} {M N : eg_H} {o : Int64} {cn sn i C0 : Nat} (C : lwC κ p s m meth c bS Ls xs) (hb : cn ≤ 601024 ∧ sn ≤ 7293034) (hi : i + 6 ≤ Ls) (h : StI mtX10_all mtX11_all [vI (xs (i + 1))] M N C0) (kk : ∀ M1 N1 p1, JJ M1 N1 (C0 + 60) p1 → lqW κ p e s m below meth c bS 1400 (lsL κ s bS i) [] M1 N1 o cn sn) : lqW κ p e s m below meth c bS 1375 (lsL κ s bS i) [] M N o cn sn := by
  obtain ⟨r, P, Q, hc, hm, hj⟩ := h
  refine lr_aload C 3 dL_law_1375 rfl rfl ?_
  refine lr_arg (k := 1) C dL_law_1376 dL_law_1377 dL_law_1379 dL_law_1380 dL_law_1381 (by decide) (Or.inl ⟨rfl, rfl⟩) (by omega) ?_
  refine lr_CI (av := [vI (xs (i + 1))]) (st := []) C hb dL_law_1382 ml_L_158 rfl rfl rfl (by decide) (hc κ) (fun x M1 hx => ?_)
  obtain ⟨ex, hP⟩ := hx
  refine lr_aload C 2 dL_law_1385 rfl rfl ?_
  refine lr_arg (k := 1) C dL_law_1386 dL_law_1387 dL_law_1389 dL_law_1390 dL_law_1391 (by decide) (Or.inl ⟨rfl, rfl⟩) (by omega) ?_
  refine lr_MI (av := [vI (xs (i + 1))]) (st := [.int x]) C hb dL_law_1392 ml_L_161 rfl rfl rfl (Nat.le_of_ble_eq_true rfl) (hm κ) (fun z N1 hz => ?_)
  obtain ⟨ez, hQ⟩ := hz
  refine lr_eq (tgt := 1400) C dL_law_1395 (by decide) (ex.trans ez.symm) ?_
  obtain ⟨p1, hJ⟩ := hj M1 N1 hP hQ
  exact kk M1 N1 p1 hJ
