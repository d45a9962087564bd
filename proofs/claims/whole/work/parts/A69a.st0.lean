/-! THE LAW AT ITS ENTRY -/
theorem lt_1 {w : Cond} {i : Nat} (h : tables_1_1[i]? = some w) : w ∈ lw_tbl := List.mem_append_right _ (List.mem_append_left _ (List.mem_of_getElem? h))
theorem lt_2 {w : Cond} {i : Nat} (h : tables_1_2[i]? = some w) : w ∈ lw_tbl := List.mem_append_right _ (List.mem_append_right _ (List.mem_append_left _ (List.mem_of_getElem? h)))
theorem lt_3 {w : Cond} {i : Nat} (h : tables_1_3[i]? = some w) : w ∈ lw_tbl := List.mem_append_right _ (List.mem_append_right _ (List.mem_append_right _ (List.mem_append_left _ (List.mem_of_getElem? h))))
theorem lt_4 {w : Cond} {i : Nat} (h : tables_1_4[i]? = some w) : w ∈ lw_tbl := List.mem_append_right _ (List.mem_append_right _ (List.mem_append_right _ (List.mem_append_right _ (List.mem_append_left _ (List.mem_of_getElem? h)))))
theorem lt_5 {w : Cond} {i : Nat} (h : tables_1_5[i]? = some w) : w ∈ lw_tbl := List.mem_append_right _ (List.mem_append_right _ (List.mem_append_right _ (List.mem_append_right _ (List.mem_append_right _ (List.mem_append_left _ (List.mem_of_getElem? h))))))
theorem lt_6 {w : Cond} {i : Nat} (h : tables_1_6[i]? = some w) : w ∈ lw_tbl := List.mem_append_right _ (List.mem_append_right _ (List.mem_append_right _ (List.mem_append_right _ (List.mem_append_right _ (List.mem_append_right _ (List.mem_append_left _ (List.mem_of_getElem? h)))))))
theorem lt_7 {w : Cond} {i : Nat} (h : tables_1_7[i]? = some w) : w ∈ lw_tbl := List.mem_append_right _ (List.mem_append_right _ (List.mem_append_right _ (List.mem_append_right _ (List.mem_append_right _ (List.mem_append_right _ (List.mem_append_right _ (List.mem_append_left _ (List.mem_of_getElem? h))))))))
theorem lt_8 {w : Cond} {i : Nat} (h : tables_1_8[i]? = some w) : w ∈ lw_tbl := List.mem_append_right _ (List.mem_append_right _ (List.mem_append_right _ (List.mem_append_right _ (List.mem_append_right _ (List.mem_append_right _ (List.mem_append_right _ (List.mem_append_right _ (List.mem_append_left _ (List.mem_of_getElem? h)))))))))
theorem lt_9 {w : Cond} {i : Nat} (h : tables_1_9[i]? = some w) : w ∈ lw_tbl := List.mem_append_right _ (List.mem_append_right _ (List.mem_append_right _ (List.mem_append_right _ (List.mem_append_right _ (List.mem_append_right _ (List.mem_append_right _ (List.mem_append_right _ (List.mem_append_right _ (List.mem_of_getElem? h)))))))))
theorem s0_in (ci : Nat) (h : ci < 12) : Cond.instantiable (eg_tb ci).1 (eg_nf ci) ∈ eg_T := eg_12 (P := fun ci => Cond.instantiable (eg_tb ci).1 (eg_nf ci) ∈ eg_T) (eg_t1 (i := 210) (by decide +kernel) rfl) (eg_t1 (i := 163) (by decide +kernel) rfl) (eg_t2 (i := 165) (by decide +kernel) rfl) (eg_t1 (i := 133) (by decide +kernel) rfl) (eg_t2 (i := 124) (by decide +kernel) rfl) (eg_t1 (i := 123) (by decide +kernel) rfl) (eg_t1 (i := 33) (by decide +kernel) rfl) (eg_t2 (i := 115) (by decide +kernel) rfl) (eg_t2 (i := 72) (by decide +kernel) rfl) (eg_t1 (i := 35) (by decide +kernel) rfl) (eg_t1 (i := 25) (by decide +kernel) rfl) (eg_t6 (i := 33) (by decide +kernel) rfl) ci h
theorem s0_cls {s : State} {a : Array Value} (hts : ∀ w ∈ lw_tbl, w.before a s = true) : ∃ (dC : Nat → ClassId) (dI : Nat → Nat → Nat), ∀ (c : Nat) (q : vw_C), vwCl[c]? = some q → u_Kn s q.1 q.2.1 q.2.2 (dC c) (dI c) := by
  have ht : ∀ w ∈ eg_T, w.before a s = true := fun w hw => hts w (List.mem_filter.mp hw).1
  have h1 : ∀ ci : Nat, ci < 12 → ∃ q : ClassId × (Nat → Nat), u_Kn s (eg_tb ci).1 (eg_tb ci).2 (eg_nf ci) q.1 q.2 := fun ci h => by
    obtain ⟨cC, iS, hk⟩ := u_known ht (eg_uin ci h) (ht _ (s0_in ci h))
    exact ⟨(cC, iS), hk⟩
  have h0 : ∀ ci : Nat, ∃ q : ClassId × (Nat → Nat), ci < 12 → u_Kn s (eg_tb ci).1 (eg_tb ci).2 (eg_nf ci) q.1 q.2 := fun ci => by
    by_cases h : ci < 12
    · obtain ⟨q, hq⟩ := h1 ci h
      exact ⟨q, fun _ => hq⟩
    · obtain ⟨q, hq⟩ := h1 0 (by decide)
      exact ⟨q, fun z => absurd z h⟩
  obtain ⟨f, hf⟩ := Classical.axiomOfChoice h0
  refine ⟨fun c => (f c).1, fun c => (f c).2, fun c q hq => ?_⟩
  have hc : c < 12 := (List.getElem?_eq_some_iff.mp hq).1
  rw [eg_cl c hc] at hq
  cases hq
  exact hf c hc
theorem s0_a1 {s : State} {a : Array Value} {ty : FieldType} (h : (Cond.arrayClass ty).before a s = true) (hobj : ∀ C, ty ≠ .object C) : ∃ c : ClassId, ArrOfT s c ty ∧ va_RA s c ty := by
  obtain ⟨c, k, comp, h1, h2, h3⟩ := Cond.arrayClass_spec h
  refine ⟨c, fun n z => ⟨fun k h => (by cases h), k, h2, comp, h3⟩, ?_⟩
  cases ty with
  | object C => exact absurd rfl (hobj C)
  | _ => exact h1
theorem s0_a2 {s : State} {a : Array Value} {C : String} (h : (Cond.arrayOver (.object C)).before a s = true) : ∃ c : ClassId, ArrOfT s c (.object C) ∧ va_RA s c (.object C) := by
  obtain ⟨comp, c, k, h1, -, h2, h3, h4⟩ := Cond.arrayOver_spec h
  exact ⟨c, fun n z => ⟨fun k h => (by cases h), k, h2, comp, h3⟩, k, comp, h2, h3, h1, h4⟩
def s0_f (c0 c1 c2 c3 c4 c5 c6 c7 : ClassId) : Nat → ClassId
  | 0 => c0 | 1 => c1 | 2 => c2 | 3 => c3 | 4 => c4 | 5 => c5 | 6 => c6 | _ => c7
theorem s0_arr {s : State} {a : Array Value} (hts : ∀ w ∈ lw_tbl, w.before a s = true) : ∃ dA : Nat → ClassId, ∀ (t : Nat) (q : ClassId × FieldType), ([(dA 0, .int), (dA 1, .byte), (dA 2, .boolean), (dA 3, .long), (dA 4, .object RX1), (dA 5, .object RX0), (dA 6, .object RX4), (dA 7, .object RX2)] : List (ClassId × FieldType))[t]? = some q → ArrOfT s q.1 q.2 ∧ va_RA s q.1 q.2 := by
  obtain ⟨c0, h0⟩ := s0_a1 (hts (.arrayClass .int) (lt_1 (i := 121) (by decide +kernel))) (fun C z => by cases z)
  obtain ⟨c1, h1⟩ := s0_a1 (hts (.arrayClass .byte) (lt_1 (i := 67) (by decide +kernel))) (fun C z => by cases z)
  obtain ⟨c2, h2⟩ := s0_a1 (hts (.arrayClass .boolean) (lt_2 (i := 101) (by decide +kernel))) (fun C z => by cases z)
  obtain ⟨c3, h3⟩ := s0_a1 (hts (.arrayClass .long) (lt_1 (i := 162) (by decide +kernel))) (fun C z => by cases z)
  obtain ⟨c4, h4⟩ := s0_a2 (hts (.arrayOver (.object RX1)) (lt_1 (i := 129) (by decide +kernel)))
  obtain ⟨c5, h5⟩ := s0_a2 (hts (.arrayOver (.object RX0)) (lt_1 (i := 131) (by decide +kernel)))
  obtain ⟨c6, h6⟩ := s0_a2 (hts (.arrayOver (.object RX4)) (lt_2 (i := 121) (by decide +kernel)))
  obtain ⟨c7, h7⟩ := s0_a2 (hts (.arrayOver (.object RX2)) (lt_2 (i := 123) (by decide +kernel)))
  refine ⟨s0_f c0 c1 c2 c3 c4 c5 c6 c7, fun t q hq => ?_⟩
  match t, hq with
  | 0, hq => cases hq; exact h0
  | 1, hq => cases hq; exact h1
  | 2, hq => cases hq; exact h2
  | 3, hq => cases hq; exact h3
  | 4, hq => cases hq; exact h4
  | 5, hq => cases hq; exact h5
  | 6, hq => cases hq; exact h6
  | 7, hq => cases hq; exact h7
  | t + 8, hq => exact absurd (List.getElem?_eq_some_iff.mp hq).1 (Nat.not_lt.mpr (Nat.le_add_left 8 t))
theorem s0_cn {s : State} {a : Array Value} (hts : ∀ w ∈ lw_tbl, w.before a s = true) : cnK s := by
  refine ⟨fun q hq => ?_, fun q hq => ?_⟩
  · simp only [cnM, List.mem_cons, List.not_mem_nil, or_false] at hq
    rcases hq with rfl | rfl | rfl | rfl | rfl | rfl
    · exact va_Nw.of rfl (hts _ (lt_1 (i := 134) (by decide +kernel)))
    · exact va_Nw.of rfl (hts _ (lt_1 (i := 164) (by decide +kernel)))
    · exact va_Nw.of rfl (hts _ (lt_1 (i := 211) (by decide +kernel)))
    · exact va_Nw.of rfl (hts _ (lt_2 (i := 73) (by decide +kernel)))
    · exact va_Nw.of rfl (hts _ (lt_2 (i := 125) (by decide +kernel)))
    · exact va_Nw.of rfl (hts _ (lt_2 (i := 166) (by decide +kernel)))
  · simp only [cnA, List.mem_cons, List.not_mem_nil, or_false] at hq
    rcases hq with rfl | rfl | rfl | rfl
    · exact va_AO.of (hts _ (lt_1 (i := 129) (by decide +kernel)))
    · exact va_AO.of (hts _ (lt_1 (i := 131) (by decide +kernel)))
    · exact va_AO.of (hts _ (lt_2 (i := 121) (by decide +kernel)))
    · exact va_AO.of (hts _ (lt_2 (i := 123) (by decide +kernel)))
