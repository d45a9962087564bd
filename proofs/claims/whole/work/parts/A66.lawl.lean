/-! THE LAW'S LOOP -/
theorem lr_sub {κ : eg_K} {p : Program} {e : Env} {s : State} {m : MethodId} {below : List Frame} {meth : Method} {c : Code} {bS pc : Nat} {ls ls1 : List (Nat × Value)} {st : List Value} {M N : eg_H} {o : Int64} {cn sn : Nat} (ks : List Nat) (h : lv_pick ls ks = ls1) (k : lqW κ p e s m below meth c bS pc ls1 st M N o cn sn) : lqW κ p e s m below meth c bS pc ls st M N o cn sn := by
  intro H locs la hl hH hS
  exact k H locs la (lv_sub hl ks h) hH hS
theorem lr_wid {κ : eg_K} {p : Program} {e : Env} {s : State} {m : MethodId} {below : List Frame} {meth : Method} {c : Code} {bS pc : Nat} {ls : List (Nat × Value)} {st : List Value} {M N : eg_H} {o : Int64} {cn sn cn1 sn1 : Nat} (h1 : cn ≤ cn1) (h2 : sn ≤ sn1) (k : lqW κ p e s m below meth c bS pc ls st M N o cn1 sn1) : lqW κ p e s m below meth c bS pc ls st M N o cn sn := by
  intro H locs la hl hH hS
  exact W.widen h1 h2 (k H locs la hl hH hS)
theorem lg_neg {L i : Nat} (h : L < 6) (hi : i < 2147483648) : nI L - 6 < nI i := by
  have a : (nI L - 6).toInt < 0 := by
    have : L = 0 ∨ L = 1 ∨ L = 2 ∨ L = 3 ∨ L = 4 ∨ L = 5 := by omega
    rcases this with z | z | z | z | z | z <;> rw [z] <;> decide
  rw [t_lt, nI_toInt hi]
  omega
section LWL
variable {κ : eg_K} {p : Program} {e : Env} {s : State} {m : MethodId} {below : List Frame} {meth : Method} {c : Code} {bS Ls : Nat} {xs : Nat → Int32} {M N : eg_H} {o : Int64} {cn sn i : Nat}
theorem lw_tail (C : lwC κ p s m meth c bS Ls xs) (kk : lqW κ p e s m below meth c bS 23 (lsL κ s bS (i + 6)) [] M N o cn sn) : lqW κ p e s m below meth c bS 1400 (lsL κ s bS i) [] M N o cn sn := by
  intro H locs la hl hH hS
  refine lv_iinc (k := 0) C.1.1 C.1.2.1 dL_law_1400 hl rfl (v := nI (i + 6)) (by rw [show Int32.ofInt 6 = nI 6 from rfl, nI_ad]) (by decide) rfl (fun la1 hl1 => ?_)
  exact lv_goto (tgt := 23) C.1.1 C.1.2.1 dL_law_1403 (by decide) (kk H locs la1 hl1 hH hS)
theorem lw_head (C : lwC κ p s m meth c bS Ls xs) (hi : i ≤ 6000) (kt : Ls < i + 6 → lqW κ p e s m below meth c bS 1406 (lsL κ s bS i) [] M N o cn sn) (kf : i + 6 ≤ Ls → lqW κ p e s m below meth c bS 33 (lsL κ s bS i) [] M N o cn sn) : lqW κ p e s m below meth c bS 23 (lsL κ s bS i) [] M N o cn sn := by
  intro H locs la hl hH hS
  have hL := C.2.1.2.2
  refine lv_iload C.1.1 C.1.2.1 dL_law_23 (lv_at hl 0 rfl) ?_
  refine lv_aload_n C.1.1 C.1.2.1 dL_law_25 rfl (lv_at hl 4 rfl) ?_
  refine va_slen C.1.1 C.1.2.1 C.2.1.1 C.2.1.2.1 (fun z => absurd C.2.1.2.1 (Nat.not_lt.mpr z)) hS dL_law_26 ?_
  refine lv_bipush (v := 6) C.1.1 C.1.2.1 dL_law_27 (by decide) ?_
  refine lv_isub C.1.1 C.1.2.1 dL_law_29 ?_
  refine lv_icmp_gt (tgt := 1406) C.1.1 C.1.2.1 dL_law_30 (by decide) (fun h => kt ?_ H locs la hl hH hS) (fun h => kf ?_ H locs la hl hH hS)
  · by_cases c6 : Ls < 6
    · omega
    · have h1 : nI Ls - nI 6 < nI i := h
      rw [nI_subn (by omega) (by omega)] at h1
      have := (nI_lt' (by omega) (by omega)).mp h1
      omega
  · by_cases c6 : Ls < 6
    · exact absurd (lg_neg c6 (by omega)) h
    · have h1 : ¬ nI Ls - nI 6 < nI i := h
      rw [nI_subn (by omega) (by omega)] at h1
      have : ¬ (Ls - 6 < i) := fun z => h1 ((nI_lt' (by omega) (by omega)).mpr z)
      omega
theorem lw_end (C : lwC κ p s m meth c bS Ls xs) (h1 : cn ≤ 601024) (h2 : sn ≤ 7293034) : lqW κ p e s m below meth c bS 1406 (lsL κ s bS i) [] M N o cn sn := by
  intro H locs la hl hH hS
  refine va_forget (fun q hq => hS.2.2 q hq) ?_
  refine lv_iconst (v := 1) C.1.1 C.1.2.1 dL_law_1406 (by decide) ?_
  refine W.widen h1 h2 ?_
  exact lw_ret C.1.1 C.1.2.1 C.1.2.2.1 C.1.2.2.2.2.2.2 dL_law_1407
/-- the case of look -/
def LkC (κ : eg_K) (p : Program) (e : Env) (s : State) (m : MethodId) (below : List Frame) (meth : Method) (c : Code) (bS Ls : Nat) : Prop := ∀ (M N : eg_H) (o : Int64) (cn sn i C0 p1 : Nat), cn + 1 ≤ 601024 → sn + 6 ≤ 7293034 → i + 6 ≤ Ls → JJ M N C0 p1 → (∀ (M1 N1 : eg_H) (o1 : Int64) (p2 : Nat), JJ M1 N1 (C0 + 60) p2 → lqW κ p e s m below meth c bS 1400 (lsL κ s bS i) [] M1 N1 o1 (cn + 1) (sn + 6)) → lqW κ p e s m below meth c bS 344 (lsL κ s bS i) [] M N o cn sn
theorem lw_sw {j tgt : Nat} {off : Int} (C : lwC κ p s m meth c bS Ls xs) (hi : i + 6 ≤ Ls) (ej : xs i &&& 31 = nI j) (h1 : ¬ (nI j).toInt < 0) (h2 : ¬ 31 < (nI j).toInt) (ho : (#[144, 217, 242, 267, 304, 372, 409, 434, 459, 484, 509, 546, 571, 584, 609, 646, 695, 732, 769, 818, 843, 916, 989, 1050, 1111, 1185, 1246, 1271, 1296, 1309, 1322, 1335] : Array Int)[((nI j).toInt - 0).toNat]? = some off) (ht : (40 : Int) + off = (tgt : Int)) (kk : lqW κ p e s m below meth c bS tgt (lsL κ s bS i) [] M N o cn sn) : lqW κ p e s m below meth c bS 33 (lsL κ s bS i) [] M N o cn sn := by
  intro H locs la hl hH hS
  have hL := C.2.1.2.2
  refine lv_aload_n C.1.1 C.1.2.1 dL_law_33 rfl (lv_at hl 4 rfl) ?_
  refine lv_iload C.1.1 C.1.2.1 dL_law_34 (lv_at hl 0 rfl) ?_
  refine va_sld C.1.1 C.1.2.1 C.2.1.1 C.2.1.2.1 (fun z => absurd C.2.1.2.1 (Nat.not_lt.mpr z)) hS (nI_in' (n := i) (by omega) (by omega)) dL_law_36 ?_
  rw [nI_t (by omega)]
  refine lv_bipush (v := 31) C.1.1 C.1.2.1 dL_law_37 (by decide) ?_
  refine lv_iand C.1.1 C.1.2.1 dL_law_39 ?_
  rw [ej]
  exact lv_tableIn C.1.1 C.1.2.1 dL_law_40 h1 h2 ho ht (kk H locs la hl hH hS)
theorem lw_iter (C : lwC κ p s m meth c bS Ls xs) (hk : LkC κ p e s m below meth c bS Ls) {C0 p1 : Nat} (hb : cn + 1 ≤ 601024 ∧ sn + 6 ≤ 7293034) (hi : i + 6 ≤ Ls) (hC : C0 < 900000) (hC2 : 119 ≤ C0) (hJ : JJ M N C0 p1) (kk : ∀ (M1 N1 : eg_H) (o1 : Int64) (p2 : Nat), JJ M1 N1 (C0 + 60) p2 → lqW κ p e s m below meth c bS 1400 (lsL κ s bS i) [] M1 N1 o1 (cn + 1) (sn + 6)) : lqW κ p e s m below meth c bS 33 (lsL κ s bS i) [] M N o cn sn := by
  have kw : ∀ (M1 N1 : eg_H) (p2 : Nat), JJ M1 N1 (C0 + 60) p2 → lqW κ p e s m below meth c bS 1400 (lsL κ s bS i) [] M1 N1 o cn sn := fun M1 N1 p2 h => lr_wid (by omega) (by omega) (kk M1 N1 o p2 h)
  have hb1 : cn ≤ 601024 ∧ sn ≤ 7293034 := ⟨by omega, by omega⟩
  obtain ⟨j, hj, ej⟩ := pk_andE (xs i) 5 (m := 31) (by decide)
  have hj32 : j = 0 ∨ j = 1 ∨ j = 2 ∨ j = 3 ∨ j = 4 ∨ j = 5 ∨ j = 6 ∨ j = 7 ∨ j = 8 ∨ j = 9 ∨ j = 10 ∨ j = 11 ∨ j = 12 ∨ j = 13 ∨ j = 14 ∨ j = 15 ∨ j = 16 ∨ j = 17 ∨ j = 18 ∨ j = 19 ∨ j = 20 ∨ j = 21 ∨ j = 22 ∨ j = 23 ∨ j = 24 ∨ j = 25 ∨ j = 26 ∨ j = 27 ∨ j = 28 ∨ j = 29 ∨ j = 30 ∨ j = 31 := by omega
  rcases hj32 with z | z | z | z | z | z | z | z | z | z | z | z | z | z | z | z | z | z | z | z | z | z | z | z | z | z | z | z | z | z | z | z
  · subst z
    exact lw_sw (tgt := 184) C hi ej (by decide) (by decide) rfl (by decide) (lc_feed C hb1 hi (st_feed hJ (xs (i + 1)) (xs (i + 2)) (xs (i + 3)) (xs (i + 4)) (xs (i + 5))) kw)
  · subst z
    exact lw_sw (tgt := 257) C hi ej (by decide) (by decide) rfl (by decide) (lc_text C hb1 hi (st_text hJ (xs (i + 1))) kw)
  · subst z
    exact lw_sw (tgt := 282) C hi ej (by decide) (by decide) rfl (by decide) (lc_fault C hb1 hi (st_fault hJ (xs (i + 1))) kw)
  · subst z
    exact lw_sw (tgt := 307) C hi ej (by decide) (by decide) rfl (by decide) (lc_named C hb1 hi (st_named hJ (xs (i + 1)) (xs (i + 2))) kw)
  · subst z
    exact lw_sw (tgt := 344) C hi ej (by decide) (by decide) rfl (by decide) (hk M N o cn sn i C0 p1 hb.1 hb.2 hi hJ kk)
  · subst z
    exact lw_sw (tgt := 412) C hi ej (by decide) (by decide) rfl (by decide) (lc_station C hb1 hi (st_station hJ (xs (i + 1)) (xs (i + 2))) kw)
  · subst z
    exact lw_sw (tgt := 449) C hi ej (by decide) (by decide) rfl (by decide) (lc_row C hb1 hi (st_row hJ (xs (i + 1))) kw)
  · subst z
    exact lw_sw (tgt := 474) C hi ej (by decide) (by decide) rfl (by decide) (lc_line C hb1 hi (st_line hJ (xs (i + 1))) kw)
  · subst z
    exact lw_sw (tgt := 499) C hi ej (by decide) (by decide) rfl (by decide) (lc_seconds C hb1 hi (st_seconds hJ (by omega) (by omega) (xs (i + 1))) kw)
  · subst z
    exact lw_sw (tgt := 524) C hi ej (by decide) (by decide) rfl (by decide) (lc_put C hb1 hi (st_put hJ (by omega) (xs (i + 1))) kw)
  · subst z
    exact lw_sw (tgt := 549) C hi ej (by decide) (by decide) rfl (by decide) (lc_change C hb1 hi (st_change hJ (by omega) (xs (i + 1)) (xs (i + 2))) kw)
  · subst z
    exact lw_sw (tgt := 586) C hi ej (by decide) (by decide) rfl (by decide) (lc_send C hb1 hi (st_send hJ (by omega) (xs (i + 1))) kw)
  · subst z
    exact lw_sw (tgt := 611) C hi ej (by decide) (by decide) rfl (by decide) (lc_undo C hb1 hi (st_undo hJ (by omega)) kw)
  · subst z
    exact lw_sw (tgt := 624) C hi ej (by decide) (by decide) rfl (by decide) (lc_waited C hb1 hi (st_waited hJ (xs (i + 1))) kw)
  · subst z
    exact lw_sw (tgt := 649) C hi ej (by decide) (by decide) rfl (by decide) (lc_slow C hb1 hi (st_slow hJ (xs (i + 1)) (xs (i + 2))) kw)
  · subst z
    exact lw_sw (tgt := 686) C hi ej (by decide) (by decide) rfl (by decide) (lc_many C hb1 hi (st_many hJ (xs (i + 1)) (xs (i + 2)) (xs (i + 3))) kw)
  · subst z
    exact lw_sw (tgt := 735) C hi ej (by decide) (by decide) rfl (by decide) (lc_best C hb1 hi (st_best hJ (xs (i + 1)) (xs (i + 2))) kw)
  · subst z
    exact lw_sw (tgt := 772) C hi ej (by decide) (by decide) rfl (by decide) (lc_seen C hb1 hi (st_seen hJ (xs (i + 1)) (xs (i + 2))) kw)
  · subst z
    exact lw_sw (tgt := 809) C hi ej (by decide) (by decide) rfl (by decide) (lc_plates C hb1 hi (st_plates hJ (xs (i + 1)) (xs (i + 2)) (xs (i + 3))) kw)
  · subst z
    exact lw_sw (tgt := 858) C hi ej (by decide) (by decide) rfl (by decide) (lc_worth C hb1 hi (st_worth hJ (xs (i + 1))) kw)
  · subst z
    exact lw_sw (tgt := 883) C hi ej (by decide) (by decide) rfl (by decide) (lc_fill C hb1 hi (st_fill hJ (xs (i + 1)) (xs (i + 2)) (xs (i + 3)) (xs (i + 4)) (xs (i + 5))) kw)
  · subst z
    exact lw_sw (tgt := 956) C hi ej (by decide) (by decide) rfl (by decide) (lc_rule C hb1 hi (st_rule hJ (xs (i + 1)) (xs (i + 2)) (xs (i + 3)) (xs (i + 4)) (xs (i + 5))) kw)
  · subst z
    exact lw_sw (tgt := 1029) C hi ej (by decide) (by decide) rfl (by decide) (lc_bus C hb1 hi (st_bus hJ (xs (i + 1)) (xs (i + 2)) (xs (i + 3)) (xs (i + 4))) kw)
  · subst z
    exact lw_sw (tgt := 1090) C hi ej (by decide) (by decide) rfl (by decide) (lc_chance C hb1 hi (st_chance hJ (xs (i + 1)) (xs (i + 2)) (xs (i + 3)) (xs (i + 4))) kw)
  · subst z
    exact lw_sw (tgt := 1151) C hi ej (by decide) (by decide) rfl (by decide) (lc_law C hb1 hi (st_law hJ (xs (i + 1)) (xs (i + 2)) (xs (i + 3)) (xs (i + 4)) (xs (i + 5))) kw)
  · subst z
    exact lw_sw (tgt := 1225) C hi ej (by decide) (by decide) rfl (by decide) (lc_count C hb1 hi (st_count hJ (xs (i + 1)) (xs (i + 2)) (xs (i + 3)) (xs (i + 4))) kw)
  · subst z
    exact lw_sw (tgt := 1286) C hi ej (by decide) (by decide) rfl (by decide) (lc_strike C hb1 hi (st_strike hJ (xs (i + 1))) kw)
  · subst z
    exact lw_sw (tgt := 1311) C hi ej (by decide) (by decide) rfl (by decide) (lc_known C hb1 hi (st_known hJ (xs (i + 1))) kw)
  · subst z
    exact lw_sw (tgt := 1336) C hi ej (by decide) (by decide) rfl (by decide) (lc_fits C hb1 hi (st_fits hJ ) kw)
  · subst z
    exact lw_sw (tgt := 1349) C hi ej (by decide) (by decide) rfl (by decide) (lc_keep C hb1 hi (st_keep hJ ) kw)
  · subst z
    exact lw_sw (tgt := 1362) C hi ej (by decide) (by decide) rfl (by decide) (lc_back C hb1 hi (st_back hJ ) kw)
  · subst z
    exact lw_sw (tgt := 1375) C hi ej (by decide) (by decide) rfl (by decide) (lc_all C hb1 hi (st_all hJ (xs (i + 1))) kw)
theorem lw_loop (C : lwC κ p s m meth c bS Ls xs) (hk : LkC κ p e s m below meth c bS Ls) {p1 : Nat} {S0 : Nat} (hS0 : S0 ≤ 1000000) (hJ : JJ M N 200 p1) : lqW κ p e s m below meth c bS 23 (lsL κ s bS 0) [] M N o 306 S0 := by
  have hL := C.2.1.2.2
  refine eg_down (P := fun t => ∀ (M N : eg_H) (o : Int64) (p1 : Nat), JJ M N (200 + 60 * t) p1 → lqW κ p e s m below meth c bS 23 (lsL κ s bS (6 * t)) [] M N o (306 + t) (S0 + 6 * t)) (Ls / 6) (fun t ht ih M N o p1 hJ => ?_) (fun M N o p1 hJ => ?_) M N o p1 hJ
  · have h6 : 6 * t + 6 ≤ Ls := by omega
    refine lw_head C (by omega) (fun z => by omega) (fun _ => ?_)
    refine lw_iter C hk (C0 := 200 + 60 * t) ⟨by omega, by omega⟩ h6 (by omega) (by omega) hJ (fun M1 N1 o1 p2 h => ?_)
    refine lw_tail C ?_
    exact ih M1 N1 o1 p2 h
  · refine lw_head C (by omega) (fun _ => ?_) (fun z => by omega)
    exact lw_end C (by omega) (by omega)
end LWL
