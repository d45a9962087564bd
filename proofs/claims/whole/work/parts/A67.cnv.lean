/-! THE LISTS OF CELLS ARE THE WORLDS -/
theorem cw_at {κ : eg_K} {b : Nat} {L : List va_E} {H : Heap} (hP : va_P (kD κ) vwCl (wl b L) H) {k : Nat} {e : va_E} (h : L[k]? = some e) : va_at (kD κ) vwCl (b + k, e) H := hP k _ (wl_a h)
theorem cw_ws {κ : eg_K} {G : eg_G} {M : eg_H} {H : Heap} (h : ∀ r ∈ G.1, va_at (kD κ) vwCl (kad κ r, eg_cel κ G M r) H) : va_P (kD κ) vwCl (eg_ws κ G M) H := by
  intro k q hq
  unfold eg_ws at hq
  rw [List.getElem?_map] at hq
  cases hr : G.1[k]? with
  | none => rw [hr] at hq; cases hq
  | some r =>
    rw [hr] at hq
    cases hq
    exact h r (List.mem_of_getElem? hr)
theorem cw_ref {κ : eg_K} {a t N : Nat} {f : Nat → Option Nat} {g : Nat → Nat} {H : Heap} (h : va_at (kD κ) vwCl (a, rfA κ t N f) H) (hf : ∀ i, i < N → f i = some (g i)) : va_at (kD κ) vwCl (a, .inl (kA κ t, N, .inr (.inr (.inr (.inr (fun k => some (g k))))))) H := by
  have h1 : H[a]? = some (vp_cell (kA κ t) (N, .inr (.inr (.inr (.inr f))))) := h
  show H[a]? = some (vp_cell (kA κ t) (N, .inr (.inr (.inr (.inr (fun k => some (g k)))))))
  rw [h1]
  congr 1
  exact arrV_x (f := fun j => va_rf (f j)) (g := fun j => va_rf (some (g j))) (fun j hj => congrArg va_rf (hf j hj))
theorem rf_in {kn : List (Nat × Nat)} {r : eg_R} (hr : r ∈ kn.flatMap (fun q => (List.range q.2).map (fun j => (q.1, j)))) : ∃ k n j, (k, n) ∈ kn ∧ j < n ∧ r = (k, j) := by
  obtain ⟨q, hq, hr2⟩ := List.mem_flatMap.mp hr
  obtain ⟨j, hj, e⟩ := List.mem_map.mp hr2
  exact ⟨q.1, q.2, j, hq, List.mem_range.mp hj, e.symm⟩
section CNV
variable (l : Launch) (dC : Nat → ClassId) (dI : Nat → Nat → Nat) (dA : Nat → ClassId) (b : Nat) (tx wv : Nat → Nat)
theorem cr_30 {H : Heap} (hP : va_P (kD (eK l dC dI dA b tx wv)) vwCl (wl b (LfC (eK l dC dI dA b tx wv) b)) H) : ∀ j, j < 2 → va_at (kD (eK l dC dI dA b tx wv)) vwCl (kad (eK l dC dI dA b tx wv) (30, j), eg_cel (eK l dC dI dA b tx wv) gC M0 (30, j)) H
  | 0, _ => cw_ref (g := fun i => kad (eK l dC dI dA b tx wv) (gC.2.2 (30, 0) i)) (cw_at hP (ca_30_0 l dC dI dA b tx wv)) (cb_30_0 l dC dI dA b tx wv)
  | 1, _ => cw_ref (g := fun i => kad (eK l dC dI dA b tx wv) (gC.2.2 (30, 1) i)) (cw_at hP (ca_30_1 l dC dI dA b tx wv)) (cb_30_1 l dC dI dA b tx wv)
  | j + 2, h => absurd h (by omega)
theorem cr_31 {H : Heap} (hP : va_P (kD (eK l dC dI dA b tx wv)) vwCl (wl b (LfC (eK l dC dI dA b tx wv) b)) H) : ∀ j, j < 2 → va_at (kD (eK l dC dI dA b tx wv)) vwCl (kad (eK l dC dI dA b tx wv) (31, j), eg_cel (eK l dC dI dA b tx wv) gC M0 (31, j)) H
  | 0, _ => cw_ref (g := fun i => kad (eK l dC dI dA b tx wv) (gC.2.2 (31, 0) i)) (cw_at hP (ca_31_0 l dC dI dA b tx wv)) (cb_31_0 l dC dI dA b tx wv)
  | 1, _ => cw_ref (g := fun i => kad (eK l dC dI dA b tx wv) (gC.2.2 (31, 1) i)) (cw_at hP (ca_31_1 l dC dI dA b tx wv)) (cb_31_1 l dC dI dA b tx wv)
  | j + 2, h => absurd h (by omega)
theorem cr_41 {H : Heap} (hP : va_P (kD (eK l dC dI dA b tx wv)) vwCl (wl b (LfC (eK l dC dI dA b tx wv) b)) H) : ∀ j, j < 4 → va_at (kD (eK l dC dI dA b tx wv)) vwCl (kad (eK l dC dI dA b tx wv) (41, j), eg_cel (eK l dC dI dA b tx wv) gC M0 (41, j)) H
  | 0, _ => cw_ref (g := fun i => kad (eK l dC dI dA b tx wv) (gC.2.2 (41, 0) i)) (cw_at hP (ca_41_0 l dC dI dA b tx wv)) (cb_41_0 l dC dI dA b tx wv)
  | 1, _ => cw_ref (g := fun i => kad (eK l dC dI dA b tx wv) (gC.2.2 (41, 1) i)) (cw_at hP (ca_41_1 l dC dI dA b tx wv)) (cb_41_1 l dC dI dA b tx wv)
  | 2, _ => cw_ref (g := fun i => kad (eK l dC dI dA b tx wv) (gC.2.2 (41, 2) i)) (cw_at hP (ca_41_2 l dC dI dA b tx wv)) (cb_41_2 l dC dI dA b tx wv)
  | 3, _ => cw_ref (g := fun i => kad (eK l dC dI dA b tx wv) (gC.2.2 (41, 3) i)) (cw_at hP (ca_41_3 l dC dI dA b tx wv)) (cb_41_3 l dC dI dA b tx wv)
  | j + 4, h => absurd h (by omega)
theorem cr_42 {H : Heap} (hP : va_P (kD (eK l dC dI dA b tx wv)) vwCl (wl b (LfC (eK l dC dI dA b tx wv) b)) H) : ∀ j, j < 4 → va_at (kD (eK l dC dI dA b tx wv)) vwCl (kad (eK l dC dI dA b tx wv) (42, j), eg_cel (eK l dC dI dA b tx wv) gC M0 (42, j)) H
  | 0, _ => cw_ref (g := fun i => kad (eK l dC dI dA b tx wv) (gC.2.2 (42, 0) i)) (cw_at hP (ca_42_0 l dC dI dA b tx wv)) (cb_42_0 l dC dI dA b tx wv)
  | 1, _ => cw_ref (g := fun i => kad (eK l dC dI dA b tx wv) (gC.2.2 (42, 1) i)) (cw_at hP (ca_42_1 l dC dI dA b tx wv)) (cb_42_1 l dC dI dA b tx wv)
  | 2, _ => cw_ref (g := fun i => kad (eK l dC dI dA b tx wv) (gC.2.2 (42, 2) i)) (cw_at hP (ca_42_2 l dC dI dA b tx wv)) (cb_42_2 l dC dI dA b tx wv)
  | 3, _ => cw_ref (g := fun i => kad (eK l dC dI dA b tx wv) (gC.2.2 (42, 3) i)) (cw_at hP (ca_42_3 l dC dI dA b tx wv)) (cb_42_3 l dC dI dA b tx wv)
  | j + 4, h => absurd h (by omega)
theorem cv_C {H : Heap} (hP : va_P (kD (eK l dC dI dA b tx wv)) vwCl (wl b (LfC (eK l dC dI dA b tx wv) b)) H) : va_P (kD (eK l dC dI dA b tx wv)) vwCl (eg_ws (eK l dC dI dA b tx wv) gC M0) H := by
  refine cw_ws (fun r hr => ?_)
  obtain ⟨k, n, j, hk, hj, e⟩ := rf_in hr
  subst e
  simp only [knC, List.mem_cons, Prod.mk.injEq, List.not_mem_nil, or_false] at hk
  rcases hk with ⟨rfl, rfl⟩ | ⟨rfl, rfl⟩ | ⟨rfl, rfl⟩ | ⟨rfl, rfl⟩ | ⟨rfl, rfl⟩ | ⟨rfl, rfl⟩ | ⟨rfl, rfl⟩ | ⟨rfl, rfl⟩ | ⟨rfl, rfl⟩ | ⟨rfl, rfl⟩ | ⟨rfl, rfl⟩ | ⟨rfl, rfl⟩ | ⟨rfl, rfl⟩ | ⟨rfl, rfl⟩ | ⟨rfl, rfl⟩ | ⟨rfl, rfl⟩ | ⟨rfl, rfl⟩ | ⟨rfl, rfl⟩ | ⟨rfl, rfl⟩ | ⟨rfl, rfl⟩ | ⟨rfl, rfl⟩ | ⟨rfl, rfl⟩ | ⟨rfl, rfl⟩ | ⟨rfl, rfl⟩ | ⟨rfl, rfl⟩ | ⟨rfl, rfl⟩ | ⟨rfl, rfl⟩ | ⟨rfl, rfl⟩ | ⟨rfl, rfl⟩ | ⟨rfl, rfl⟩ | ⟨rfl, rfl⟩ | ⟨rfl, rfl⟩ | ⟨rfl, rfl⟩ | ⟨rfl, rfl⟩ | ⟨rfl, rfl⟩ | ⟨rfl, rfl⟩ | ⟨rfl, rfl⟩ | ⟨rfl, rfl⟩
  · exact cw_at hP (cc_0 l dC dI dA b tx wv j hj)
  · exact cw_at hP (cc_1 l dC dI dA b tx wv j hj)
  · exact cw_at hP (cc_2 l dC dI dA b tx wv j hj)
  · exact cw_at hP (cc_3 l dC dI dA b tx wv j hj)
  · exact cw_at hP (cc_4 l dC dI dA b tx wv j hj)
  · exact cw_at hP (cc_5 l dC dI dA b tx wv j hj)
  · exact cw_at hP (cc_6 l dC dI dA b tx wv j hj)
  · exact cw_at hP (cc_7 l dC dI dA b tx wv j hj)
  · exact cw_at hP (cc_8 l dC dI dA b tx wv j hj)
  · exact cw_at hP (cc_9 l dC dI dA b tx wv j hj)
  · exact cw_at hP (cc_10 l dC dI dA b tx wv j hj)
  · exact cw_at hP (cc_20 l dC dI dA b tx wv j hj)
  · exact cw_at hP (cc_22 l dC dI dA b tx wv j hj)
  · exact cw_at hP (cc_23 l dC dI dA b tx wv j hj)
  · exact cw_at hP (cc_24 l dC dI dA b tx wv j hj)
  · exact cw_at hP (cc_25 l dC dI dA b tx wv j hj)
  · exact cw_at hP (cc_26 l dC dI dA b tx wv j hj)
  · exact cw_at hP (cc_27 l dC dI dA b tx wv j hj)
  · exact cr_30 l dC dI dA b tx wv hP j hj
  · exact cr_31 l dC dI dA b tx wv hP j hj
  · exact cw_at hP (cc_32 l dC dI dA b tx wv j hj)
  · exact cw_at hP (cc_33 l dC dI dA b tx wv j hj)
  · exact cw_at hP (cc_34 l dC dI dA b tx wv j hj)
  · exact cw_at hP (cc_35 l dC dI dA b tx wv j hj)
  · exact cw_at hP (cc_36 l dC dI dA b tx wv j hj)
  · exact cw_at hP (cc_40 l dC dI dA b tx wv j hj)
  · exact cr_41 l dC dI dA b tx wv hP j hj
  · exact cr_42 l dC dI dA b tx wv hP j hj
  · exact cw_at hP (cc_43 l dC dI dA b tx wv j hj)
  · exact cw_at hP (cc_44 l dC dI dA b tx wv j hj)
  · exact cw_at hP (cc_45 l dC dI dA b tx wv j hj)
  · exact cw_at hP (cc_46 l dC dI dA b tx wv j hj)
  · exact cw_at hP (cc_47 l dC dI dA b tx wv j hj)
  · exact cw_at hP (cc_48 l dC dI dA b tx wv j hj)
  · exact cw_at hP (cc_50 l dC dI dA b tx wv j hj)
  · exact cw_at hP (cc_51 l dC dI dA b tx wv j hj)
  · exact cw_at hP (cc_52 l dC dI dA b tx wv j hj)
  · exact cw_at hP (cc_53 l dC dI dA b tx wv j hj)
theorem cv_M {H : Heap} (hP : va_P (kD (eK l dC dI dA b tx wv)) vwCl (wl (b + 270) (LfM (eK l dC dI dA b tx wv) (b + 270))) H) : va_P (kD (eK l dC dI dA b tx wv)) vwCl (eg_ws (eK l dC dI dA b tx wv) gM Nz) H := by
  refine cw_ws (fun r hr => ?_)
  obtain ⟨k, n, j, hk, hj, e⟩ := rf_in hr
  subst e
  simp only [knM, List.mem_cons, Prod.mk.injEq, List.not_mem_nil, or_false] at hk
  rcases hk with ⟨rfl, rfl⟩ | ⟨rfl, rfl⟩ | ⟨rfl, rfl⟩ | ⟨rfl, rfl⟩ | ⟨rfl, rfl⟩ | ⟨rfl, rfl⟩ | ⟨rfl, rfl⟩ | ⟨rfl, rfl⟩ | ⟨rfl, rfl⟩ | ⟨rfl, rfl⟩ | ⟨rfl, rfl⟩ | ⟨rfl, rfl⟩ | ⟨rfl, rfl⟩ | ⟨rfl, rfl⟩ | ⟨rfl, rfl⟩ | ⟨rfl, rfl⟩ | ⟨rfl, rfl⟩ | ⟨rfl, rfl⟩ | ⟨rfl, rfl⟩ | ⟨rfl, rfl⟩ | ⟨rfl, rfl⟩ | ⟨rfl, rfl⟩ | ⟨rfl, rfl⟩ | ⟨rfl, rfl⟩ | ⟨rfl, rfl⟩ | ⟨rfl, rfl⟩ | ⟨rfl, rfl⟩ | ⟨rfl, rfl⟩ | ⟨rfl, rfl⟩ | ⟨rfl, rfl⟩ | ⟨rfl, rfl⟩ | ⟨rfl, rfl⟩ | ⟨rfl, rfl⟩ | ⟨rfl, rfl⟩ | ⟨rfl, rfl⟩
  · obtain rfl : j = 0 := by omega
    exact cw_at hP (cm_60 l dC dI dA b tx wv)
  · obtain rfl : j = 0 := by omega
    exact cw_at hP (cm_61 l dC dI dA b tx wv)
  · obtain rfl : j = 0 := by omega
    exact cw_at hP (cm_64 l dC dI dA b tx wv)
  · obtain rfl : j = 0 := by omega
    exact cw_at hP (cm_88 l dC dI dA b tx wv)
  · obtain rfl : j = 0 := by omega
    exact cw_at hP (cm_89 l dC dI dA b tx wv)
  · obtain rfl : j = 0 := by omega
    exact cw_at hP (cm_90 l dC dI dA b tx wv)
  · obtain rfl : j = 0 := by omega
    exact cw_at hP (cm_91 l dC dI dA b tx wv)
  · obtain rfl : j = 0 := by omega
    exact cw_at hP (cm_92 l dC dI dA b tx wv)
  · obtain rfl : j = 0 := by omega
    exact cw_at hP (cm_93 l dC dI dA b tx wv)
  · obtain rfl : j = 0 := by omega
    exact cw_at hP (cm_94 l dC dI dA b tx wv)
  · obtain rfl : j = 0 := by omega
    exact cw_at hP (cm_95 l dC dI dA b tx wv)
  · obtain rfl : j = 0 := by omega
    exact cw_at hP (cm_96 l dC dI dA b tx wv)
  · obtain rfl : j = 0 := by omega
    exact cw_at hP (cm_97 l dC dI dA b tx wv)
  · obtain rfl : j = 0 := by omega
    exact cw_at hP (cm_98 l dC dI dA b tx wv)
  · obtain rfl : j = 0 := by omega
    exact cw_at hP (cm_99 l dC dI dA b tx wv)
  · obtain rfl : j = 0 := by omega
    exact cw_at hP (cm_100 l dC dI dA b tx wv)
  · obtain rfl : j = 0 := by omega
    exact cw_at hP (cm_101 l dC dI dA b tx wv)
  · obtain rfl : j = 0 := by omega
    exact cw_at hP (cm_102 l dC dI dA b tx wv)
  · obtain rfl : j = 0 := by omega
    exact cw_at hP (cm_103 l dC dI dA b tx wv)
  · obtain rfl : j = 0 := by omega
    exact cw_at hP (cm_110 l dC dI dA b tx wv)
  · obtain rfl : j = 0 := by omega
    exact cw_at hP (cm_111 l dC dI dA b tx wv)
  · obtain rfl : j = 0 := by omega
    exact cw_at hP (cm_112 l dC dI dA b tx wv)
  · obtain rfl : j = 0 := by omega
    exact cw_at hP (cm_125 l dC dI dA b tx wv)
  · obtain rfl : j = 0 := by omega
    exact cw_at hP (cm_126 l dC dI dA b tx wv)
  · obtain rfl : j = 0 := by omega
    exact cw_at hP (cm_127 l dC dI dA b tx wv)
  · obtain rfl : j = 0 := by omega
    exact cw_at hP (cm_128 l dC dI dA b tx wv)
  · obtain rfl : j = 0 := by omega
    exact cw_at hP (cm_131 l dC dI dA b tx wv)
  · obtain rfl : j = 0 := by omega
    exact cw_at hP (cm_132 l dC dI dA b tx wv)
  · obtain rfl : j = 0 := by omega
    exact cw_at hP (cm_133 l dC dI dA b tx wv)
  · obtain rfl : j = 0 := by omega
    exact cw_at hP (cm_136 l dC dI dA b tx wv)
  · obtain rfl : j = 0 := by omega
    exact cw_at hP (cm_137 l dC dI dA b tx wv)
  · obtain rfl : j = 0 := by omega
    exact cw_at hP (cm_138 l dC dI dA b tx wv)
  · obtain rfl : j = 0 := by omega
    exact cw_at hP (cm_139 l dC dI dA b tx wv)
  · obtain rfl : j = 0 := by omega
    exact cw_at hP (cm_140 l dC dI dA b tx wv)
  · obtain rfl : j = 0 := by omega
    exact cw_at hP (cm_142 l dC dI dA b tx wv)
theorem ad_C1 : ∀ r ∈ rfC, r.1 < 60 ∧ posC r < 270 := by decide +kernel
theorem ad_M1 : ∀ r ∈ rfM, (60 ≤ r.1 ∧ r.1 < 200) ∧ posM r < 35 := by decide +kernel
theorem ad_C {r : eg_R} (h : r ∈ gC.1) : kad (eK l dC dI dA b tx wv) r = b + posC r := if_pos (ad_C1 r h).1
theorem ad_M {r : eg_R} (h : r ∈ gM.1) : kad (eK l dC dI dA b tx wv) r = b + 270 + posM r := by
  have := (ad_M1 r h).1
  show (if r.1 < 60 then b + posC r else if r.1 < 200 then b + 270 + posM r else if r.1 = 200 then tx r.2 else wv r.2) = _
  rw [if_neg (by omega), if_pos this.2]
theorem nd_C1 : (rfC.map posC).Nodup := by decide +kernel
theorem nd_M1 : (rfM.map posM).Nodup := by decide +kernel
theorem ok_C : eg_ok (eK l dC dI dA b tx wv) gC := by
  unfold eg_ok
  have e : gC.1.map (kad (eK l dC dI dA b tx wv)) = (rfC.map posC).map (fun x => b + x) := by
    rw [List.map_map]
    exact List.map_congr_left (fun r hr => ad_C l dC dI dA b tx wv hr)
  rw [e]
  exact List.pairwise_map.mpr (nd_C1.imp (fun hne z => hne (by omega)))
theorem ok_M : eg_ok (eK l dC dI dA b tx wv) gM := by
  unfold eg_ok
  have e : gM.1.map (kad (eK l dC dI dA b tx wv)) = (rfM.map posM).map (fun x => b + 270 + x) := by
    rw [List.map_map]
    exact List.map_congr_left (fun r hr => ad_M l dC dI dA b tx wv hr)
  rw [e]
  exact List.pairwise_map.mpr (nd_M1.imp (fun hne z => hne (by omega)))
theorem rg_C : ∀ r ∈ gC.1, b ≤ kad (eK l dC dI dA b tx wv) r ∧ kad (eK l dC dI dA b tx wv) r < b + 270 := fun r hr => by
  have := (ad_C1 r hr).2
  rw [ad_C l dC dI dA b tx wv hr]
  omega
theorem rg_M : ∀ r ∈ gM.1, b + 270 ≤ kad (eK l dC dI dA b tx wv) r ∧ kad (eK l dC dI dA b tx wv) r < b + 305 := fun r hr => by
  have := (ad_M1 r hr).2
  rw [ad_M l dC dI dA b tx wv hr]
  omega
end CNV
