/-! THE NAMES AND WHERE THEY LIE -/
def posC (r : eg_R) : Nat := match r.1 with
  | 0 => 23 + 48 * (r.2 / 15) + 2 * (r.2 % 15)
  | 1 => 18 + 48 * (r.2 / 5) + r.2 % 5
  | 2 => 120 + 40 * (r.2 / 15) + 2 * (r.2 % 15)
  | 3 => 12 + 48 * r.2
  | 4 => 115 + 40 * (r.2 / 5) + r.2 % 5
  | 5 => 5 + 48 * r.2
  | 6 => 2
  | 7 => 110 + 40 * r.2
  | 8 => 102
  | 9 => 3
  | 10 => 0
  | 20 => 24 + 48 * (r.2 / 15) + 2 * (r.2 % 15)
  | 22 => 121 + 40 * (r.2 / 15) + 2 * (r.2 % 15)
  | 23 => 13 + 48 * r.2
  | 24 => 14 + 48 * r.2
  | 25 => 15 + 48 * r.2
  | 26 => 16 + 48 * r.2
  | 27 => 17 + 48 * r.2
  | 30 => 6 + 48 * r.2
  | 31 => 7 + 48 * r.2
  | 32 => 8 + 48 * r.2
  | 33 => 9 + 48 * r.2
  | 34 => 10 + 48 * r.2
  | 35 => 11 + 48 * r.2
  | 36 => 4
  | 40 => 111 + 40 * r.2
  | 41 => 112 + 40 * r.2
  | 42 => 113 + 40 * r.2
  | 43 => 114 + 40 * r.2
  | 44 => 103
  | 45 => 104
  | 46 => 105
  | 47 => 106
  | 48 => 107
  | 50 => 1
  | 51 => 101
  | 52 => 108
  | 53 => 109
  | _ => 0
def posM (r : eg_R) : Nat := match r.1 with
  | 61 => 1
  | 64 => 2
  | 88 => 3
  | 89 => 4
  | 90 => 5
  | 91 => 6
  | 92 => 7
  | 93 => 8
  | 94 => 9
  | 95 => 10
  | 96 => 11
  | 97 => 12
  | 98 => 13
  | 99 => 14
  | 100 => 15
  | 101 => 16
  | 102 => 17
  | 103 => 18
  | 110 => 19
  | 111 => 20
  | 112 => 21
  | 125 => 22
  | 126 => 23
  | 127 => 24
  | 128 => 25
  | 131 => 26
  | 132 => 27
  | 133 => 28
  | 136 => 29
  | 137 => 30
  | 138 => 31
  | 139 => 32
  | 140 => 33
  | 142 => 34
  | _ => 0
def eK (l : Launch) (dC : Nat → ClassId) (dI : Nat → Nat → Nat) (dA : Nat → ClassId) (b : Nat) (tx : Nat → Nat) (wv : Nat → Nat) : eg_K := (l, dC, dI, dA, fun r => if r.1 < 60 then b + posC r else if r.1 < 200 then b + 270 + posM r else if r.1 = 200 then tx r.2 else wv r.2)
def M0 : eg_H := (fun r => if r.1 = 35 then tld0 else if r.1 = 40 then rowF 5 else if r.1 = 6 then (fun k => if k = 3 then -1 else 0) else if r.1 = 5 then (fun k => if k = 6 then 3600 else 0) else if r.1 = 8 then (fun k => if k = 1 then -1 else 0) else fun _ => 0, fun _ _ => 0, fun r k => if r.1 = 6 then eg_nul else if r.1 = 10 ∧ k = 4 then (5, 1) else (5, 0))
def Nz : eg_H := (fun r => if r.1 = 60 then (fun k => if k = 5 then -1 else if k = 74 then -1 else 0) else if r.1 = 64 then wF 121 else fun _ => 0, fun _ _ => 0, fun _ _ => (0, 0))
def LfC (κ : eg_K) (b : Nat) : List va_E := wS [.inr (10, eg_d0 10)] 0 (qf κ b 1) 10 (fsX10 b 1)
def LfM (κ : eg_K) (b : Nat) : List va_E := wS [.inr (11, eg_d0 11)] 0 (asMl κ) 11 (fsM b 1)
theorem arrV_x {cA : ClassId} {N : Nat} {f g : Nat → Value} (h : ∀ j, j < N → f j = g j) : arrV cA N f = arrV cA N g := by
  unfold arrV
  have : (Array.ofFn (n := N) fun j => f j.val) = Array.ofFn (n := N) fun j => g j.val := by
    congr 1
    funext j
    exact h j.val j.isLt
  rw [this]
section CELLS
variable (l : Launch) (dC : Nat → ClassId) (dI : Nat → Nat → Nat) (dA : Nat → ClassId) (b : Nat) (tx wv : Nat → Nat)
theorem gk_1 {κ : eg_K} {b i : Nat} {e : va_E} (h : (qf κ b 1)[i]? = some e) : (LfC κ b)[1 + i]? = some e := wS_at (n := 1) rfl (by decide) h
theorem gk_b {κ : eg_K} {b i : Nat} {e : va_E} (h : (qb κ b 1)[i]? = some e) : (LfC κ b)[1 + i]? = some e := gk_1 (q_up (q_up (q_up (q_up h))))
theorem gk_8 {κ : eg_K} {b i : Nat} {e : va_E} (h4 : 4 ≠ i) (h10 : 10 ≠ i) (h52 : 52 ≠ i) (h58 : 58 ≠ i) (h101 : 101 ≠ i) (h : (q8 κ b 1)[i]? = some e) : (LfC κ b)[1 + i]? = some e := by
  refine gk_b ?_
  unfold qb qa q9
  rw [List.getElem?_set_ne h101, List.getElem?_set_ne h58, List.getElem?_set_ne h52, List.getElem?_set_ne h10, List.getElem?_set_ne h4]
  exact h
theorem gk_lt {X : List va_E} {n i : Nat} {e : va_E} (hn : X.length = n) (h : X[i]? = some e) : i < n := hn ▸ (List.getElem?_eq_some_iff.mp h).1
def bP (κ : eg_K) (b m : Nat) : List va_E := .inr (5, fsX5 b (1 + (m + 1))) :: asX5 κ b (1 + (m + 1))
def bT (κ : eg_K) (b m : Nat) : List va_E := .inr (7, fsX7 b (1 + (m + 1)) (b + (1 + 4))) :: asX7 κ b (1 + (m + 1)) (b + (1 + 4))
def bB (κ : eg_K) (b m : Nat) : List va_E := .inr (8, fsX8 b (1 + (m + 1))) :: asX8 κ b (1 + (m + 1))
theorem bP_l (κ : eg_K) (b m : Nat) : (bP κ b m).length = 48 := rfl
theorem gk_P0 {κ : eg_K} {b i : Nat} {e : va_E} (h0 : 0 ≠ i) (h6 : 6 ≠ i) (h : (bP κ b 4)[i]? = some e) : (LfC κ b)[1 + (4 + i)]? = some e := by
  have hi := gk_lt (bP_l κ b 4) h
  exact gk_8 (by omega) (by omega) (by omega) (by omega) (by omega) (q3_8 (q_mid (q2_l κ b 1) h))
theorem gk_P1 {κ : eg_K} {b i : Nat} {e : va_E} (h0 : 0 ≠ i) (h6 : 6 ≠ i) (h : (bP κ b 52)[i]? = some e) : (LfC κ b)[1 + (52 + i)]? = some e := by
  have hi := gk_lt (bP_l κ b 52) h
  exact gk_8 (by omega) (by omega) (by omega) (by omega) (by omega) (q4_8 (q_mid (q3_l κ b 1) h))
theorem gk_B {κ : eg_K} {b i : Nat} {e : va_E} (h0 : 0 ≠ i) (h : (bB κ b 101)[i]? = some e) : (LfC κ b)[1 + (101 + i)]? = some e := by
  have hi := gk_lt (n := 6) rfl h
  exact gk_8 (by omega) (by omega) (by omega) (by omega) (by omega) (q_up (q_up (q_mid (q5_l κ b 1) h)))
theorem gk_2 {κ : eg_K} {b i : Nat} {e : va_E} (h : (q2 κ b 1)[i]? = some e) : (LfC κ b)[1 + i]? = some e := by
  have hi := gk_lt (q2_l κ b 1) h
  exact gk_8 (by omega) (by omega) (by omega) (by omega) (by omega) (q_up (q_up (q_up (q_up (q_up (q_up h))))))
theorem gk_5 {κ : eg_K} {b : Nat} : (LfC κ b)[1 + 100]? = some (.inl (kA κ 0, 60, .inl (fun _ => 0))) :=
  gk_8 (by decide) (by decide) (by decide) (by decide) (by decide) (q_up (q_up (q_up (q_mid (i := 0) (q4_l κ b 1) rfl))))
theorem gk_7 {κ : eg_K} {b : Nat} : (LfC κ b)[1 + 107]? = some (.inl (kA κ 0, 5, .inl (fun _ => 0))) :=
  gk_8 (by decide) (by decide) (by decide) (by decide) (by decide) (q_up (q_mid (i := 0) (q6_l κ b 1) rfl))
theorem gk_88 {κ : eg_K} {b : Nat} : (LfC κ b)[1 + 108]? = some (.inl (kA κ 0, 5, .inl (fun _ => 0))) :=
  gk_8 (by decide) (by decide) (by decide) (by decide) (by decide) (q_mid (i := 0) (q7_l κ b 1) rfl)
theorem gk_s4 {κ : eg_K} {b : Nat} : (LfC κ b)[1 + 4]? = some (.inr (5, (fsX5 b (1 + (4 + 1))).set 6 (.int 3600))) := by
  refine gk_b ?_
  unfold qb qa q9
  rw [List.getElem?_set_ne (by decide), List.getElem?_set_ne (by decide), List.getElem?_set_ne (by decide), List.getElem?_set_ne (by decide), List.getElem?_set_self (by rw [q8_l]; decide)]
theorem gk_s10 {κ : eg_K} {b : Nat} : (LfC κ b)[1 + 10]? = some (inA κ 3 tld0) := by
  refine gk_b ?_
  unfold qb qa q9
  rw [List.getElem?_set_ne (by decide), List.getElem?_set_ne (by decide), List.getElem?_set_ne (by decide), List.getElem?_set_self (by rw [List.length_set, q8_l]; decide)]
theorem gk_s52 {κ : eg_K} {b : Nat} : (LfC κ b)[1 + 52]? = some (.inr (5, (fsX5 b (1 + (52 + 1))).set 6 (.int 3600))) := by
  refine gk_b ?_
  unfold qb qa q9
  rw [List.getElem?_set_ne (by decide), List.getElem?_set_ne (by decide), List.getElem?_set_self (by rw [List.length_set, List.length_set, q8_l]; decide)]
theorem gk_s58 {κ : eg_K} {b : Nat} : (LfC κ b)[1 + 58]? = some (inA κ 3 tld0) := by
  refine gk_b ?_
  unfold qb qa q9
  rw [List.getElem?_set_ne (by decide), List.getElem?_set_self (by rw [List.length_set, List.length_set, List.length_set, q8_l]; decide)]
theorem gk_s101 {κ : eg_K} {b : Nat} : (LfC κ b)[1 + 101]? = some (.inr (8, (fsX8 b (1 + (101 + 1))).set 1 (.int (-1)))) := by
  refine gk_b ?_
  unfold qb qa q9
  rw [List.getElem?_set_self (by rw [List.length_set, List.length_set, List.length_set, List.length_set, q8_l]; decide)]
theorem gk_T0 {κ : eg_K} {b i : Nat} {e : va_E} (h : (bT κ b 109)[i]? = some e) : (LfC κ b)[1 + (109 + i)]? = some e := gk_1 (q_up (q_up (q_up (q_mid (qb_l κ b 1) h))))
theorem gk_T1 {κ : eg_K} {b i : Nat} {e : va_E} (h : (bT κ b 149)[i]? = some e) : (LfC κ b)[1 + (149 + i)]? = some e := gk_1 (q_up (q_up (q_mid (qc_l κ b 1) h)))
theorem gk_T2 {κ : eg_K} {b i : Nat} {e : va_E} (h : (bT κ b 189)[i]? = some e) : (LfC κ b)[1 + (189 + i)]? = some e := gk_1 (q_up (q_mid (qd_l κ b 1) h))
theorem gk_T3 {κ : eg_K} {b i : Nat} {e : va_E} (h : (bT κ b 229)[i]? = some e) : (LfC κ b)[1 + (229 + i)]? = some e := gk_1 (q_mid (qe_l κ b 1) h)
set_option maxRecDepth 100000 in
theorem cc_0 : ∀ j, j < 30 → (LfC (eK l dC dI dA b tx wv) b)[posC (0, j)]? = some (eg_cel (eK l dC dI dA b tx wv) gC M0 (0, j))
  | 0, _ => gk_P0 (i := 18) (by decide) (by decide) rfl
  | 1, _ => gk_P0 (i := 20) (by decide) (by decide) rfl
  | 2, _ => gk_P0 (i := 22) (by decide) (by decide) rfl
  | 3, _ => gk_P0 (i := 24) (by decide) (by decide) rfl
  | 4, _ => gk_P0 (i := 26) (by decide) (by decide) rfl
  | 5, _ => gk_P0 (i := 28) (by decide) (by decide) rfl
  | 6, _ => gk_P0 (i := 30) (by decide) (by decide) rfl
  | 7, _ => gk_P0 (i := 32) (by decide) (by decide) rfl
  | 8, _ => gk_P0 (i := 34) (by decide) (by decide) rfl
  | 9, _ => gk_P0 (i := 36) (by decide) (by decide) rfl
  | 10, _ => gk_P0 (i := 38) (by decide) (by decide) rfl
  | 11, _ => gk_P0 (i := 40) (by decide) (by decide) rfl
  | 12, _ => gk_P0 (i := 42) (by decide) (by decide) rfl
  | 13, _ => gk_P0 (i := 44) (by decide) (by decide) rfl
  | 14, _ => gk_P0 (i := 46) (by decide) (by decide) rfl
  | 15, _ => gk_P1 (i := 18) (by decide) (by decide) rfl
  | 16, _ => gk_P1 (i := 20) (by decide) (by decide) rfl
  | 17, _ => gk_P1 (i := 22) (by decide) (by decide) rfl
  | 18, _ => gk_P1 (i := 24) (by decide) (by decide) rfl
  | 19, _ => gk_P1 (i := 26) (by decide) (by decide) rfl
  | 20, _ => gk_P1 (i := 28) (by decide) (by decide) rfl
  | 21, _ => gk_P1 (i := 30) (by decide) (by decide) rfl
  | 22, _ => gk_P1 (i := 32) (by decide) (by decide) rfl
  | 23, _ => gk_P1 (i := 34) (by decide) (by decide) rfl
  | 24, _ => gk_P1 (i := 36) (by decide) (by decide) rfl
  | 25, _ => gk_P1 (i := 38) (by decide) (by decide) rfl
  | 26, _ => gk_P1 (i := 40) (by decide) (by decide) rfl
  | 27, _ => gk_P1 (i := 42) (by decide) (by decide) rfl
  | 28, _ => gk_P1 (i := 44) (by decide) (by decide) rfl
  | 29, _ => gk_P1 (i := 46) (by decide) (by decide) rfl
  | j + 30, h => absurd h (by omega)
set_option maxRecDepth 100000 in
theorem cc_1 : ∀ j, j < 10 → (LfC (eK l dC dI dA b tx wv) b)[posC (1, j)]? = some (eg_cel (eK l dC dI dA b tx wv) gC M0 (1, j))
  | 0, _ => gk_P0 (i := 13) (by decide) (by decide) rfl
  | 1, _ => gk_P0 (i := 14) (by decide) (by decide) rfl
  | 2, _ => gk_P0 (i := 15) (by decide) (by decide) rfl
  | 3, _ => gk_P0 (i := 16) (by decide) (by decide) rfl
  | 4, _ => gk_P0 (i := 17) (by decide) (by decide) rfl
  | 5, _ => gk_P1 (i := 13) (by decide) (by decide) rfl
  | 6, _ => gk_P1 (i := 14) (by decide) (by decide) rfl
  | 7, _ => gk_P1 (i := 15) (by decide) (by decide) rfl
  | 8, _ => gk_P1 (i := 16) (by decide) (by decide) rfl
  | 9, _ => gk_P1 (i := 17) (by decide) (by decide) rfl
  | j + 10, h => absurd h (by omega)
set_option maxRecDepth 100000 in
theorem cc_2 : ∀ j, j < 60 → (LfC (eK l dC dI dA b tx wv) b)[posC (2, j)]? = some (eg_cel (eK l dC dI dA b tx wv) gC M0 (2, j))
  | 0, _ => gk_T0 (i := 10) rfl
  | 1, _ => gk_T0 (i := 12) rfl
  | 2, _ => gk_T0 (i := 14) rfl
  | 3, _ => gk_T0 (i := 16) rfl
  | 4, _ => gk_T0 (i := 18) rfl
  | 5, _ => gk_T0 (i := 20) rfl
  | 6, _ => gk_T0 (i := 22) rfl
  | 7, _ => gk_T0 (i := 24) rfl
  | 8, _ => gk_T0 (i := 26) rfl
  | 9, _ => gk_T0 (i := 28) rfl
  | 10, _ => gk_T0 (i := 30) rfl
  | 11, _ => gk_T0 (i := 32) rfl
  | 12, _ => gk_T0 (i := 34) rfl
  | 13, _ => gk_T0 (i := 36) rfl
  | 14, _ => gk_T0 (i := 38) rfl
  | 15, _ => gk_T1 (i := 10) rfl
  | 16, _ => gk_T1 (i := 12) rfl
  | 17, _ => gk_T1 (i := 14) rfl
  | 18, _ => gk_T1 (i := 16) rfl
  | 19, _ => gk_T1 (i := 18) rfl
  | 20, _ => gk_T1 (i := 20) rfl
  | 21, _ => gk_T1 (i := 22) rfl
  | 22, _ => gk_T1 (i := 24) rfl
  | 23, _ => gk_T1 (i := 26) rfl
  | 24, _ => gk_T1 (i := 28) rfl
  | 25, _ => gk_T1 (i := 30) rfl
  | 26, _ => gk_T1 (i := 32) rfl
  | 27, _ => gk_T1 (i := 34) rfl
  | 28, _ => gk_T1 (i := 36) rfl
  | 29, _ => gk_T1 (i := 38) rfl
  | 30, _ => gk_T2 (i := 10) rfl
  | 31, _ => gk_T2 (i := 12) rfl
  | 32, _ => gk_T2 (i := 14) rfl
  | 33, _ => gk_T2 (i := 16) rfl
  | 34, _ => gk_T2 (i := 18) rfl
  | 35, _ => gk_T2 (i := 20) rfl
  | 36, _ => gk_T2 (i := 22) rfl
  | 37, _ => gk_T2 (i := 24) rfl
  | 38, _ => gk_T2 (i := 26) rfl
  | 39, _ => gk_T2 (i := 28) rfl
  | 40, _ => gk_T2 (i := 30) rfl
  | 41, _ => gk_T2 (i := 32) rfl
  | 42, _ => gk_T2 (i := 34) rfl
  | 43, _ => gk_T2 (i := 36) rfl
  | 44, _ => gk_T2 (i := 38) rfl
  | 45, _ => gk_T3 (i := 10) rfl
  | 46, _ => gk_T3 (i := 12) rfl
  | 47, _ => gk_T3 (i := 14) rfl
  | 48, _ => gk_T3 (i := 16) rfl
  | 49, _ => gk_T3 (i := 18) rfl
  | 50, _ => gk_T3 (i := 20) rfl
  | 51, _ => gk_T3 (i := 22) rfl
  | 52, _ => gk_T3 (i := 24) rfl
  | 53, _ => gk_T3 (i := 26) rfl
  | 54, _ => gk_T3 (i := 28) rfl
  | 55, _ => gk_T3 (i := 30) rfl
  | 56, _ => gk_T3 (i := 32) rfl
  | 57, _ => gk_T3 (i := 34) rfl
  | 58, _ => gk_T3 (i := 36) rfl
  | 59, _ => gk_T3 (i := 38) rfl
  | j + 60, h => absurd h (by omega)
set_option maxRecDepth 100000 in
theorem cc_3 : ∀ j, j < 2 → (LfC (eK l dC dI dA b tx wv) b)[posC (3, j)]? = some (eg_cel (eK l dC dI dA b tx wv) gC M0 (3, j))
  | 0, _ => gk_P0 (i := 7) (by decide) (by decide) rfl
  | 1, _ => gk_P1 (i := 7) (by decide) (by decide) rfl
  | j + 2, h => absurd h (by omega)
set_option maxRecDepth 100000 in
theorem cc_4 : ∀ j, j < 20 → (LfC (eK l dC dI dA b tx wv) b)[posC (4, j)]? = some (eg_cel (eK l dC dI dA b tx wv) gC M0 (4, j))
  | 0, _ => gk_T0 (i := 5) rfl
  | 1, _ => gk_T0 (i := 6) rfl
  | 2, _ => gk_T0 (i := 7) rfl
  | 3, _ => gk_T0 (i := 8) rfl
  | 4, _ => gk_T0 (i := 9) rfl
  | 5, _ => gk_T1 (i := 5) rfl
  | 6, _ => gk_T1 (i := 6) rfl
  | 7, _ => gk_T1 (i := 7) rfl
  | 8, _ => gk_T1 (i := 8) rfl
  | 9, _ => gk_T1 (i := 9) rfl
  | 10, _ => gk_T2 (i := 5) rfl
  | 11, _ => gk_T2 (i := 6) rfl
  | 12, _ => gk_T2 (i := 7) rfl
  | 13, _ => gk_T2 (i := 8) rfl
  | 14, _ => gk_T2 (i := 9) rfl
  | 15, _ => gk_T3 (i := 5) rfl
  | 16, _ => gk_T3 (i := 6) rfl
  | 17, _ => gk_T3 (i := 7) rfl
  | 18, _ => gk_T3 (i := 8) rfl
  | 19, _ => gk_T3 (i := 9) rfl
  | j + 20, h => absurd h (by omega)
set_option maxRecDepth 100000 in
theorem cc_5 : ∀ j, j < 2 → (LfC (eK l dC dI dA b tx wv) b)[posC (5, j)]? = some (eg_cel (eK l dC dI dA b tx wv) gC M0 (5, j))
  | 0, _ => gk_s4
  | 1, _ => gk_s52
  | j + 2, h => absurd h (by omega)
set_option maxRecDepth 100000 in
theorem cc_6 : ∀ j, j < 1 → (LfC (eK l dC dI dA b tx wv) b)[posC (6, j)]? = some (eg_cel (eK l dC dI dA b tx wv) gC M0 (6, j))
  | 0, _ => gk_2 (i := 1) rfl
  | j + 1, h => absurd h (by omega)
set_option maxRecDepth 100000 in
theorem cc_7 : ∀ j, j < 4 → (LfC (eK l dC dI dA b tx wv) b)[posC (7, j)]? = some (eg_cel (eK l dC dI dA b tx wv) gC M0 (7, j))
  | 0, _ => gk_T0 (i := 0) rfl
  | 1, _ => gk_T1 (i := 0) rfl
  | 2, _ => gk_T2 (i := 0) rfl
  | 3, _ => gk_T3 (i := 0) rfl
  | j + 4, h => absurd h (by omega)
set_option maxRecDepth 100000 in
theorem cc_8 : ∀ j, j < 1 → (LfC (eK l dC dI dA b tx wv) b)[posC (8, j)]? = some (eg_cel (eK l dC dI dA b tx wv) gC M0 (8, j))
  | 0, _ => gk_s101
  | j + 1, h => absurd h (by omega)
set_option maxRecDepth 100000 in
theorem cc_9 : ∀ j, j < 1 → (LfC (eK l dC dI dA b tx wv) b)[posC (9, j)]? = some (eg_cel (eK l dC dI dA b tx wv) gC M0 (9, j))
  | 0, _ => gk_2 (i := 2) rfl
  | j + 1, h => absurd h (by omega)
set_option maxRecDepth 100000 in
theorem cc_10 : ∀ j, j < 1 → (LfC (eK l dC dI dA b tx wv) b)[posC (10, j)]? = some (eg_cel (eK l dC dI dA b tx wv) gC M0 (10, j))
  | 0, _ => rfl
  | j + 1, h => absurd h (by omega)
set_option maxRecDepth 100000 in
theorem cc_20 : ∀ j, j < 30 → (LfC (eK l dC dI dA b tx wv) b)[posC (20, j)]? = some (eg_cel (eK l dC dI dA b tx wv) gC M0 (20, j))
  | 0, _ => gk_P0 (i := 19) (by decide) (by decide) rfl
  | 1, _ => gk_P0 (i := 21) (by decide) (by decide) rfl
  | 2, _ => gk_P0 (i := 23) (by decide) (by decide) rfl
  | 3, _ => gk_P0 (i := 25) (by decide) (by decide) rfl
  | 4, _ => gk_P0 (i := 27) (by decide) (by decide) rfl
  | 5, _ => gk_P0 (i := 29) (by decide) (by decide) rfl
  | 6, _ => gk_P0 (i := 31) (by decide) (by decide) rfl
  | 7, _ => gk_P0 (i := 33) (by decide) (by decide) rfl
  | 8, _ => gk_P0 (i := 35) (by decide) (by decide) rfl
  | 9, _ => gk_P0 (i := 37) (by decide) (by decide) rfl
  | 10, _ => gk_P0 (i := 39) (by decide) (by decide) rfl
  | 11, _ => gk_P0 (i := 41) (by decide) (by decide) rfl
  | 12, _ => gk_P0 (i := 43) (by decide) (by decide) rfl
  | 13, _ => gk_P0 (i := 45) (by decide) (by decide) rfl
  | 14, _ => gk_P0 (i := 47) (by decide) (by decide) rfl
  | 15, _ => gk_P1 (i := 19) (by decide) (by decide) rfl
  | 16, _ => gk_P1 (i := 21) (by decide) (by decide) rfl
  | 17, _ => gk_P1 (i := 23) (by decide) (by decide) rfl
  | 18, _ => gk_P1 (i := 25) (by decide) (by decide) rfl
  | 19, _ => gk_P1 (i := 27) (by decide) (by decide) rfl
  | 20, _ => gk_P1 (i := 29) (by decide) (by decide) rfl
  | 21, _ => gk_P1 (i := 31) (by decide) (by decide) rfl
  | 22, _ => gk_P1 (i := 33) (by decide) (by decide) rfl
  | 23, _ => gk_P1 (i := 35) (by decide) (by decide) rfl
  | 24, _ => gk_P1 (i := 37) (by decide) (by decide) rfl
  | 25, _ => gk_P1 (i := 39) (by decide) (by decide) rfl
  | 26, _ => gk_P1 (i := 41) (by decide) (by decide) rfl
  | 27, _ => gk_P1 (i := 43) (by decide) (by decide) rfl
  | 28, _ => gk_P1 (i := 45) (by decide) (by decide) rfl
  | 29, _ => gk_P1 (i := 47) (by decide) (by decide) rfl
  | j + 30, h => absurd h (by omega)
set_option maxRecDepth 100000 in
theorem cc_22 : ∀ j, j < 60 → (LfC (eK l dC dI dA b tx wv) b)[posC (22, j)]? = some (eg_cel (eK l dC dI dA b tx wv) gC M0 (22, j))
  | 0, _ => gk_T0 (i := 11) rfl
  | 1, _ => gk_T0 (i := 13) rfl
  | 2, _ => gk_T0 (i := 15) rfl
  | 3, _ => gk_T0 (i := 17) rfl
  | 4, _ => gk_T0 (i := 19) rfl
  | 5, _ => gk_T0 (i := 21) rfl
  | 6, _ => gk_T0 (i := 23) rfl
  | 7, _ => gk_T0 (i := 25) rfl
  | 8, _ => gk_T0 (i := 27) rfl
  | 9, _ => gk_T0 (i := 29) rfl
  | 10, _ => gk_T0 (i := 31) rfl
  | 11, _ => gk_T0 (i := 33) rfl
  | 12, _ => gk_T0 (i := 35) rfl
  | 13, _ => gk_T0 (i := 37) rfl
  | 14, _ => gk_T0 (i := 39) rfl
  | 15, _ => gk_T1 (i := 11) rfl
  | 16, _ => gk_T1 (i := 13) rfl
  | 17, _ => gk_T1 (i := 15) rfl
  | 18, _ => gk_T1 (i := 17) rfl
  | 19, _ => gk_T1 (i := 19) rfl
  | 20, _ => gk_T1 (i := 21) rfl
  | 21, _ => gk_T1 (i := 23) rfl
  | 22, _ => gk_T1 (i := 25) rfl
  | 23, _ => gk_T1 (i := 27) rfl
  | 24, _ => gk_T1 (i := 29) rfl
  | 25, _ => gk_T1 (i := 31) rfl
  | 26, _ => gk_T1 (i := 33) rfl
  | 27, _ => gk_T1 (i := 35) rfl
  | 28, _ => gk_T1 (i := 37) rfl
  | 29, _ => gk_T1 (i := 39) rfl
  | 30, _ => gk_T2 (i := 11) rfl
  | 31, _ => gk_T2 (i := 13) rfl
  | 32, _ => gk_T2 (i := 15) rfl
  | 33, _ => gk_T2 (i := 17) rfl
  | 34, _ => gk_T2 (i := 19) rfl
  | 35, _ => gk_T2 (i := 21) rfl
  | 36, _ => gk_T2 (i := 23) rfl
  | 37, _ => gk_T2 (i := 25) rfl
  | 38, _ => gk_T2 (i := 27) rfl
  | 39, _ => gk_T2 (i := 29) rfl
  | 40, _ => gk_T2 (i := 31) rfl
  | 41, _ => gk_T2 (i := 33) rfl
  | 42, _ => gk_T2 (i := 35) rfl
  | 43, _ => gk_T2 (i := 37) rfl
  | 44, _ => gk_T2 (i := 39) rfl
  | 45, _ => gk_T3 (i := 11) rfl
  | 46, _ => gk_T3 (i := 13) rfl
  | 47, _ => gk_T3 (i := 15) rfl
  | 48, _ => gk_T3 (i := 17) rfl
  | 49, _ => gk_T3 (i := 19) rfl
  | 50, _ => gk_T3 (i := 21) rfl
  | 51, _ => gk_T3 (i := 23) rfl
  | 52, _ => gk_T3 (i := 25) rfl
  | 53, _ => gk_T3 (i := 27) rfl
  | 54, _ => gk_T3 (i := 29) rfl
  | 55, _ => gk_T3 (i := 31) rfl
  | 56, _ => gk_T3 (i := 33) rfl
  | 57, _ => gk_T3 (i := 35) rfl
  | 58, _ => gk_T3 (i := 37) rfl
  | 59, _ => gk_T3 (i := 39) rfl
  | j + 60, h => absurd h (by omega)
set_option maxRecDepth 100000 in
theorem cc_23 : ∀ j, j < 2 → (LfC (eK l dC dI dA b tx wv) b)[posC (23, j)]? = some (eg_cel (eK l dC dI dA b tx wv) gC M0 (23, j))
  | 0, _ => gk_P0 (i := 8) (by decide) (by decide) rfl
  | 1, _ => gk_P1 (i := 8) (by decide) (by decide) rfl
  | j + 2, h => absurd h (by omega)
set_option maxRecDepth 100000 in
theorem cc_24 : ∀ j, j < 2 → (LfC (eK l dC dI dA b tx wv) b)[posC (24, j)]? = some (eg_cel (eK l dC dI dA b tx wv) gC M0 (24, j))
  | 0, _ => gk_P0 (i := 9) (by decide) (by decide) rfl
  | 1, _ => gk_P1 (i := 9) (by decide) (by decide) rfl
  | j + 2, h => absurd h (by omega)
set_option maxRecDepth 100000 in
theorem cc_25 : ∀ j, j < 2 → (LfC (eK l dC dI dA b tx wv) b)[posC (25, j)]? = some (eg_cel (eK l dC dI dA b tx wv) gC M0 (25, j))
  | 0, _ => gk_P0 (i := 10) (by decide) (by decide) rfl
  | 1, _ => gk_P1 (i := 10) (by decide) (by decide) rfl
  | j + 2, h => absurd h (by omega)
set_option maxRecDepth 100000 in
theorem cc_26 : ∀ j, j < 2 → (LfC (eK l dC dI dA b tx wv) b)[posC (26, j)]? = some (eg_cel (eK l dC dI dA b tx wv) gC M0 (26, j))
  | 0, _ => gk_P0 (i := 11) (by decide) (by decide) rfl
  | 1, _ => gk_P1 (i := 11) (by decide) (by decide) rfl
  | j + 2, h => absurd h (by omega)
set_option maxRecDepth 100000 in
theorem cc_27 : ∀ j, j < 2 → (LfC (eK l dC dI dA b tx wv) b)[posC (27, j)]? = some (eg_cel (eK l dC dI dA b tx wv) gC M0 (27, j))
  | 0, _ => gk_P0 (i := 12) (by decide) (by decide) rfl
  | 1, _ => gk_P1 (i := 12) (by decide) (by decide) rfl
  | j + 2, h => absurd h (by omega)
set_option maxRecDepth 100000 in
theorem cc_32 : ∀ j, j < 2 → (LfC (eK l dC dI dA b tx wv) b)[posC (32, j)]? = some (eg_cel (eK l dC dI dA b tx wv) gC M0 (32, j))
  | 0, _ => gk_P0 (i := 3) (by decide) (by decide) rfl
  | 1, _ => gk_P1 (i := 3) (by decide) (by decide) rfl
  | j + 2, h => absurd h (by omega)
set_option maxRecDepth 100000 in
theorem cc_33 : ∀ j, j < 2 → (LfC (eK l dC dI dA b tx wv) b)[posC (33, j)]? = some (eg_cel (eK l dC dI dA b tx wv) gC M0 (33, j))
  | 0, _ => gk_P0 (i := 4) (by decide) (by decide) rfl
  | 1, _ => gk_P1 (i := 4) (by decide) (by decide) rfl
  | j + 2, h => absurd h (by omega)
set_option maxRecDepth 100000 in
theorem cc_34 : ∀ j, j < 2 → (LfC (eK l dC dI dA b tx wv) b)[posC (34, j)]? = some (eg_cel (eK l dC dI dA b tx wv) gC M0 (34, j))
  | 0, _ => gk_P0 (i := 5) (by decide) (by decide) rfl
  | 1, _ => gk_P1 (i := 5) (by decide) (by decide) rfl
  | j + 2, h => absurd h (by omega)
set_option maxRecDepth 100000 in
theorem cc_35 : ∀ j, j < 2 → (LfC (eK l dC dI dA b tx wv) b)[posC (35, j)]? = some (eg_cel (eK l dC dI dA b tx wv) gC M0 (35, j))
  | 0, _ => gk_s10
  | 1, _ => gk_s58
  | j + 2, h => absurd h (by omega)
set_option maxRecDepth 100000 in
theorem cc_36 : ∀ j, j < 1 → (LfC (eK l dC dI dA b tx wv) b)[posC (36, j)]? = some (eg_cel (eK l dC dI dA b tx wv) gC M0 (36, j))
  | 0, _ => gk_2 (i := 3) rfl
  | j + 1, h => absurd h (by omega)
set_option maxRecDepth 100000 in
theorem cc_40 : ∀ j, j < 4 → (LfC (eK l dC dI dA b tx wv) b)[posC (40, j)]? = some (eg_cel (eK l dC dI dA b tx wv) gC M0 (40, j))
  | 0, _ => gk_T0 (i := 1) rfl
  | 1, _ => gk_T1 (i := 1) rfl
  | 2, _ => gk_T2 (i := 1) rfl
  | 3, _ => gk_T3 (i := 1) rfl
  | j + 4, h => absurd h (by omega)
set_option maxRecDepth 100000 in
theorem cc_43 : ∀ j, j < 4 → (LfC (eK l dC dI dA b tx wv) b)[posC (43, j)]? = some (eg_cel (eK l dC dI dA b tx wv) gC M0 (43, j))
  | 0, _ => gk_T0 (i := 4) rfl
  | 1, _ => gk_T1 (i := 4) rfl
  | 2, _ => gk_T2 (i := 4) rfl
  | 3, _ => gk_T3 (i := 4) rfl
  | j + 4, h => absurd h (by omega)
set_option maxRecDepth 100000 in
theorem cc_44 : ∀ j, j < 1 → (LfC (eK l dC dI dA b tx wv) b)[posC (44, j)]? = some (eg_cel (eK l dC dI dA b tx wv) gC M0 (44, j))
  | 0, _ => gk_B (i := 1) (by decide) rfl
  | j + 1, h => absurd h (by omega)
set_option maxRecDepth 100000 in
theorem cc_45 : ∀ j, j < 1 → (LfC (eK l dC dI dA b tx wv) b)[posC (45, j)]? = some (eg_cel (eK l dC dI dA b tx wv) gC M0 (45, j))
  | 0, _ => gk_B (i := 2) (by decide) rfl
  | j + 1, h => absurd h (by omega)
set_option maxRecDepth 100000 in
theorem cc_46 : ∀ j, j < 1 → (LfC (eK l dC dI dA b tx wv) b)[posC (46, j)]? = some (eg_cel (eK l dC dI dA b tx wv) gC M0 (46, j))
  | 0, _ => gk_B (i := 3) (by decide) rfl
  | j + 1, h => absurd h (by omega)
set_option maxRecDepth 100000 in
theorem cc_47 : ∀ j, j < 1 → (LfC (eK l dC dI dA b tx wv) b)[posC (47, j)]? = some (eg_cel (eK l dC dI dA b tx wv) gC M0 (47, j))
  | 0, _ => gk_B (i := 4) (by decide) rfl
  | j + 1, h => absurd h (by omega)
set_option maxRecDepth 100000 in
theorem cc_48 : ∀ j, j < 1 → (LfC (eK l dC dI dA b tx wv) b)[posC (48, j)]? = some (eg_cel (eK l dC dI dA b tx wv) gC M0 (48, j))
  | 0, _ => gk_B (i := 5) (by decide) rfl
  | j + 1, h => absurd h (by omega)
set_option maxRecDepth 100000 in
theorem cc_50 : ∀ j, j < 1 → (LfC (eK l dC dI dA b tx wv) b)[posC (50, j)]? = some (eg_cel (eK l dC dI dA b tx wv) gC M0 (50, j))
  | 0, _ => gk_2 (i := 0) rfl
  | j + 1, h => absurd h (by omega)
set_option maxRecDepth 100000 in
theorem cc_51 : ∀ j, j < 1 → (LfC (eK l dC dI dA b tx wv) b)[posC (51, j)]? = some (eg_cel (eK l dC dI dA b tx wv) gC M0 (51, j))
  | 0, _ => gk_5
  | j + 1, h => absurd h (by omega)
set_option maxRecDepth 100000 in
theorem cc_52 : ∀ j, j < 1 → (LfC (eK l dC dI dA b tx wv) b)[posC (52, j)]? = some (eg_cel (eK l dC dI dA b tx wv) gC M0 (52, j))
  | 0, _ => gk_7
  | j + 1, h => absurd h (by omega)
set_option maxRecDepth 100000 in
theorem cc_53 : ∀ j, j < 1 → (LfC (eK l dC dI dA b tx wv) b)[posC (53, j)]? = some (eg_cel (eK l dC dI dA b tx wv) gC M0 (53, j))
  | 0, _ => gk_88
  | j + 1, h => absurd h (by omega)
set_option maxRecDepth 100000 in
theorem ca_30_0 : (LfC (eK l dC dI dA b tx wv) b)[posC (30, 0)]? = some (rfA (eK l dC dI dA b tx wv) 4 5 (adF (b + (1 + (4 + 1) + 12)) 1 5)) := gk_P0 (i := 1) (by decide) (by decide) rfl
theorem cb_30_0 : ∀ i, i < 5 → adF (b + (1 + (4 + 1) + 12)) 1 5 i = some (kad (eK l dC dI dA b tx wv) (gC.2.2 (30, 0) i))
  | 0, _ => rfl
  | 1, _ => rfl
  | 2, _ => rfl
  | 3, _ => rfl
  | 4, _ => rfl
  | i + 5, h => absurd h (by omega)
set_option maxRecDepth 100000 in
theorem ca_30_1 : (LfC (eK l dC dI dA b tx wv) b)[posC (30, 1)]? = some (rfA (eK l dC dI dA b tx wv) 4 5 (adF (b + (1 + (52 + 1) + 12)) 1 5)) := gk_P1 (i := 1) (by decide) (by decide) rfl
theorem cb_30_1 : ∀ i, i < 5 → adF (b + (1 + (52 + 1) + 12)) 1 5 i = some (kad (eK l dC dI dA b tx wv) (gC.2.2 (30, 1) i))
  | 0, _ => rfl
  | 1, _ => rfl
  | 2, _ => rfl
  | 3, _ => rfl
  | 4, _ => rfl
  | i + 5, h => absurd h (by omega)
set_option maxRecDepth 100000 in
theorem ca_31_0 : (LfC (eK l dC dI dA b tx wv) b)[posC (31, 0)]? = some (rfA (eK l dC dI dA b tx wv) 5 15 (adF (b + (1 + (4 + 1) + 17)) 2 15)) := gk_P0 (i := 2) (by decide) (by decide) rfl
theorem cb_31_0 : ∀ i, i < 15 → adF (b + (1 + (4 + 1) + 17)) 2 15 i = some (kad (eK l dC dI dA b tx wv) (gC.2.2 (31, 0) i))
  | 0, _ => rfl
  | 1, _ => rfl
  | 2, _ => rfl
  | 3, _ => rfl
  | 4, _ => rfl
  | 5, _ => rfl
  | 6, _ => rfl
  | 7, _ => rfl
  | 8, _ => rfl
  | 9, _ => rfl
  | 10, _ => rfl
  | 11, _ => rfl
  | 12, _ => rfl
  | 13, _ => rfl
  | 14, _ => rfl
  | i + 15, h => absurd h (by omega)
set_option maxRecDepth 100000 in
theorem ca_31_1 : (LfC (eK l dC dI dA b tx wv) b)[posC (31, 1)]? = some (rfA (eK l dC dI dA b tx wv) 5 15 (adF (b + (1 + (52 + 1) + 17)) 2 15)) := gk_P1 (i := 2) (by decide) (by decide) rfl
theorem cb_31_1 : ∀ i, i < 15 → adF (b + (1 + (52 + 1) + 17)) 2 15 i = some (kad (eK l dC dI dA b tx wv) (gC.2.2 (31, 1) i))
  | 0, _ => rfl
  | 1, _ => rfl
  | 2, _ => rfl
  | 3, _ => rfl
  | 4, _ => rfl
  | 5, _ => rfl
  | 6, _ => rfl
  | 7, _ => rfl
  | 8, _ => rfl
  | 9, _ => rfl
  | 10, _ => rfl
  | 11, _ => rfl
  | 12, _ => rfl
  | 13, _ => rfl
  | 14, _ => rfl
  | i + 15, h => absurd h (by omega)
set_option maxRecDepth 100000 in
theorem ca_41_0 : (LfC (eK l dC dI dA b tx wv) b)[posC (41, 0)]? = some (rfA (eK l dC dI dA b tx wv) 6 5 (adF (b + (1 + (109 + 1) + 4)) 1 5)) := gk_T0 (i := 2) rfl
theorem cb_41_0 : ∀ i, i < 5 → adF (b + (1 + (109 + 1) + 4)) 1 5 i = some (kad (eK l dC dI dA b tx wv) (gC.2.2 (41, 0) i))
  | 0, _ => rfl
  | 1, _ => rfl
  | 2, _ => rfl
  | 3, _ => rfl
  | 4, _ => rfl
  | i + 5, h => absurd h (by omega)
set_option maxRecDepth 100000 in
theorem ca_41_1 : (LfC (eK l dC dI dA b tx wv) b)[posC (41, 1)]? = some (rfA (eK l dC dI dA b tx wv) 6 5 (adF (b + (1 + (149 + 1) + 4)) 1 5)) := gk_T1 (i := 2) rfl
theorem cb_41_1 : ∀ i, i < 5 → adF (b + (1 + (149 + 1) + 4)) 1 5 i = some (kad (eK l dC dI dA b tx wv) (gC.2.2 (41, 1) i))
  | 0, _ => rfl
  | 1, _ => rfl
  | 2, _ => rfl
  | 3, _ => rfl
  | 4, _ => rfl
  | i + 5, h => absurd h (by omega)
set_option maxRecDepth 100000 in
theorem ca_41_2 : (LfC (eK l dC dI dA b tx wv) b)[posC (41, 2)]? = some (rfA (eK l dC dI dA b tx wv) 6 5 (adF (b + (1 + (189 + 1) + 4)) 1 5)) := gk_T2 (i := 2) rfl
theorem cb_41_2 : ∀ i, i < 5 → adF (b + (1 + (189 + 1) + 4)) 1 5 i = some (kad (eK l dC dI dA b tx wv) (gC.2.2 (41, 2) i))
  | 0, _ => rfl
  | 1, _ => rfl
  | 2, _ => rfl
  | 3, _ => rfl
  | 4, _ => rfl
  | i + 5, h => absurd h (by omega)
set_option maxRecDepth 100000 in
theorem ca_41_3 : (LfC (eK l dC dI dA b tx wv) b)[posC (41, 3)]? = some (rfA (eK l dC dI dA b tx wv) 6 5 (adF (b + (1 + (229 + 1) + 4)) 1 5)) := gk_T3 (i := 2) rfl
theorem cb_41_3 : ∀ i, i < 5 → adF (b + (1 + (229 + 1) + 4)) 1 5 i = some (kad (eK l dC dI dA b tx wv) (gC.2.2 (41, 3) i))
  | 0, _ => rfl
  | 1, _ => rfl
  | 2, _ => rfl
  | 3, _ => rfl
  | 4, _ => rfl
  | i + 5, h => absurd h (by omega)
set_option maxRecDepth 100000 in
theorem ca_42_0 : (LfC (eK l dC dI dA b tx wv) b)[posC (42, 0)]? = some (rfA (eK l dC dI dA b tx wv) 7 15 (adF (b + (1 + (109 + 1) + 9)) 2 15)) := gk_T0 (i := 3) rfl
theorem cb_42_0 : ∀ i, i < 15 → adF (b + (1 + (109 + 1) + 9)) 2 15 i = some (kad (eK l dC dI dA b tx wv) (gC.2.2 (42, 0) i))
  | 0, _ => rfl
  | 1, _ => rfl
  | 2, _ => rfl
  | 3, _ => rfl
  | 4, _ => rfl
  | 5, _ => rfl
  | 6, _ => rfl
  | 7, _ => rfl
  | 8, _ => rfl
  | 9, _ => rfl
  | 10, _ => rfl
  | 11, _ => rfl
  | 12, _ => rfl
  | 13, _ => rfl
  | 14, _ => rfl
  | i + 15, h => absurd h (by omega)
set_option maxRecDepth 100000 in
theorem ca_42_1 : (LfC (eK l dC dI dA b tx wv) b)[posC (42, 1)]? = some (rfA (eK l dC dI dA b tx wv) 7 15 (adF (b + (1 + (149 + 1) + 9)) 2 15)) := gk_T1 (i := 3) rfl
theorem cb_42_1 : ∀ i, i < 15 → adF (b + (1 + (149 + 1) + 9)) 2 15 i = some (kad (eK l dC dI dA b tx wv) (gC.2.2 (42, 1) i))
  | 0, _ => rfl
  | 1, _ => rfl
  | 2, _ => rfl
  | 3, _ => rfl
  | 4, _ => rfl
  | 5, _ => rfl
  | 6, _ => rfl
  | 7, _ => rfl
  | 8, _ => rfl
  | 9, _ => rfl
  | 10, _ => rfl
  | 11, _ => rfl
  | 12, _ => rfl
  | 13, _ => rfl
  | 14, _ => rfl
  | i + 15, h => absurd h (by omega)
set_option maxRecDepth 100000 in
theorem ca_42_2 : (LfC (eK l dC dI dA b tx wv) b)[posC (42, 2)]? = some (rfA (eK l dC dI dA b tx wv) 7 15 (adF (b + (1 + (189 + 1) + 9)) 2 15)) := gk_T2 (i := 3) rfl
theorem cb_42_2 : ∀ i, i < 15 → adF (b + (1 + (189 + 1) + 9)) 2 15 i = some (kad (eK l dC dI dA b tx wv) (gC.2.2 (42, 2) i))
  | 0, _ => rfl
  | 1, _ => rfl
  | 2, _ => rfl
  | 3, _ => rfl
  | 4, _ => rfl
  | 5, _ => rfl
  | 6, _ => rfl
  | 7, _ => rfl
  | 8, _ => rfl
  | 9, _ => rfl
  | 10, _ => rfl
  | 11, _ => rfl
  | 12, _ => rfl
  | 13, _ => rfl
  | 14, _ => rfl
  | i + 15, h => absurd h (by omega)
set_option maxRecDepth 100000 in
theorem ca_42_3 : (LfC (eK l dC dI dA b tx wv) b)[posC (42, 3)]? = some (rfA (eK l dC dI dA b tx wv) 7 15 (adF (b + (1 + (229 + 1) + 9)) 2 15)) := gk_T3 (i := 3) rfl
theorem cb_42_3 : ∀ i, i < 15 → adF (b + (1 + (229 + 1) + 9)) 2 15 i = some (kad (eK l dC dI dA b tx wv) (gC.2.2 (42, 3) i))
  | 0, _ => rfl
  | 1, _ => rfl
  | 2, _ => rfl
  | 3, _ => rfl
  | 4, _ => rfl
  | 5, _ => rfl
  | 6, _ => rfl
  | 7, _ => rfl
  | 8, _ => rfl
  | 9, _ => rfl
  | 10, _ => rfl
  | 11, _ => rfl
  | 12, _ => rfl
  | 13, _ => rfl
  | 14, _ => rfl
  | i + 15, h => absurd h (by omega)
set_option maxRecDepth 100000 in
theorem cm_60 : (LfM (eK l dC dI dA b tx wv) (b + 270))[posM (60, 0)]? = some (eg_cel (eK l dC dI dA b tx wv) gM Nz (60, 0)) := rfl
set_option maxRecDepth 100000 in
theorem cm_61 : (LfM (eK l dC dI dA b tx wv) (b + 270))[posM (61, 0)]? = some (eg_cel (eK l dC dI dA b tx wv) gM Nz (61, 0)) := rfl
set_option maxRecDepth 100000 in
theorem cm_64 : (LfM (eK l dC dI dA b tx wv) (b + 270))[posM (64, 0)]? = some (eg_cel (eK l dC dI dA b tx wv) gM Nz (64, 0)) := rfl
set_option maxRecDepth 100000 in
theorem cm_88 : (LfM (eK l dC dI dA b tx wv) (b + 270))[posM (88, 0)]? = some (eg_cel (eK l dC dI dA b tx wv) gM Nz (88, 0)) := rfl
set_option maxRecDepth 100000 in
theorem cm_89 : (LfM (eK l dC dI dA b tx wv) (b + 270))[posM (89, 0)]? = some (eg_cel (eK l dC dI dA b tx wv) gM Nz (89, 0)) := rfl
set_option maxRecDepth 100000 in
theorem cm_90 : (LfM (eK l dC dI dA b tx wv) (b + 270))[posM (90, 0)]? = some (eg_cel (eK l dC dI dA b tx wv) gM Nz (90, 0)) := rfl
set_option maxRecDepth 100000 in
theorem cm_91 : (LfM (eK l dC dI dA b tx wv) (b + 270))[posM (91, 0)]? = some (eg_cel (eK l dC dI dA b tx wv) gM Nz (91, 0)) := rfl
set_option maxRecDepth 100000 in
theorem cm_92 : (LfM (eK l dC dI dA b tx wv) (b + 270))[posM (92, 0)]? = some (eg_cel (eK l dC dI dA b tx wv) gM Nz (92, 0)) := rfl
set_option maxRecDepth 100000 in
theorem cm_93 : (LfM (eK l dC dI dA b tx wv) (b + 270))[posM (93, 0)]? = some (eg_cel (eK l dC dI dA b tx wv) gM Nz (93, 0)) := rfl
set_option maxRecDepth 100000 in
theorem cm_94 : (LfM (eK l dC dI dA b tx wv) (b + 270))[posM (94, 0)]? = some (eg_cel (eK l dC dI dA b tx wv) gM Nz (94, 0)) := rfl
set_option maxRecDepth 100000 in
theorem cm_95 : (LfM (eK l dC dI dA b tx wv) (b + 270))[posM (95, 0)]? = some (eg_cel (eK l dC dI dA b tx wv) gM Nz (95, 0)) := rfl
set_option maxRecDepth 100000 in
theorem cm_96 : (LfM (eK l dC dI dA b tx wv) (b + 270))[posM (96, 0)]? = some (eg_cel (eK l dC dI dA b tx wv) gM Nz (96, 0)) := rfl
set_option maxRecDepth 100000 in
theorem cm_97 : (LfM (eK l dC dI dA b tx wv) (b + 270))[posM (97, 0)]? = some (eg_cel (eK l dC dI dA b tx wv) gM Nz (97, 0)) := rfl
set_option maxRecDepth 100000 in
theorem cm_98 : (LfM (eK l dC dI dA b tx wv) (b + 270))[posM (98, 0)]? = some (eg_cel (eK l dC dI dA b tx wv) gM Nz (98, 0)) := rfl
set_option maxRecDepth 100000 in
theorem cm_99 : (LfM (eK l dC dI dA b tx wv) (b + 270))[posM (99, 0)]? = some (eg_cel (eK l dC dI dA b tx wv) gM Nz (99, 0)) := rfl
set_option maxRecDepth 100000 in
theorem cm_100 : (LfM (eK l dC dI dA b tx wv) (b + 270))[posM (100, 0)]? = some (eg_cel (eK l dC dI dA b tx wv) gM Nz (100, 0)) := rfl
set_option maxRecDepth 100000 in
theorem cm_101 : (LfM (eK l dC dI dA b tx wv) (b + 270))[posM (101, 0)]? = some (eg_cel (eK l dC dI dA b tx wv) gM Nz (101, 0)) := rfl
set_option maxRecDepth 100000 in
theorem cm_102 : (LfM (eK l dC dI dA b tx wv) (b + 270))[posM (102, 0)]? = some (eg_cel (eK l dC dI dA b tx wv) gM Nz (102, 0)) := rfl
set_option maxRecDepth 100000 in
theorem cm_103 : (LfM (eK l dC dI dA b tx wv) (b + 270))[posM (103, 0)]? = some (eg_cel (eK l dC dI dA b tx wv) gM Nz (103, 0)) := rfl
set_option maxRecDepth 100000 in
theorem cm_110 : (LfM (eK l dC dI dA b tx wv) (b + 270))[posM (110, 0)]? = some (eg_cel (eK l dC dI dA b tx wv) gM Nz (110, 0)) := rfl
set_option maxRecDepth 100000 in
theorem cm_111 : (LfM (eK l dC dI dA b tx wv) (b + 270))[posM (111, 0)]? = some (eg_cel (eK l dC dI dA b tx wv) gM Nz (111, 0)) := rfl
set_option maxRecDepth 100000 in
theorem cm_112 : (LfM (eK l dC dI dA b tx wv) (b + 270))[posM (112, 0)]? = some (eg_cel (eK l dC dI dA b tx wv) gM Nz (112, 0)) := rfl
set_option maxRecDepth 100000 in
theorem cm_125 : (LfM (eK l dC dI dA b tx wv) (b + 270))[posM (125, 0)]? = some (eg_cel (eK l dC dI dA b tx wv) gM Nz (125, 0)) := rfl
set_option maxRecDepth 100000 in
theorem cm_126 : (LfM (eK l dC dI dA b tx wv) (b + 270))[posM (126, 0)]? = some (eg_cel (eK l dC dI dA b tx wv) gM Nz (126, 0)) := rfl
set_option maxRecDepth 100000 in
theorem cm_127 : (LfM (eK l dC dI dA b tx wv) (b + 270))[posM (127, 0)]? = some (eg_cel (eK l dC dI dA b tx wv) gM Nz (127, 0)) := rfl
set_option maxRecDepth 100000 in
theorem cm_128 : (LfM (eK l dC dI dA b tx wv) (b + 270))[posM (128, 0)]? = some (eg_cel (eK l dC dI dA b tx wv) gM Nz (128, 0)) := rfl
set_option maxRecDepth 100000 in
theorem cm_131 : (LfM (eK l dC dI dA b tx wv) (b + 270))[posM (131, 0)]? = some (eg_cel (eK l dC dI dA b tx wv) gM Nz (131, 0)) := rfl
set_option maxRecDepth 100000 in
theorem cm_132 : (LfM (eK l dC dI dA b tx wv) (b + 270))[posM (132, 0)]? = some (eg_cel (eK l dC dI dA b tx wv) gM Nz (132, 0)) := rfl
set_option maxRecDepth 100000 in
theorem cm_133 : (LfM (eK l dC dI dA b tx wv) (b + 270))[posM (133, 0)]? = some (eg_cel (eK l dC dI dA b tx wv) gM Nz (133, 0)) := rfl
set_option maxRecDepth 100000 in
theorem cm_136 : (LfM (eK l dC dI dA b tx wv) (b + 270))[posM (136, 0)]? = some (eg_cel (eK l dC dI dA b tx wv) gM Nz (136, 0)) := rfl
set_option maxRecDepth 100000 in
theorem cm_137 : (LfM (eK l dC dI dA b tx wv) (b + 270))[posM (137, 0)]? = some (eg_cel (eK l dC dI dA b tx wv) gM Nz (137, 0)) := rfl
set_option maxRecDepth 100000 in
theorem cm_138 : (LfM (eK l dC dI dA b tx wv) (b + 270))[posM (138, 0)]? = some (eg_cel (eK l dC dI dA b tx wv) gM Nz (138, 0)) := rfl
set_option maxRecDepth 100000 in
theorem cm_139 : (LfM (eK l dC dI dA b tx wv) (b + 270))[posM (139, 0)]? = some (eg_cel (eK l dC dI dA b tx wv) gM Nz (139, 0)) := rfl
set_option maxRecDepth 100000 in
theorem cm_140 : (LfM (eK l dC dI dA b tx wv) (b + 270))[posM (140, 0)]? = some (eg_cel (eK l dC dI dA b tx wv) gM Nz (140, 0)) := rfl
set_option maxRecDepth 100000 in
theorem cm_142 : (LfM (eK l dC dI dA b tx wv) (b + 270))[posM (142, 0)]? = some (eg_cel (eK l dC dI dA b tx wv) gM Nz (142, 0)) := rfl
end CELLS
