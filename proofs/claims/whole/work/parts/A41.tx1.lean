/-! WHAT IS TOLD IS KEPT: the model's second halves into the first -/
theorem nI_ad (a b : Nat) : nI a + nI b = nI (a + b) := (Int32.ofNat_add a b).symm
theorem nI_ml (a b : Nat) : nI a * nI b = nI (a * b) := (Int32.ofNat_mul a b).symm
def updN (f : Nat → Nat) (r v : Nat) : Nat → Nat := fun x => if x = r then v else f x
def KSx (N : eg_H) (f : Nat → Nat) (X : eg_H) : Prop := (∀ r, 88 ≤ r → r ≤ 101 → ∀ k, X.1 (r, 0) k = if k < f r then N.1 (r, 0) (k + kof r) else N.1 (r, 0) k) ∧ (∀ r, r = 61 ∨ r = 64 ∨ r = 110 → X.1 (r, 0) = N.1 (r, 0)) ∧ (∀ k, k < 12 → X.1 (60, 0) k = N.1 (60, 0) k) ∧ ∀ k, 12 ≤ k → k ≤ 18 → X.1 (60, 0) k = N.1 (60, 0) (k + 7)
theorem ks_f {N X : eg_H} (j : Nat) (h : ∀ k, X.1 (60, 0) k = if 12 ≤ k ∧ k < 12 + j then N.1 (60, 0) (k + 7) else N.1 (60, 0) k) : ∀ k, (sI X (60, 0) (12 + j) (X.1 (60, 0) (19 + j))).1 (60, 0) k = if 12 ≤ k ∧ k < 12 + (j + 1) then N.1 (60, 0) (k + 7) else N.1 (60, 0) k := by
  intro k
  rw [sI_60]
  by_cases c : k = 12 + j
  · rw [if_pos c, h (19 + j), if_neg (by omega), if_pos (by omega), show k + 7 = 19 + j by omega]
  · rw [if_neg c, h k]
    by_cases c2 : 12 ≤ k ∧ k < 12 + j
    · rw [if_pos c2, if_pos (by omega)]
    · rw [if_neg c2, if_neg (by omega)]
theorem KSx.o {N X : eg_H} {f : Nat → Nat} (h : KSx N f X) {r k : Nat} {x : Int32} (hr : r ≠ 60 ∧ r ≠ 61 ∧ r ≠ 64 ∧ r ≠ 110 ∧ (r < 88 ∨ 101 < r)) : KSx N f (sI X (r, 0) k x) := by
  obtain ⟨a, b, c, e⟩ := h
  refine ⟨fun z z1 z2 j => ?_, fun z hz => ?_, fun j hj => ?_, fun j h1 h2 => ?_⟩
  · rw [sI_ne (kd_ne (by omega))]; exact a z z1 z2 j
  · rw [sI_ne (kd_ne (by omega))]; exact b z hz
  · rw [sI_ne (kd_ne (by omega))]; exact c j hj
  · rw [sI_ne (kd_ne (by omega))]; exact e j h1 h2
theorem KSx.f6 {N X : eg_H} {f : Nat → Nat} (h : KSx N f X) {k : Nat} {x : Int32} (hk : 18 < k) : KSx N f (sI X (60, 0) k x) := by
  obtain ⟨a, b, c, e⟩ := h
  refine ⟨fun z z1 z2 j => ?_, fun z hz => ?_, fun j hj => ?_, fun j h1 h2 => ?_⟩
  · rw [sI_ne (kd_ne (by omega))]; exact a z z1 z2 j
  · rw [sI_ne (kd_ne (by omega))]; exact b z hz
  · rw [sI_60, if_neg (by omega)]; exact c j hj
  · rw [sI_60, if_neg (by omega)]; exact e j h1 h2
theorem KSx.w1 {N X : eg_H} {f : Nat → Nat} (h : KSx N f X) {r i : Nat} {x : Int32} (hr : 88 ≤ r ∧ r ≤ 101) (hf : f r = i) (hx : x = N.1 (r, 0) (i + kof r)) : KSx N (updN f r (i + 1)) (sI X (r, 0) i x) := by
  obtain ⟨a, b, c, e⟩ := h
  refine ⟨fun z z1 z2 j => ?_, fun z hz => ?_, fun j hj => ?_, fun j h1 h2 => ?_⟩
  · unfold updN
    by_cases c : z = r
    · rw [if_pos c, c, sI_rr]
      by_cases cj : j = i
      · rw [if_pos cj, if_pos (by omega), hx, cj]
      · rw [if_neg cj, a r hr.1 hr.2 j, hf]
        by_cases cl : j < i
        · rw [if_pos cl, if_pos (by omega)]
        · rw [if_neg cl, if_neg (by omega)]
    · rw [if_neg c, sI_ne (kd_ne c)]; exact a z z1 z2 j
  · rw [sI_ne (kd_ne (by omega))]; exact b z hz
  · rw [sI_ne (kd_ne (by omega))]; exact c j hj
  · rw [sI_ne (kd_ne (by omega))]; exact e j h1 h2
theorem KSx.cp {N X : eg_H} {f : Nat → Nat} (h : KSx N f X) (r : Nat) (c : Int32) (hr : 88 ≤ r ∧ r ≤ 101) (hf : f r = 0) (hc : c.toNatClampNeg = kof r) : KSx N (updN f r (kof r)) (fX11_copies X (r, 0) c) := by
  obtain ⟨a, b, d, e⟩ := h
  unfold fX11_copies
  rw [hc]
  refine ⟨fun z z1 z2 j => ?_, fun z hz => ?_, fun j hj => ?_, fun j h1 h2 => ?_⟩
  · unfold updN
    by_cases cz : z = r
    · rw [if_pos cz, cz, sW_at]
      by_cases cl : j < kof r
      · rw [cpT_lt cl, if_pos cl, a r hr.1 hr.2, hf, if_neg (by omega), Nat.add_comm]
      · rw [cpT_ge (by omega), if_neg cl, a r hr.1 hr.2, hf, if_neg (by omega)]
    · rw [if_neg cz, sW_ne _ _ (kd_ne cz)]; exact a z z1 z2 j
  · rw [sW_ne _ _ (kd_ne (by omega))]; exact b z hz
  · rw [sW_ne _ _ (kd_ne (by omega))]; exact d j hj
  · rw [sW_ne _ _ (kd_ne (by omega))]; exact e j h1 h2
theorem KSx.cong {N X : eg_H} {f g : Nat → Nat} (h : KSx N f X) (e : ∀ x, 88 ≤ x → x ≤ 101 → g x = f x) : KSx N g X := ⟨fun r a b k => by rw [e r a b]; exact h.1 r a b k, h.2⟩
/-- how far each row is copied -/
def kF (a b c : Nat) : Nat → Nat := fun x => if x = 91 then a else if x = 92 then b else if x = 93 then c else if x = 88 then 5 else if x = 89 then 30 else if x = 90 then 9 else 0
def kG (c : Nat) : Nat → Nat := fun x => if x = 98 then c else if x = 88 then 5 else if x = 89 then 30 else if x = 90 ∨ x = 91 ∨ x = 92 then 9 else if x = 93 then 45 else if x = 94 ∨ x = 95 then 4 else if x = 96 ∨ x = 97 then 7 else 0
def kH : Nat → Nat := fun x => if x = 98 then 3 else if x = 88 then 5 else if x = 89 then 30 else if x = 90 ∨ x = 91 ∨ x = 92 then 9 else if x = 93 then 45 else if x = 94 ∨ x = 95 then 4 else if x = 96 ∨ x = 97 then 7 else 64
/-- what stands when all is copied -/
def AK (N A : eg_H) : Prop := hlf (kp N) A ∧ (∀ k, 12 ≤ k → k ≤ 18 → A.1 (60, 0) k = (kp N).1 (60, 0) k) ∧ (∀ k, k < 12 → A.1 (60, 0) k = N.1 (60, 0) k) ∧ (A.1 (60, 0) 73 = 0 ∧ A.1 (60, 0) 74 = -1 ∧ A.1 (60, 0) 69 = 0 ∧ A.1 (60, 0) 80 = 0) ∧ (∀ k, k < 5 → A.1 (112, 0) k = nI k) ∧ ∀ r, r = 61 ∨ r = 64 ∨ r = 110 → A.1 (r, 0) = N.1 (r, 0)
theorem KSx.ak {N A : eg_H} (h : KSx N kH A) (h4 : A.1 (60, 0) 73 = 0 ∧ A.1 (60, 0) 74 = -1 ∧ A.1 (60, 0) 69 = 0 ∧ A.1 (60, 0) 80 = 0) (h5 : ∀ k, k < 5 → A.1 (112, 0) k = nI k) : AK N A := by
  obtain ⟨a, b, c, e⟩ := h
  have g : ∀ r, 88 ≤ r → r ≤ 101 → ∀ k, k < kH r → A.1 (r, 0) k = (kp N).1 (r, 0) k := fun r h1 h2 k hk => by
    rw [a r h1 h2 k, if_pos hk, kp_r N (show r ≠ 60 by omega)]
  refine ⟨⟨fun k hk => g 88 (by omega) (by omega) k hk, fun k hk => g 89 (by omega) (by omega) k hk, fun k hk => ⟨g 90 (by omega) (by omega) k hk, g 91 (by omega) (by omega) k hk, g 92 (by omega) (by omega) k hk⟩, fun k hk => g 93 (by omega) (by omega) k hk, fun k hk => ⟨g 94 (by omega) (by omega) k hk, g 95 (by omega) (by omega) k hk⟩, fun k hk => ⟨g 96 (by omega) (by omega) k hk, g 97 (by omega) (by omega) k hk⟩, fun k hk => g 98 (by omega) (by omega) k hk, fun k hk => ⟨g 99 (by omega) (by omega) k hk, g 100 (by omega) (by omega) k hk, g 101 (by omega) (by omega) k hk⟩⟩, fun k h1 h2 => ?_, c, h4, h5, b⟩
  rw [e k h1 h2, kp_60 N ⟨h1, h2⟩]
section
variable {κ : eg_K} {d : Nat} {N : eg_H} {P : eg_H → Prop}
theorem KT_252 (hd : 3 ≤ d) (h16 : N.1 (60, 0) 23 = 0 ∨ N.1 (60, 0) 23 = 1) (fin : ∀ A, AK N A → gX11_begins (fX11_clears A) ∧ P (fX11_lays (fX11_begins (fX11_clears A)) (111, 0) (110, 0))) {X : eg_H} (h : KSx N kH X) : eg_W κ gM mtX11_keepText d (eQV κ gM P) 252 [(0, vR (60, 0)), (1, vI (0 : Int32))] [] X := by
  refine eg_down (P := fun i => ∀ X, KSx N kH X → (∀ k, k < i → X.1 (112, 0) k = nI k) → eg_W κ gM mtX11_keepText d (eQV κ gM P) 252 [(0, vR (60, 0)), (1, vI (nI i))] [] X) 5 (fun i hi ih X h hk => ?_) (fun X h hk => ?_) X h (fun k hk => absurd hk (by omega))
  · refine vX11_keepText_252 hd X _ ⟨fun c => absurd ((nI_le' (a := 5) (by omega) (by omega)).mp c) (by omega), fun _ => ⟨nI_in' (by omega) (by omega), fun M16 e16 x17 e17 => ?_⟩⟩
    rw [e17, nI_1]
    rw [nI_t (by omega)] at e16
    refine ih M16 (by rw [e16]; exact h.o (by omega)) (fun k hk2 => ?_)
    rw [e16, sI_rr]
    by_cases c : k = i
    · rw [if_pos c, c]
    · rw [if_neg c]; exact hk k (by omega)
  · refine vX11_keepText_252 hd X _ ⟨fun _ M2 e2 M3 e3 M4 e4 M5 e5 => ?_, fun c => absurd ((nI_le' (a := 5) (b := 5) (by omega) (by omega)).mpr (by omega)) c⟩
    have k5 : KSx N kH M5 := by rw [e5, e4, e3, e2]; exact (((h.f6 (by omega)).f6 (by omega)).f6 (by omega)).f6 (by omega)
    have ak : AK N M5 := by
      refine k5.ak ⟨?_, ?_, ?_, ?_⟩ (fun k hk2 => ?_)
      · rw [e5, sI_60, if_neg (by decide), e4, sI_60, if_neg (by decide), e3, sI_60, if_neg (by decide), e2, sI_60, if_pos rfl]
      · rw [e5, sI_60, if_neg (by decide), e4, sI_60, if_neg (by decide), e3, sI_60, if_pos rfl]
      · rw [e5, sI_60, if_neg (by decide), e4, sI_60, if_pos rfl]
      · rw [e5, sI_60, if_pos rfl]
      · rw [e5, sI_ne (by decide), e4, sI_ne (by decide), e3, sI_ne (by decide), e2, sI_ne (by decide)]
        exact hk k hk2
    obtain ⟨f1, f2⟩ := fin M5 ak
    refine ⟨?_, fun M7 e7 => ⟨by rw [e7]; exact f1, fun M10 e10 => ⟨⟨by decide, rfl, rfl⟩, fun M13 e13 => ?_⟩⟩⟩
    · unfold gX11_clears
      rw [k5.2.2.2 16 (by omega) (by omega)]
      exact h16
    · rw [e13, e10, e7]; exact f2
theorem KT_198 (hd : 3 ≤ d) (h16 : N.1 (60, 0) 23 = 0 ∨ N.1 (60, 0) 23 = 1) (h98 : ∀ l, l < 3 → N.1 (98, 0) (3 + l) = 0 ∨ N.1 (98, 0) (3 + l) = 1) (fin : ∀ A, AK N A → gX11_begins (fX11_clears A) ∧ P (fX11_lays (fX11_begins (fX11_clears A)) (111, 0) (110, 0))) {X : eg_H} (h : KSx N (kG 0) X) : eg_W κ gM mtX11_keepText d (eQV κ gM P) 198 [(0, vR (60, 0)), (1, vI (0 : Int32))] [] X := by
  refine eg_down (P := fun i => ∀ X, KSx N (kG i) X → eg_W κ gM mtX11_keepText d (eQV κ gM P) 198 [(0, vR (60, 0)), (1, vI (nI i))] [] X) 3 (fun i hi ih X h => ?_) (fun X h => ?_) X h
  · refine vX11_keepText_198 (by omega) X _ ⟨fun c => absurd ((nI_le' (a := 3) (by omega) (by omega)).mp c) (by omega), fun _ => ?_⟩
    rw [show (3 : Int32) = nI 3 from rfl, nI_ad, nI_t (by omega), nI_t (by omega)]
    refine ⟨nI_in' (by omega) (by omega), nI_in' (by omega) (by omega), fun M13 e13 x14 e14 => ?_⟩
    rw [e14, nI_1]
    have v : X.1 (98, 0) (3 + i) = N.1 (98, 0) (3 + i) := by
      rw [h.1 98 (by omega) (by omega)]
      exact if_neg (show ¬ 3 + i < i by omega)
    refine ih M13 ?_
    rw [e13]
    refine (h.w1 (i := i) ⟨by omega, by omega⟩ rfl ?_).cong (fun x _ _ => ?_)
    · rw [v, show i + kof 98 = 3 + i from Nat.add_comm i 3]
      rcases h98 i hi with z | z <;> rw [z]
      · exact nar0
      · exact nar1
    · unfold updN kG
      by_cases c : x = 98
      · rw [if_pos c, if_pos c]
      · rw [if_neg c, if_neg c, if_neg c]
  · refine vX11_keepText_198 (by omega) X _ ⟨fun _ => ⟨⟨nI_in' (n := 64) (by omega) (by omega), by decide⟩, fun M3 e3 => ⟨⟨nI_in' (n := 64) (by omega) (by omega), by decide⟩, fun M6 e6 => ⟨⟨nI_in' (n := 64) (by omega) (by omega), by decide⟩, fun M9 e9 => ?_⟩⟩⟩, fun c => absurd ((nI_le' (a := 3) (b := 3) (by omega) (by omega)).mpr (by omega)) c⟩
    refine KT_252 hd h16 fin ?_
    have k3 := h.cp 99 64 (by omega) rfl (by decide)
    rw [← e3] at k3
    have k6 := k3.cp 100 64 (by omega) rfl (by decide)
    rw [← e6] at k6
    have k9 := k6.cp 101 64 (by omega) rfl (by decide)
    rw [← e9] at k9
    refine k9.cong (fun x h1 h2 => ?_)
    have : x = 88 ∨ x = 89 ∨ x = 90 ∨ x = 91 ∨ x = 92 ∨ x = 93 ∨ x = 94 ∨ x = 95 ∨ x = 96 ∨ x = 97 ∨ x = 98 ∨ x = 99 ∨ x = 100 ∨ x = 101 := by omega
    rcases this with z | z | z | z | z | z | z | z | z | z | z | z | z | z <;> subst z <;> rfl
theorem KT_84 (hd : 3 ≤ d) (h16 : N.1 (60, 0) 23 = 0 ∨ N.1 (60, 0) 23 = 1) (h98 : ∀ l, l < 3 → N.1 (98, 0) (3 + l) = 0 ∨ N.1 (98, 0) (3 + l) = 1) (fin : ∀ A, AK N A → gX11_begins (fX11_clears A) ∧ P (fX11_lays (fX11_begins (fX11_clears A)) (111, 0) (110, 0))) {X : eg_H} (h : KSx N (kF 0 0 0) X) : eg_W κ gM mtX11_keepText d (eQV κ gM P) 84 [(0, vR (60, 0)), (1, vI (0 : Int32))] [] X := by
  refine eg_down (P := fun i => ∀ X, KSx N (kF i i (5 * i)) X → eg_W κ gM mtX11_keepText d (eQV κ gM P) 84 [(0, vR (60, 0)), (1, vI (nI i))] [] X) 9 (fun i hi ih X h => ?_) (fun X h => ?_) X h
  · refine vX11_keepText_84 (by omega) X _ ⟨fun c => absurd ((nI_le' (a := 9) (by omega) (by omega)).mp c) (by omega), fun _ => ?_⟩
    rw [show (15 : Int32) = nI 15 from rfl, nI_ad, nI_t (by omega), nI_t (by omega)]
    refine ⟨nI_in' (by omega) (by omega), nI_in' (by omega) (by omega), fun M16 e16 M17 e17 => ?_⟩
    have v1 : X.1 (91, 0) (15 + i) = N.1 (91, 0) (i + kof 91) := by
      rw [h.1 91 (by omega) (by omega), show i + kof 91 = 15 + i from Nat.add_comm i 15]
      exact if_neg (show ¬ 15 + i < i by omega)
    have k16 : KSx N (updN (kF i i (5 * i)) 91 (i + 1)) M16 := by
      rw [e16]
      exact h.w1 (i := i) ⟨by omega, by omega⟩ rfl v1
    have v2 : M16.1 (92, 0) (15 + i) = N.1 (92, 0) (i + kof 92) := by
      rw [k16.1 92 (by omega) (by omega), show i + kof 92 = 15 + i from Nat.add_comm i 15]
      exact if_neg (show ¬ 15 + i < i by omega)
    have k17 : KSx N (kF (i + 1) (i + 1) (5 * i + 0)) M17 := by
      rw [e17]
      refine (k16.w1 (r := 92) (i := i) ⟨by omega, by omega⟩ rfl v2).cong (fun x _ _ => ?_)
      unfold updN kF
      by_cases c1 : x = 91
      · subst c1; rfl
      · by_cases c2 : x = 92
        · subst c2; rfl
        · simp only [if_neg c1, if_neg c2]; rfl
    clear e17 e16 k16 v1 v2 h
    refine eg_down (P := fun j => ∀ X, KSx N (kF (i + 1) (i + 1) (5 * i + j)) X → eg_W κ gM mtX11_keepText d (eQV κ gM P) 122 [(0, vR (60, 0)), (1, vI (nI i)), (2, vI (nI j))] [] X) 5 (fun j hj ihj X h => ?_) (fun X h => ?_) M17 k17
    · refine vX11_keepText_122 X _ _ ⟨fun c => absurd ((nI_le' (a := 5) (by omega) (by omega)).mp c) (by omega), fun _ => ?_⟩
      rw [show (75 : Int32) = nI 75 from rfl, show (5 : Int32) = nI 5 from rfl, nI_ml, nI_ad, nI_ad, nI_ad, nI_t (by omega), nI_t (by omega)]
      refine ⟨nI_in' (by omega) (by omega), nI_in' (by omega) (by omega), fun M5 e5 x6 e6 => ?_⟩
      rw [e6, nI_1]
      refine ihj M5 ?_
      rw [e5]
      refine (h.w1 (i := 5 * i + j) ⟨by omega, by omega⟩ rfl ?_).cong (fun x _ _ => ?_)
      · rw [h.1 93 (by omega) (by omega), show 5 * i + j + kof 93 = 75 + 5 * i + j by show 5 * i + j + 75 = _; omega]
        exact if_neg (show ¬ 75 + 5 * i + j < 5 * i + j by omega)
      · unfold updN kF
        by_cases c1 : x = 93
        · subst c1; rfl
        · simp only [if_neg c1]
    · refine vX11_keepText_122 X _ _ ⟨fun _ x2 e2 => ?_, fun c => absurd ((nI_le' (a := 5) (b := 5) (by omega) (by omega)).mpr (by omega)) c⟩
      rw [e2, nI_1]
      exact ih X h
  · refine vX11_keepText_84 (by omega) X _ ⟨fun _ => ⟨⟨nI_in' (n := 4) (by omega) (by omega), by decide⟩, fun M3 e3 => ⟨⟨nI_in' (n := 4) (by omega) (by omega), by decide⟩, fun M6 e6 => ⟨⟨nI_in' (n := 7) (by omega) (by omega), by decide⟩, fun M9 e9 => ⟨⟨nI_in' (n := 7) (by omega) (by omega), by decide⟩, fun M12 e12 => ?_⟩⟩⟩⟩, fun c => absurd ((nI_le' (a := 9) (b := 9) (by omega) (by omega)).mpr (by omega)) c⟩
    refine KT_198 hd h16 h98 fin ?_
    have k3 := h.cp 94 4 (by omega) rfl (by decide)
    rw [← e3] at k3
    have k6 := k3.cp 95 4 (by omega) rfl (by decide)
    rw [← e6] at k6
    have k9 := k6.cp 96 7 (by omega) rfl (by decide)
    rw [← e9] at k9
    have k12 := k9.cp 97 7 (by omega) rfl (by decide)
    rw [← e12] at k12
    refine k12.cong (fun x h1 h2 => ?_)
    have : x = 88 ∨ x = 89 ∨ x = 90 ∨ x = 91 ∨ x = 92 ∨ x = 93 ∨ x = 94 ∨ x = 95 ∨ x = 96 ∨ x = 97 ∨ x = 98 ∨ x = 99 ∨ x = 100 ∨ x = 101 := by omega
    rcases this with z | z | z | z | z | z | z | z | z | z | z | z | z | z <;> subst z <;> rfl
theorem KT_0 (hd : 3 ≤ d) (h16 : N.1 (60, 0) 23 = 0 ∨ N.1 (60, 0) 23 = 1) (h98 : ∀ l, l < 3 → N.1 (98, 0) (3 + l) = 0 ∨ N.1 (98, 0) (3 + l) = 1) (fin : ∀ A, AK N A → gX11_begins (fX11_clears A) ∧ P (fX11_lays (fX11_begins (fX11_clears A)) (111, 0) (110, 0))) : eg_S κ gM mtX11_keepText d [vR (60, 0)] N (eQV κ gM P) := by
  refine eg_S.of rfl (Nat.le_of_ble_eq_true rfl) (vX11_keepText_0 (by omega) N (fun M1 e1 M2 e2 M3 e3 M4 e4 => ?_))
  have f0 : ∀ k, N.1 (60, 0) k = if 12 ≤ k ∧ k < 12 + 0 then N.1 (60, 0) (k + 7) else N.1 (60, 0) k := fun k => (if_neg (by omega)).symm
  have f1 := ks_f 0 f0
  rw [show sI N (60, 0) (12 + 0) (N.1 (60, 0) (19 + 0)) = M1 from e1.symm] at f1
  have f2 := ks_f 1 f1
  rw [show sI M1 (60, 0) (12 + 1) (M1.1 (60, 0) (19 + 1)) = M2 from e2.symm] at f2
  have f3 := ks_f 2 f2
  rw [show sI M2 (60, 0) (12 + 2) (M2.1 (60, 0) (19 + 2)) = M3 from e3.symm] at f3
  have f4 := ks_f 3 f3
  rw [show sI M3 (60, 0) (12 + 3) (M3.1 (60, 0) (19 + 3)) = M4 from e4.symm] at f4
  refine ⟨?_, fun M5 e5 M7 e7 M8 e8 => ?_⟩
  · rw [f4 23, if_neg (by omega)]; exact h16
  have f5 := ks_f 4 f4
  rw [show sI M4 (60, 0) (12 + 4) (M4.1 (60, 0) (19 + 4)) = M5 from e5.symm] at f5
  have f6 := ks_f 5 f5
  rw [show sI M5 (60, 0) (12 + 5) (M5.1 (60, 0) (19 + 5)) = M7 from e7.symm] at f6
  have f7 := ks_f 6 f6
  rw [show sI M7 (60, 0) (12 + 6) (M7.1 (60, 0) (19 + 6)) = M8 from e8.symm] at f7
  have r8 : ∀ r, r ≠ 60 → M8.1 (r, 0) = N.1 (r, 0) := fun r hr => by
    rw [e8, sI_ne (kd_ne hr), e7, sI_ne (kd_ne hr), e5, sI_ne (kd_ne hr), e4, sI_ne (kd_ne hr), e3, sI_ne (kd_ne hr), e2, sI_ne (kd_ne hr), e1, sI_ne (kd_ne hr)]
  have k8 : KSx N (fun _ => 0) M8 := ⟨fun r h1 h2 k => by rw [r8 r (by omega), if_neg (Nat.not_lt_zero k)], fun r hr => r8 r (by omega), fun k hk => by rw [f7 k, if_neg (by omega)], fun k h1 h2 => by rw [f7 k, if_pos (by omega)]⟩
  refine ⟨⟨nI_in' (n := 5) (by omega) (by omega), by decide⟩, fun M10 e10 => ⟨⟨nI_in' (n := 30) (by omega) (by omega), by decide⟩, fun M13 e13 => ⟨⟨nI_in' (n := 9) (by omega) (by omega), by decide⟩, fun M16 e16 => ?_⟩⟩⟩
  refine KT_84 hd h16 h98 fin ?_
  have k10 := k8.cp 88 5 (by omega) rfl (by decide)
  rw [← e10] at k10
  have k13 := k10.cp 89 30 (by omega) rfl (by decide)
  rw [← e13] at k13
  have k16 := k13.cp 90 9 (by omega) rfl (by decide)
  rw [← e16] at k16
  refine k16.cong (fun x h1 h2 => ?_)
  have : x = 88 ∨ x = 89 ∨ x = 90 ∨ x = 91 ∨ x = 92 ∨ x = 93 ∨ x = 94 ∨ x = 95 ∨ x = 96 ∨ x = 97 ∨ x = 98 ∨ x = 99 ∨ x = 100 ∨ x = 101 := by omega
  rcases this with z | z | z | z | z | z | z | z | z | z | z | z | z | z <;> subst z <;> rfl
end
