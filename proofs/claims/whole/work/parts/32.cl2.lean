/-! WHAT A RUN IS BY, THE CLASS'S WAY -/
def cN (M : eg_H) (p : Nat) : Nat := (M.1 (5, p) 0).toNatClampNeg
def cP (M : eg_H) (p : Nat) : Nat := (M.1 (5, p) 2).toNatClampNeg
def dC (M : eg_H) (p s f : Nat) : Int32 := match f with
  | 0 => M.1 (1, 5 * p + s) 1 | 1 => M.1 (1, 5 * p + s) 2 | 2 => M.1 (1, 5 * p + s) 3 | 3 => M.1 (1, 5 * p + s) 4 | 4 => M.1 (1, 5 * p + s) 5 | 5 => M.1 (1, 5 * p + s) 6 | _ => 0
def pC (M : eg_H) (p g f : Nat) : Int32 := match f with
  | 0 => M.1 (0, 15 * p + g) 1 | 1 => M.1 (0, 15 * p + g) 2 | k + 2 => if k < 5 then M.1 (20, 15 * p + g) k else 0
def oC (M : eg_H) (p f : Nat) : Int32 := match f with
  | 0 => M.1 (5, p) 4 | 1 => M.1 (5, p) 5 | 2 => M.1 (5, p) 6 | _ => 0
def lC (M : eg_H) (p l : Nat) (nm : Nat → Int64) : Option Int64 := if valC M p nm (M.1 (35, p) l) = mnL then none else some (valC M p nm (M.1 (35, p) l))
def cE (M : eg_H) (p : Nat) : eg_E := (cN M p, cP M p, fun s f => if s < cN M p then dC M p s f else 0, fun g f => if g < cP M p then pC M p g f else 0, oC M p, fun l => if l < 3 then lC M p l else fun _ => none)
def cW (M : eg_H) (p : Nat) : Prop := p < 2 ∧ vp_in (M.1 (5, p) 0) 6 ∧ vp_in (M.1 (5, p) 2) 16 ∧ (∀ l, l < 3 → gvC M p (M.1 (35, p) l)) ∧ wE (cE M p) ∧ ∀ s, s < cN M p → 0 ≤ (eD (cE M p) s 5).toInt
theorem cN_e {M : eg_H} {p : Nat} (h : cW M p) : M.1 (5, p) 0 = nI (cN M p) ∧ cN M p < 6 := nI_of' h.2.1 (by omega)
theorem cP_e {M : eg_H} {p : Nat} (h : cW M p) : M.1 (5, p) 2 = nI (cP M p) ∧ cP M p < 16 := nI_of' h.2.2.1 (by omega)
theorem eD_c {M : eg_H} {p s : Nat} (hs : s < cN M p) (f : Nat) : eD (cE M p) s f = dC M p s f := if_pos hs
theorem eC_c {M : eg_H} {p g : Nat} (hg : g < cP M p) (f : Nat) : eC (cE M p) g f = pC M p g f := if_pos hg
/-! the laws look at eight names -/
theorem evL_cong {kn : Nat → Int32} {nm nm1 : Nat → Int64} (h : ∀ j, j < 8 → nm j = nm1 j) : ∀ (n i : Nat) (l : List Int64), evL kn nm n i l = evL kn nm1 n i l
  | 0, _, l => rfl
  | n + 1, i, l => by
    by_cases c1 : 64 ≤ l.length
    · rw [evL_full c1, evL_full c1]
    · by_cases c2 : kn i < 10000
      · rw [evL_num c1 c2, evL_num c1 c2, evL_cong h n]
      · by_cases c3 : 16 ≤ kn i - 10000 ∧ kn i - 10000 ≤ 23
        · have hk : vp_in (kn i - 10000 - 16) 8 := by
            have a1 := t_le.mp c3.1
            have a2 := t_le.mp c3.2
            have b1 : (16 : Int32).toInt = 16 := by decide
            have b2 : (23 : Int32).toInt = 23 := by decide
            rw [t_in, t_sub (by omega) (by omega)]
            omega
          rw [evL_nam c1 c2 c3, evL_nam c1 c2 c3, evL_cong h n, h _ (vp_lt hk)]
        · by_cases c4 : kn i - 10000 = 15
          · rcases l with _ | ⟨x, l⟩
            · rw [evL_skip (by decide) c2 c3 (fun q => absurd q.2 (by decide)), evL_skip (by decide) c2 c3 (fun q => absurd q.2 (by decide)), evL_cong h n]
            · rw [evL_not c1 c2 c3 c4, evL_not c1 c2 c3 c4, evL_cong h n]
          · rcases l with _ | ⟨b, _ | ⟨a, l⟩⟩
            · rw [evL_skip (by decide) c2 c3 (fun q => c4 q.1), evL_skip (by decide) c2 c3 (fun q => c4 q.1), evL_cong h n]
            · rw [evL_skip (by show 1 ≤ 1; decide) c2 c3 (fun q => c4 q.1), evL_skip (by show 1 ≤ 1; decide) c2 c3 (fun q => c4 q.1), evL_cong h n]
            · rw [evL_bin c1 c2 c3 c4, evL_bin c1 c2 c3 c4, evL_cong h n]
theorem valC_cong {M : eg_H} {p : Nat} {nm nm1 : Nat → Int64} (w : Int32) (h : ∀ j, j < 8 → nm j = nm1 j) : valC M p nm w = valC M p nm1 w := by
  unfold valC
  rw [evL_cong h]
theorem lC_cong {M : eg_H} {p l : Nat} {nm nm1 : Nat → Int64} (h : ∀ j, j < 8 → nm j = nm1 j) : lC M p l nm = lC M p l nm1 := by
  unfold lC
  rw [valC_cong _ h]
theorem lgE (a b : Int64) : lg_cmp a b = 0 ↔ a = b := by
  unfold lg_cmp
  by_cases h : a > b
  · rw [if_pos h]
    refine ⟨fun e => absurd e (by decide), fun e => ?_⟩
    subst e
    exact absurd h (Int64.lt_irrefl)
  · rw [if_neg h]
    by_cases h2 : a = b
    · rw [if_pos h2]
      exact ⟨fun _ => h2, fun _ => rfl⟩
    · rw [if_neg h2]
      exact ⟨fun e => absurd e (by decide), fun e => absurd e h2⟩
/-! the table's cells are no plan's -/
section
variable (M : eg_H) (t p : Nat) (nm st : Nat → Int64) (Z : Nat → Int32)
theorem cE_TX (q : Nat) : cE (TX M t p nm st Z) q = cE M q := rfl
theorem valC_TX (q : Nat) (n : Nat → Int64) (w : Int32) : valC (TX M t p nm st Z) q n w = valC M q n w := rfl
theorem sU_TX (s : Nat → Int64) : sU (TX M t p nm st Z) (27, p) s = TX M t p nm s Z := by
  refine eg_ext (fun _ _ => rfl) (fun z j => ?_) (fun _ _ => rfl)
  show (if z = (27, p) then s else if z = (26, p) then nm else if z = (27, p) then st else M.2.1 z) j = (if z = (26, p) then nm else if z = (27, p) then s else M.2.1 z) j
  by_cases c : z = (27, p)
  · rw [if_pos c, if_neg (by rw [c]; intro e; cases e), if_pos c]
  · rw [if_neg c, if_neg c, if_neg c]
end
theorem cW_TX {M : eg_H} {t p q : Nat} {nm st : Nat → Int64} {Z : Nat → Int32} (h : cW M q) : cW (TX M t p nm st Z) q := h
/-! THE CLASS'S ARRAY AND THE MODEL'S -/
def RG (E : eg_E) (Z Y : Nat → Int32) (g : Nat) : Prop :=
  (Z (20 + 20 * g) = Y (20 + 20 * g) ∧ Y (20 + 20 * g + 12) = eC E g 0 ∧ (Y (20 + 20 * g) = 1 → Z (20 + 20 * g + 10) = Y (20 + 20 * g + 10)) ∧ (Y (20 + 20 * g) = 2 → Z (20 + 20 * g + 11) = Y (20 + 20 * g + 11)) ∧ (Y (20 + 20 * g) = 0 → Y (20 + 20 * g + 11) = eC E g 0)) ∨ (Z (20 + 20 * g) = 0 ∧ Y (20 + 20 * g) = 3 ∧ eC E g 0 = -1)
def RY (E : eg_E) (Z Y : Nat → Int32) : Prop :=
  Z 0 = Y 0 ∧ Z 1 = Y 1 ∧ (∀ k, k < (Y 1).toNatClampNeg → Z (2 + k) = Y (2 + k)) ∧ (∀ q, q < eN E → Z (360 + q) = Y (360 + q)) ∧ (∀ s f, s < eN E → f < 7 → Z (320 + 8 * s + f) = Y (320 + 8 * s + f)) ∧ (∀ g f, g < eP E → (1 ≤ f ∧ f ≤ 9 ∨ 14 ≤ f ∧ f < 19) → Z (20 + 20 * g + f) = Y (20 + 20 * g + f)) ∧ ∀ g, g < eP E → RG E Z Y g ∧ (Z (20 + 20 * g + 10) = 0 ∨ Z (20 + 20 * g + 10) = 1)
section
variable {E : eg_E} {Z Y : Nat → Int32}
theorem RY.s (h : RY E Z Y) : Z 0 = Y 0 := h.1
theorem RY.q (h : RY E Z Y) : Z 1 = Y 1 := h.2.1
theorem RY.k (h : RY E Z Y) {k : Nat} (hk : k < (Y 1).toNatClampNeg) : Z (2 + k) = Y (2 + k) := h.2.2.1 k hk
theorem RY.r (h : RY E Z Y) {q : Nat} (hq : q < eN E) : Z (360 + q) = Y (360 + q) := h.2.2.2.1 q hq
theorem RY.p (h : RY E Z Y) {s : Nat} (f : Nat) (hs : s < eN E) (hf : f < 7) : Z (320 + 8 * s + f) = Y (320 + 8 * s + f) := h.2.2.2.2.1 s f hs hf
theorem RY.p0 (h : RY E Z Y) {s : Nat} (hs : s < eN E) : Z (320 + 8 * s) = Y (320 + 8 * s) := h.2.2.2.2.1 s 0 hs (by omega)
theorem RY.g (h : RY E Z Y) {g : Nat} (f : Nat) (hg : g < eP E) (hf : 1 ≤ f ∧ f ≤ 9 ∨ 14 ≤ f ∧ f < 19) : Z (20 + 20 * g + f) = Y (20 + 20 * g + f) := h.2.2.2.2.2.1 g f hg hf
theorem RY.w (h : RY E Z Y) {g k : Nat} (hg : g < eP E) (hk : k < 5) : Z (20 + 20 * g + 14 + k) = Y (20 + 20 * g + 14 + k) := by
  have := h.g (14 + k) hg (by omega)
  rwa [← Nat.add_assoc] at this
theorem RY.G (h : RY E Z Y) {g : Nat} (hg : g < eP E) : RG E Z Y g := (h.2.2.2.2.2.2 g hg).1
theorem RY.b (h : RY E Z Y) {g : Nat} (hg : g < eP E) : Z (20 + 20 * g + 10) = 0 ∨ Z (20 + 20 * g + 10) = 1 := (h.2.2.2.2.2.2 g hg).2
/-- one in the line -/
theorem RY.l (h : RY E Z Y) {g : Nat} (hg : g < eP E) (h1 : Y (20 + 20 * g) = 1) : Z (20 + 20 * g) = 1 ∧ Y (20 + 20 * g + 12) = eC E g 0 ∧ Z (20 + 20 * g + 10) = Y (20 + 20 * g + 10) := by
  rcases h.G hg with q | q
  · exact ⟨q.1.trans h1, q.2.1, q.2.2.1 h1⟩
  · rw [h1] at q
    exact absurd q.2.1 (by decide)
end
def spj (j : Nat) : Prop := j = 1 ∨ (20 ≤ j ∧ j < 320 ∧ ((j - 20) % 20 = 0 ∨ (j - 20) % 20 = 10 ∨ (j - 20) % 20 = 11 ∨ (j - 20) % 20 = 12))
theorem RY_of {E : eg_E} {Z Y Z1 Y1 : Nat → Int32} (h : RY E Z Y) (hE : wE E) (hq : (Y 1).toNatClampNeg < 16) (h1 : ∀ j, j < 366 → ¬ spj j → Z1 j = Y1 j ∨ (Z1 j = Z j ∧ Y1 j = Y j)) (h2 : ∀ j, j < 366 → spj j → Z1 j = Z j ∧ Y1 j = Y j) : RY E Z1 Y1 := by
  have hn := hE.1
  have hN := hE.2.1
  have key : ∀ j, j < 366 → ¬ spj j → Z j = Y j → Z1 j = Y1 j := by
    intro j hj hs e
    rcases h1 j hj hs with q | q
    · exact q
    · rw [q.1, q.2, e]
  have e1 := h2 1 (by omega) (Or.inl rfl)
  refine ⟨key 0 (by omega) (by unfold spj; omega) h.s, ?_, fun k hk => ?_, fun q hq2 => ?_, fun s f hs hf => ?_, fun g f hg hf => ?_, fun g hg => ?_⟩
  · rw [e1.1, e1.2, h.q]
  · rw [e1.2] at hk
    exact key _ (by omega) (by unfold spj; omega) (h.k hk)
  · exact key _ (by omega) (by unfold spj; omega) (h.r hq2)
  · exact key _ (by omega) (by unfold spj; omega) (h.p f hs hf)
  · exact key _ (by omega) (by unfold spj; omega) (h.g f hg hf)
  · have a0 := h2 (20 + 20 * g) (by omega) (by unfold spj; omega)
    have a11 := h2 (20 + 20 * g + 11) (by omega) (by unfold spj; omega)
    have a12 := h2 (20 + 20 * g + 12) (by omega) (by unfold spj; omega)
    have a10 := h2 (20 + 20 * g + 10) (by omega) (by unfold spj; omega)
    unfold RG
    rw [a0.1, a0.2, a11.1, a11.2, a12.2, a10.1, a10.2]
    exact ⟨h.G hg, h.b hg⟩
theorem RY_calm {E : eg_E} {Z Y : Nat → Int32} (h : RY E Z Y) (hE : wE E) (hq : (Y 1).toNatClampNeg < 16) (x : Int32) : RY E (upd Z 18 x) Y := by
  have hn := hE.1
  have hN := hE.2.1
  have key : ∀ j, j ≠ 18 → upd Z 18 x j = Z j := fun j hj => pk_un hj
  refine ⟨(key 0 (by omega)).trans h.s, (key 1 (by omega)).trans h.q, fun k hk => (key _ (by omega)).trans (h.k hk), fun q hq2 => (key _ (by omega)).trans (h.r hq2), fun s f hs hf => (key _ (by omega)).trans (h.p f hs hf), fun g f hg hf => (key _ (by omega)).trans (h.g f hg hf), fun g hg => ?_⟩
  unfold RG
  rw [key _ (by omega), key _ (by omega), key _ (by omega)]
  exact ⟨h.G hg, h.b hg⟩
theorem RY_u10 {E : eg_E} {Z Y : Nat → Int32} (h : RY E Z Y) (hE : wE E) (hq : (Y 1).toNatClampNeg < 16) {a : Nat} (x : Int32) (hx : x = 0 ∨ x = 1) : RY E (upd Z (20 + 20 * a + 10) x) (upd Y (20 + 20 * a + 10) x) := by
  have hn := hE.1
  have hN := hE.2.1
  have both : ∀ j, Z j = Y j → upd Z (20 + 20 * a + 10) x j = upd Y (20 + 20 * a + 10) x j := by
    intro j e
    by_cases c : j = 20 + 20 * a + 10
    · rw [c, pk_us, pk_us]
    · rw [pk_un c, pk_un c, e]
  refine ⟨both _ h.s, both _ h.q, fun k hk => ?_, fun q hq2 => both _ (h.r hq2), fun s f hs hf => both _ (h.p f hs hf), fun g f hg hf => both _ (h.g f hg hf), fun g hg => ⟨?_, ?_⟩⟩
  · rw [pk_un (by omega)] at hk
    exact both _ (h.k hk)
  · unfold RG
    rw [pk_un (by omega), pk_un (by omega), pk_un (show 20 + 20 * g + 12 ≠ 20 + 20 * a + 10 by omega), pk_un (show 20 + 20 * g + 11 ≠ 20 + 20 * a + 10 by omega), pk_un (show 20 + 20 * g + 11 ≠ 20 + 20 * a + 10 by omega)]
    rcases h.G hg with q | q
    · exact Or.inl ⟨q.1, q.2.1, fun c => both _ (q.2.2.1 c), q.2.2.2.1, q.2.2.2.2⟩
    · exact Or.inr q
  · by_cases c : 20 + 20 * g + 10 = 20 + 20 * a + 10
    · rw [c, pk_us]; exact hx
    · rw [pk_un c]; exact h.b hg
