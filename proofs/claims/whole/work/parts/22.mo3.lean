/-! THE MODEL'S HEAP DURING A RUN: names, values and error, the array -/
def SX (M : eg_H) (nm : Nat → Int64) (s : (Nat → Int64) × Int32) (Y : Nat → Int32) : eg_H := sW (sVE (sU M (127, 0) nm) s) (110, 0) Y
theorem SX_Y (M : eg_H) (nm : Nat → Int64) (s : (Nat → Int64) × Int32) (Y : Nat → Int32) : (SX M nm s Y).1 (110, 0) = Y := sW_at _ _ _
theorem SX_nm (M : eg_H) (nm : Nat → Int64) (s : (Nat → Int64) × Int32) (Y : Nat → Int32) : (SX M nm s Y).2.1 (127, 0) = nm := by
  show (sU (sU M (127, 0) nm) (128, 0) s.1).2.1 (127, 0) = nm
  rw [sU_ne _ _ (by decide), sU_at]
theorem SX_o (M : eg_H) (nm : Nat → Int64) (s : (Nat → Int64) × Int32) (Y : Nat → Int32) {r : eg_R} (h : r ≠ (110, 0)) (h2 : r ≠ (60, 0)) : (SX M nm s Y).1 r = M.1 r := by
  show (sW _ _ _).1 r = _
  rw [sW_ne _ _ h]
  exact sI_ne h2
theorem SX_f (M : eg_H) (nm : Nat → Int64) (s : (Nat → Int64) × Int32) (Y : Nat → Int32) {k : Nat} (h : k ≠ 68) : (SX M nm s Y).1 (60, 0) k = M.1 (60, 0) k := by
  show (sW _ _ _).1 (60, 0) k = _
  rw [sW_ne _ _ (by decide)]
  unfold sVE
  rw [sI_i, if_neg (fun q => h q.2)]
  rfl
theorem SX_i (M : eg_H) (nm : Nat → Int64) (s : (Nat → Int64) × Int32) (Y : Nat → Int32) (k : Nat) (x : Int32) : sI (SX M nm s Y) (110, 0) k x = SX M nm s (upd Y k x) := sI_sW _ _ _ _ _
theorem SX_W (M : eg_H) (nm : Nat → Int64) (s : (Nat → Int64) × Int32) (Y Z : Nat → Int32) : sW (SX M nm s Y) (110, 0) Z = SX M nm s Z := sW_sW _ _ _ _
theorem sI_sWo (M : eg_H) {a b : eg_R} (f : Nat → Int32) (k : Nat) (x : Int32) (h : b ≠ a) : sI (sW M a f) b k x = sW (sI M b k x) a f := by
  refine eg_ext (fun z j => ?_) (fun _ _ => rfl) (fun _ _ => rfl)
  rw [sI_i]
  by_cases hz : z = a
  · subst hz
    rw [if_neg (fun q => h q.1.symm), sW_at, sW_at]
  · rw [sW_ne _ _ hz, sW_ne _ _ hz, sI_i]
theorem SX_E (M : eg_H) (nm : Nat → Int64) (s s1 : (Nat → Int64) × Int32) (Y : Nat → Int32) : sVE (SX M nm s Y) s1 = SX M nm s1 Y := by
  unfold SX sVE
  rw [sU_sW, sI_sWo _ _ _ _ (by decide)]
  congr 1
  refine eg_ext (fun z j => ?_) (fun z j => ?_) (fun _ _ => rfl)
  · show (sI (sU (sI (sU (sU M (127, 0) nm) (128, 0) s.1) (60, 0) 68 s.2) (128, 0) s1.1) (60, 0) 68 s1.2).1 z j = (sI (sU (sU M (127, 0) nm) (128, 0) s1.1) (60, 0) 68 s1.2).1 z j
    rw [sI_i, sI_i]
    by_cases q : z = (60, 0) ∧ j = 68
    · rw [if_pos q, if_pos q]
    · rw [if_neg q, if_neg q]
      show (sI (sU (sU M (127, 0) nm) (128, 0) s.1) (60, 0) 68 s.2).1 z j = _
      rw [sI_i, if_neg q]; rfl
  · show (sU (sU (sU M (127, 0) nm) (128, 0) s.1) (128, 0) s1.1).2.1 z j = (sU (sU M (127, 0) nm) (128, 0) s1.1).2.1 z j
    rw [sU_sU]
theorem sU_comm (M : eg_H) {a b : eg_R} (f g : Nat → Int64) (h : a ≠ b) : sU (sU M a f) b g = sU (sU M b g) a f := by
  refine eg_ext (fun _ _ => rfl) (fun z j => ?_) (fun _ _ => rfl)
  by_cases h1 : z = a
  · subst h1
    rw [sU_ne _ _ h, sU_at, sU_at]
  · by_cases h2 : z = b
    · subst h2
      rw [sU_at, sU_ne _ _ h1, sU_at]
    · rw [sU_ne _ _ h2, sU_ne _ _ h1, sU_ne _ _ h1, sU_ne _ _ h2]
theorem SX_N (M : eg_H) (nm nm1 : Nat → Int64) (s : (Nat → Int64) × Int32) (Y : Nat → Int32) : sU (SX M nm s Y) (127, 0) nm1 = SX M nm1 s Y := by
  unfold SX sVE
  rw [sU_sW]
  congr 1
  show sI (sU (sU (sU M (127, 0) nm) (128, 0) s.1) (127, 0) nm1) (60, 0) 68 s.2 = _
  rw [sU_comm _ _ _ (by decide : ((128, 0) : eg_R) ≠ (127, 0)), sU_sU]
theorem SX_self (M : eg_H) : SX M (M.2.1 (127, 0)) (M.2.1 (128, 0), M.1 (60, 0) 68) (M.1 (110, 0)) = M := by
  unfold SX sVE
  rw [sU_self, sU_self, sI_self, sW_self]
theorem SX_SX (M : eg_H) (nm nm1 : Nat → Int64) (s s1 : (Nat → Int64) × Int32) (Y Y1 : Nat → Int32) : SX (SX M nm s Y) nm1 s1 Y1 = SX M nm1 s1 Y1 := by
  show sW (sVE (sU (SX M nm s Y) (127, 0) nm1) s1) (110, 0) Y1 = _
  rw [SX_N, SX_E, SX_W]
/-! what a run is by, the model's way -/
def dM (M : eg_H) (s f : Nat) : Int32 := match f with
  | 0 => M.1 (89, 0) (6 * s)
  | 1 => if ¬ nI s = M.1 (60, 0) 53 then M.1 (89, 0) (6 * s + 1) else M.1 (60, 0) 54
  | 2 => if M.1 (89, 0) (6 * s + 2) < 0 then 0 else if ¬ nI s = M.1 (60, 0) 57 then M.1 (89, 0) (6 * s + 2) else M.1 (60, 0) 58
  | 3 => M.1 (89, 0) (6 * s + 3)
  | 4 => if ¬ nI s = M.1 (60, 0) 55 then M.1 (89, 0) (6 * s + 4) else M.1 (60, 0) 56
  | 5 => if M.1 (89, 0) (6 * s + 5) ≤ 0 then 0 else M.1 (89, 0) (6 * s + 5)
  | _ => 0
def coM (M : eg_H) (g : Nat) : Int32 := if 3599 < M.1 (91, 0) g + M.1 (125, 0) g then 3599 else M.1 (91, 0) g + M.1 (125, 0) g
def pM (M : eg_H) (g f : Nat) : Int32 := match f with
  | 0 => if nI g = M.1 (60, 0) 52 then -1 else coM M g
  | 1 => fX11_sizeOf M (nI g)
  | k + 2 => if k < 5 then M.1 (93, 0) (5 * g + k) else 0
def oM (M : eg_H) (f : Nat) : Int32 := match f with
  | 0 => M.1 (60, 0) 60
  | 1 => M.1 (60, 0) 17
  | 2 => M.1 (60, 0) 18
  | _ => 0
def nM (M : eg_H) : Nat := (M.1 (60, 0) 12).toNatClampNeg
def NM (M : eg_H) : Nat := (fX11_everybody M).toNatClampNeg
def mE (M : eg_H) : eg_E := (nM M, NM M, fun s f => if s < nM M then dM M s f else 0, fun g f => if g < NM M then pM M g f else 0, oM M, fun l => if l < 3 then lwM M l else fun _ => none)
theorem mE_SX (M : eg_H) (nm : Nat → Int64) (s : (Nat → Int64) × Int32) (Y : Nat → Int32) : mE (SX M nm s Y) = mE M := by
  have hn : nM (SX M nm s Y) = nM M := by unfold nM; rw [SX_f _ _ _ _ (by decide)]
  have hN : NM (SX M nm s Y) = NM M := by unfold NM fX11_everybody; rw [SX_f _ _ _ _ (by decide), SX_f _ _ _ _ (by decide)]
  have h89 : (SX M nm s Y).1 (89, 0) = M.1 (89, 0) := SX_o _ _ _ _ (by decide) (by decide)
  have h91 : (SX M nm s Y).1 (91, 0) = M.1 (91, 0) := SX_o _ _ _ _ (by decide) (by decide)
  have h92 : (SX M nm s Y).1 (92, 0) = M.1 (92, 0) := SX_o _ _ _ _ (by decide) (by decide)
  have h93 : (SX M nm s Y).1 (93, 0) = M.1 (93, 0) := SX_o _ _ _ _ (by decide) (by decide)
  have h96 : (SX M nm s Y).1 (96, 0) = M.1 (96, 0) := SX_o _ _ _ _ (by decide) (by decide)
  have h97 : (SX M nm s Y).1 (97, 0) = M.1 (97, 0) := SX_o _ _ _ _ (by decide) (by decide)
  have h98 : (SX M nm s Y).1 (98, 0) = M.1 (98, 0) := SX_o _ _ _ _ (by decide) (by decide)
  have h99 : (SX M nm s Y).1 (99, 0) = M.1 (99, 0) := SX_o _ _ _ _ (by decide) (by decide)
  have h100 : (SX M nm s Y).1 (100, 0) = M.1 (100, 0) := SX_o _ _ _ _ (by decide) (by decide)
  have h101 : (SX M nm s Y).1 (101, 0) = M.1 (101, 0) := SX_o _ _ _ _ (by decide) (by decide)
  have h125 : (SX M nm s Y).1 (125, 0) = M.1 (125, 0) := SX_o _ _ _ _ (by decide) (by decide)
  have hd : dM (SX M nm s Y) = dM M := by
    funext a f
    unfold dM
    rw [h89, SX_f _ _ _ _ (by decide), SX_f _ _ _ _ (by decide), SX_f _ _ _ _ (by decide), SX_f _ _ _ _ (by decide), SX_f _ _ _ _ (by decide), SX_f _ _ _ _ (by decide)]
  have hp : pM (SX M nm s Y) = pM M := by
    funext a f
    unfold pM coM fX11_sizeOf
    rw [h91, h92, h93, h125, SX_f _ _ _ _ (by decide), SX_f _ _ _ _ (by decide)]
  have ho : oM (SX M nm s Y) = oM M := by
    funext f
    unfold oM
    rw [SX_f _ _ _ _ (by decide), SX_f _ _ _ _ (by decide), SX_f _ _ _ _ (by decide)]
  have hl : lwM (SX M nm s Y) = lwM M := by
    funext l n
    unfold lwM lwK
    rw [h96, h97, h98, h99, h100, h101, SX_f _ _ _ _ (by decide), SX_f _ _ _ _ (by decide)]
  unfold mE
  rw [hn, hN, hd, hp, ho, hl]
def mW (M : eg_H) : Prop := vp_in (M.1 (60, 0) 12) 6 ∧ vp_in (fX11_everybody M) 16 ∧ (∀ s, s < nM M → ¬ M.1 (89, 0) (6 * s + 2) < 0 → ¬ dM M s 2 = 0) ∧ ∀ l, l < 3 → lwW M l
theorem lwW_SX {M : eg_H} {l : Nat} (h : lwW M l) (nm : Nat → Int64) (s : (Nat → Int64) × Int32) (Y : Nat → Int32) : lwW (SX M nm s Y) l := by
  unfold lwW lwK
  rw [SX_f _ _ _ _ (by decide), SX_f _ _ _ _ (by decide), SX_o _ _ _ _ (r := (96, 0)) (by decide) (by decide), SX_o _ _ _ _ (r := (97, 0)) (by decide) (by decide), SX_o _ _ _ _ (r := (98, 0)) (by decide) (by decide), SX_o _ _ _ _ (r := (99, 0)) (by decide) (by decide), SX_o _ _ _ _ (r := (100, 0)) (by decide) (by decide), SX_o _ _ _ _ (r := (101, 0)) (by decide) (by decide)]
  exact h
