/-! EXPRESSIONS: a value is due -/
theorem core.cg {q a k : Nat} {M N M1 N1 : eg_H} {L l : List Nat} (h : core q a M N L l k) (h10 : M1.1 (6, 0) 10 = M.1 (6, 0) 10) (hM : ∀ r, r = (36, 0) ∨ r = (3, q) ∨ r = (23, q) → M1.1 r = M.1 r) (hN : ∀ r, 99 ≤ r → r ≤ 103 → N1.1 (r, 0) = N.1 (r, 0)) (h60 : ∀ j, j = 22 ∨ j = 43 ∨ j = 44 → N1.1 (60, 0) j = N.1 (60, 0) j) : core q a M1 N1 L l k := by
  unfold core
  rw [h10, hM (36, 0) (Or.inl rfl), hM (3, q) (Or.inr (Or.inl rfl)), hM (23, q) (Or.inr (Or.inr rfl)), hN 99 (by omega) (by omega), hN 100 (by omega) (by omega), hN 101 (by omega) (by omega), hN 102 (by omega) (by omega), hN 103 (by omega) (by omega), h60 22 (by omega), h60 43 (by omega), h60 44 (by omega)]
  exact h
theorem hsC_6 (M : eg_H) (n t j : Nat) : (hsC M n t).1 (6, 0) j = if j = 10 then nI (n + 1) else M.1 (6, 0) j := by
  unfold hsC
  rw [sI_rr, sI_ne (by decide)]
theorem hsM_60 (N : eg_H) (n t j : Nat) : (hsM N n t).1 (60, 0) j = if j = 43 then nI (n + 1) else N.1 (60, 0) j := by
  unfold hsM
  rw [sI_60, sI_ne (by decide)]
theorem hsC_o (M : eg_H) (n t : Nat) {r : eg_R} (h : r ≠ (6, 0)) (h2 : r ≠ (36, 0)) : (hsC M n t).1 r = M.1 r := by
  unfold hsC
  rw [sI_ne h, sI_ne h2]
theorem hsM_o (N : eg_H) (n t : Nat) {r : eg_R} (h : r ≠ (60, 0)) (h2 : r ≠ (102, 0)) : (hsM N n t).1 r = N.1 r := by
  unfold hsM
  rw [sI_ne h, sI_ne h2]
theorem core_push {q a k t : Nat} {M N : eg_H} {L l : List Nat} (h : core q a M N L l k) (hv : vsb t = true) (hl : lev (t :: L) ≤ 8) (hn : k + nop (t :: L) ≤ 64) : core q a (hsC M L.length t) (hsM N L.length t) (t :: L) l k := by
  obtain ⟨⟨c1, c2, c3, c4⟩, ⟨c5, c6, c7, c8⟩, c9, c10, c11⟩ := h
  refine ⟨⟨?_, ?_, ⟨⟨?_, ?_, hv⟩, ?_⟩, hl⟩, ⟨?_, ?_, c7, hn⟩, ?_, ?_, ?_⟩
  · rw [hsC_6, if_pos rfl]; rfl
  · rw [hsM_60, if_pos rfl]; rfl
  · unfold hsC
    rw [sI_ne (by decide), sI_rr, if_pos rfl]
  · unfold hsM
    rw [sI_ne (by decide), sI_rr, if_pos rfl]
  · refine stk_cong (fun i hi => ⟨?_, ?_⟩) c3
    · unfold hsC
      rw [sI_ne (by decide), sI_rr, if_neg (by omega)]
    · unfold hsM
      rw [sI_ne (by decide), sI_rr, if_neg (by omega)]
  · rw [hsC_o _ _ _ (kd_ne (by omega)) (kd_ne (by omega))]; exact c5
  · rw [hsM_60, if_neg (by omega)]; exact c6
  · rw [hsC_o _ _ _ (kd_ne (by omega)) (kd_ne (by omega)), hsM_o _ _ _ (by decide) (by decide), hsM_o _ _ _ (by decide) (by decide), hsM_o _ _ _ (by decide) (by decide)]; exact c9
  · rw [hsM_60, if_neg (by omega)]; exact c10
  · rw [hsM_o _ _ _ (by decide) (by decide)]; exact c11
theorem core.len {q a k : Nat} {M N : eg_H} {L l : List Nat} (h : core q a M N L l k) : L.length ≤ 72 - k := by
  have := len_e L
  have := h.1.2.2.2
  have := h.2.1.2.2.2
  omega
def KcS (mt : eg_M) (M : eg_H) : pwK := fun κ d post => eCI κ gC mt d [vR (6, 0)] M (fun x M1 => (x = 0 → post 0 M1) ∧ (¬ x = 0 → eCV κ gC mtX9_advance d [vR (9, 0)] M1 (fun M2 => post 1 M2)))
def XR (q n a at0 : Nat) (M N : eg_H) (r : Int32) (M1 N1 : eg_H) : Prop := (r = 1 ∧ (∃ L l k b at1 W Y, at0 < at1 ∧ tA M1 N1 n at1 ∧ XP q a M1 N1 L l k b W Y) ∧ xC q a M M1 ∧ xM a N N1) ∨ (r = 0 ∧ FL q M N M1 N1)
theorem KcS.i {mt : eg_M} {M : eg_H} {Kc' Km : pwK} {R : Int32 → eg_H → eg_H → Prop} (h : ∀ κ d, 9 ≤ d → ∀ post, Kc' κ d post → eg_S κ gC mt (d - 1) [vR (6, 0)] M (eQI κ gC post)) (k : PW 9 4 (fun κ d post => Kc' κ d (fun x M1 => (x = 0 → post 0 M1) ∧ (¬ x = 0 → eCV κ gC mtX9_advance d [vR (9, 0)] M1 (fun M2 => post 1 M2)))) Km R) : PW 9 4 (KcS mt M) Km R :=
  PW.c (fun κ d hd _ z => ⟨_, h κ d hd _ z, fun _ _ q => q⟩) k
theorem KcS.rf {M N : eg_H} {w : Int32} {R : Int32 → eg_H → eg_H → Prop} (h : R 0 (fX6_refuse M w).2 (fX11_wrong N w).2) : PW 9 4 (fun κ d post => ∀ (x : Int32) (M1 : eg_H), (x, M1) = fX6_refuse M w → ((x = 0 → post 0 M1) ∧ (¬ x = 0 → eCV κ gC mtX9_advance d [vR (9, 0)] M1 (fun M2 => post 1 M2)))) (fun _ _ post => ∀ (x : Int32) (M1 : eg_H), (x, M1) = fX11_wrong N w → post x M1) R :=
  PW.c (Kc' := fun _ _ post => post 0 (fX6_refuse M w).2) (fun κ d _ post z x M1 e => by
    have e1 : x = 0 := congrArg Prod.fst e
    have e2 : M1 = (fX6_refuse M w).2 := congrArg Prod.snd e
    rw [e1, e2]
    exact ⟨fun _ => z, fun y => absurd rfl y⟩) (PW.rf1 h)
theorem KcS.no {A : eg_H} {Km : pwK} {R : Int32 → eg_H → eg_H → Prop} (k : PW 9 4 (fun _ _ post => post 0 A) Km R) : PW 9 4 (fun κ d post => ((0 : Int32) = 0 → post 0 A) ∧ (¬ (0 : Int32) = 0 → eCV κ gC mtX9_advance d [vR (9, 0)] A (fun M2 => post 1 M2))) Km R := PW.c (fun _ _ _ _ z => ⟨fun _ => z, fun y => absurd rfl y⟩) k
theorem KcS.ok {q n a at0 at1 k b : Nat} {M N A B : eg_H} {L l : List Nat} {W Y : Int32} (ha : at0 ≤ at1) (ht : tA A B n at1) (n39 : ¬ A.1 (9, 0) 4 = 39) (xp : XP q a A B L l k b W Y) (xc : xC q a M A) (xm : xM a N B) : PW 9 4 (fun κ d post => ((1 : Int32) = 0 → post 0 A) ∧ (¬ (1 : Int32) = 0 → eCV κ gC mtX9_advance d [vR (9, 0)] A (fun M2 => post 1 M2))) (fun κ d post => eCV κ gM mtX11_token d [vR (60, 0)] B (fun Z => post 1 Z)) (XR q n a at0 M N) := by
  refine PW.cr (by decide) (by decide) (PW.adv ht (by omega) (by omega) (fun M1 N1 a1 p1 p2 p3 p4 p5 p6 p7 => PW.e (Or.inl ⟨rfl, ⟨L, l, k, b, a1, W, Y, ?_, p7, xp.f (fun r hr => ?_) p1.2.2 p3⟩, xc.tr p1.x, xm.tr p3.x⟩)))
  · have := p6 n39
    omega
  · by_cases c : r = (6, 0)
    · rw [c]; exact p2
    · exact p1.1 r hr c
theorem tK {M N : eg_H} {n a : Nat} (h : tA M N n a) : ∃ t, M.1 (9, 0) 4 = nI t ∧ t ≤ 40 ∧ ((t = 39 ∧ N.1 (60, 0) 8 = 0) ∨ (t < 24 ∧ N.1 (60, 0) 8 = 1 ∧ N.1 (60, 0) 9 = nI (prm t)) ∨ (t = 38 ∧ N.1 (60, 0) 8 = 2 ∧ N.1 (60, 0) 9 = M.1 (9, 0) 6) ∨ (t = 37 ∧ N.1 (60, 0) 8 = 3 ∧ N.1 (60, 0) 9 = M.1 (9, 0) 5 ∧ 0 ≤ (M.1 (9, 0) 5).toInt ∧ (M.1 (9, 0) 5).toInt ≤ 99999) ∨ ((t = 24 ∨ t = 25 ∨ t = 26 ∨ t = 27 ∨ t = 34 ∨ t = 35 ∨ t = 36) ∧ N.1 (60, 0) 8 = 4 ∧ N.1 (60, 0) 9 = sgc t) ∨ (28 ≤ t ∧ t < 34 ∧ N.1 (60, 0) 8 = 5 ∧ N.1 (60, 0) 9 = nI (t - 28)) ∨ (t = 40 ∧ N.1 (60, 0) 8 = 6)) := tkN h.tk
theorem SGN {M N : eg_H} {n a : Nat} (h : tA M N n a) {w : Nat} (hw : w = 24 ∨ w = 25 ∨ w = 26 ∨ w = 27 ∨ w = 34 ∨ w = 35 ∨ w = 36) : (M.1 (9, 0) 4 = nI w ∧ fX11_isSign N (sgc w) = 1) ∨ ((¬ M.1 (9, 0) 4 = nI w) ∧ fX11_isSign N (sgc w) = 0) := by
  have inj : ∀ t, t = 24 ∨ t = 25 ∨ t = 26 ∨ t = 27 ∨ t = 34 ∨ t = 35 ∨ t = 36 → ∀ u, u = 24 ∨ u = 25 ∨ u = 26 ∨ u = 27 ∨ u = 34 ∨ u = 35 ∨ u = 36 → sgc t = sgc u → t = u := by
    have all : ∀ t ∈ [24, 25, 26, 27, 34, 35, 36], ∀ u ∈ [24, 25, 26, 27, 34, 35, 36], sgc t = sgc u → t = u := by decide +kernel
    have mem : ∀ t, t = 24 ∨ t = 25 ∨ t = 26 ∨ t = 27 ∨ t = 34 ∨ t = 35 ∨ t = 36 → t ∈ [24, 25, 26, 27, 34, 35, 36] := fun t h => by
      simp only [List.mem_cons, List.not_mem_nil, or_false]
      exact h
    exact fun t ht u hu => all t (mem t ht) u (mem u hu)
  obtain ⟨t, ek, ht, hc⟩ := tK h
  have kw := nIq ht w (by omega)
  rw [isSign_n]
  by_cases c : t = w
  · refine Or.inl ⟨by rw [ek, c], if_pos ?_⟩
    rcases hc with z | z | z | z | z | z | z
    · omega
    · omega
    · omega
    · omega
    · rw [← c]; exact z.2
    · omega
    · omega
  · refine Or.inr ⟨fun z => c (kw.mp (ek.symm.trans z)), if_neg (fun y => ?_)⟩
    rcases hc with z | z | z | z | z | z | z
    · exact absurd (z.2.symm.trans y.1) (by decide)
    · exact absurd (z.2.1.symm.trans y.1) (by decide)
    · exact absurd (z.2.1.symm.trans y.1) (by decide)
    · exact absurd (z.2.1.symm.trans y.1) (by decide)
    · exact c (inj t z.1 w hw (z.2.2.symm.trans y.2))
    · exact absurd (z.2.2.1.symm.trans y.1) (by decide)
    · exact absurd (z.2.symm.trans y.1) (by decide)
theorem KEYi {M N : eg_H} {n a : Nat} (h : tA M N n a) {w : Nat} (hw : w < 24) : (M.1 (9, 0) 4 = nI w ∧ fX11_isKey N (nI (prm w)) = 1) ∨ ((¬ M.1 (9, 0) 4 = nI w) ∧ fX11_isKey N (nI (prm w)) = 0) := by
  rw [isKey_n]
  rcases KEY h hw with ⟨a1, a2, a3⟩ | ⟨a1, a2⟩
  · exact Or.inl ⟨a1, if_pos ⟨a2, a3⟩⟩
  · exact Or.inr ⟨a1, if_neg a2⟩
