/-! A QUESTION'S PLAN -/
theorem QS_of {M : eg_H} {p : Nat} {Q : eg_H} (pl : PL M p Q) {M' : eg_H} {q : Nat} {R : Nat → Int32} (hW : cW M' q) (hE2 : wE2 (cE M' q)) (hR : oR (cE M' q) R) (h1 : cN M' q = cN M p) (h2 : cP M' q = NM Q)
    (hd : ∀ s, s < cN M p → dC M' q s 0 = dC M p s 0 ∧ dC M' q s 1 = (if ¬ nI s = Q.1 (60, 0) 53 then dC M p s 1 else Q.1 (60, 0) 54) ∧ dC M' q s 2 = (if dC M p s 2 = 0 then 0 else if ¬ nI s = Q.1 (60, 0) 57 then dC M p s 2 else Q.1 (60, 0) 58) ∧ dC M' q s 3 = dC M p s 3 ∧ dC M' q s 4 = (if ¬ nI s = Q.1 (60, 0) 55 then dC M p s 4 else Q.1 (60, 0) 56) ∧ dC M' q s 5 = dC M p s 5)
    (hc : ∀ g, g < NM Q → pC M' q g 0 = pM Q g 0 ∧ pC M' q g 1 = pM Q g 1 ∧ ∀ k, k < 5 → pC M' q g (k + 2) = pM Q g (k + 2))
    (ho : oC M' q 0 = Q.1 (60, 0) 60 ∧ oC M' q 1 = oC M p 1 ∧ oC M' q 2 = oC M p 2)
    (hl : ∀ l, l < 3 → lwW Q l ∧ ∀ nm, iN nm → lC M' q l nm = lwM Q l nm)
    (hev : vp_in (fX11_everybody Q) 16) (h58 : ∀ s, s < 5 → nI s = Q.1 (60, 0) 57 → ¬ Q.1 (60, 0) 58 = 0) (hco : ∀ g, g < NM Q → ¬ coM Q g = -1) (hRk : ∀ k, k < cN M p → R k = Q.1 (126, 0) k) (hjk : ∀ j, 366 ≤ j → Q.1 (110, 0) j = 0) : QS M' q Q R := by
  have en : nM Q = cN M p := pl.n1.symm
  have n6 := (cN_e pl.cW).2
  refine ⟨hW, hE2, hR, EQ_mk (by rw [h1, en]) h2 (fun s hs f hf => ?_) (fun g hg f hf => ?_) (fun f hf => ?_) (fun l hl2 nm hn => (hl l hl2).2 nm hn), ⟨pl.hn, hev, fun s hs hp => ?_, fun l hl2 => (hl l hl2).1⟩, hco, fun k hk => hRk k (by rw [← h1]; exact hk), hjk⟩
  · have hs' : s < (Q.1 (60, 0) 12).toNatClampNeg := hs
    rw [en] at hs
    obtain ⟨a0, a1, a2, a3, a4, a5⟩ := hd s hs
    rcases (by omega : f = 0 ∨ f = 1 ∨ f = 2 ∨ f = 3 ∨ f = 4 ∨ f = 5) with rfl | rfl | rfl | rfl | rfl | rfl
    · rw [a0, pl.d0 hs']
    · rw [a1, pl.d1 hs']
    · rw [a2, pl.d2 hs']
    · rw [a3, pl.d3 hs']
    · rw [a4, pl.d4 hs']
    · rw [a5, pl.d5 hs']
  · obtain ⟨a0, a1, a2⟩ := hc g hg
    by_cases f0 : f = 0
    · subst f0; exact a0
    · by_cases f1 : f = 1
      · subst f1; exact a1
      · obtain ⟨k, rfl⟩ : ∃ k, f = k + 2 := ⟨f - 2, by omega⟩
        exact a2 k (by omega)
  · rcases (by omega : f = 0 ∨ f = 1 ∨ f = 2) with rfl | rfl | rfl
    · exact ho.1
    · rw [ho.2.1]; exact pl.ea
    · rw [ho.2.2]; exact pl.ec
  · have hs' : s < (Q.1 (60, 0) 12).toNatClampNeg := hs
    have hs5 : s < 5 := by rw [en] at hs; omega
    have b := (pl.s hs').2.2.2.1
    rw [pl.d2 hs', show dC M p s 2 = M.1 (1, 5 * p + s) 3 from rfl, b.2, if_neg hp]
    rcases b.1 with e | e
    · rw [e] at hp; exact absurd (by decide) hp
    · have ne : ¬ Q.1 (89, 0) (6 * s + 2) = 0 := by
        intro z
        rw [z, t_0] at e
        omega
      rw [if_neg ne]
      by_cases c : nI s = Q.1 (60, 0) 57
      · rw [if_neg (fun z => z c)]; exact h58 s hs5 c
      · rw [if_pos c]; exact ne
/-- the cells of the row of the real table -/
theorem JJ.row {M N : eg_H} {C p : Nat} (h : JJ M N C p) {k : Nat} (hk : k < cN M p) : M.1 (40, 0) k = N.1 (111, 0) (360 + k) := by
  have := h.1.2.2.1.1.r (q := k) hk
  rw [aT_r] at this
  exact this
theorem JJ.oR {M N : eg_H} {C p : Nat} (h : JJ M N C p) : oR (cE M p) (M.1 (40, 0)) := by
  have r := h.1.2.2.1.2.1.2.1
  refine ⟨fun k hk => ?_, fun a b hab hb => ?_⟩
  · rw [h.row hk]; exact r.1 k hk
  · have hb' : b < cN M p := hb
    rw [h.row (show a < cN M p by omega), h.row hb']; exact r.2 a b hab hb
/-- the told text in a cleared model -/
theorem JJ.plc {M N N1 : eg_H} {C p : Nat} (h : JJ M N C p) (hF : FrN N N1) : PL M p (fX11_clears N1) := h.1.2.1.cong (fun _ _ => rfl) (hF.T.tr (clr_Fr N1).T)
theorem JJ.ck {M N N1 : eg_H} {C p : Nat} (h : JJ M N C p) (hF : FrN N N1) : (∀ k, k < cN M p → M.1 (40, 0) k = (fX11_clears N1).1 (126, 0) k) ∧ ∀ j, 366 ≤ j → (fX11_clears N1).1 (110, 0) j = 0 := by
  have n6 := (cN_e h.1.2.1.cW).2
  refine ⟨fun k hk => ?_, fun j hj => ?_⟩
  · rw [clr_126 _ (by omega), hF.o (k := 112) (by omega), h.1.2.2.2 k (by omega), h.row hk]
  · rw [clr_o _ (by decide) (by decide) (by decide), hF.2.2.2 j hj]
    exact h.2.2.2.2.1 j hj
/-- guests as they are told, later by nothing -/
theorem PL.g0 {M Q : eg_H} {p : Nat} (pl : PL M p Q) (h52 : ∀ g, g < 15 → ¬ nI g = Q.1 (60, 0) 52) (h59 : Q.1 (60, 0) 59 = 0) (h61 : Q.1 (60, 0) 61 = 0) (h125 : ∀ g, g < 15 → Q.1 (125, 0) g = 0) : (vp_in (fX11_everybody Q) 16 ∧ NM Q = cP M p) ∧ (∀ g, g < NM Q → pC M p g 0 = pM Q g 0 ∧ pC M p g 1 = pM Q g 1 ∧ ∀ k, k < 5 → pC M p g (k + 2) = pM Q g (k + 2)) ∧ ∀ g, g < NM Q → ¬ coM Q g = -1 := by
  have ev : fX11_everybody Q = Q.1 (60, 0) 13 := by unfold fX11_everybody; rw [h61]; exact Int32.add_zero _
  have g9 := pl.gg
  have eN2 : NM Q = (Q.1 (60, 0) 13).toNatClampNeg := by unfold NM; rw [ev]
  refine ⟨⟨by rw [ev, g9.1]; exact nI_in' (by omega) (by omega), by rw [eN2, pl.g1]⟩, fun g hg => ?_, fun g hg => ?_⟩
  · rw [eN2] at hg
    have c0 := pl.c0 hg
    have b := (pl.g hg).2.1
    have e0 : pC M p g 0 = Q.1 (91, 0) g := b.2
    refine ⟨?_, ?_, fun k hk => (pl.c2 hg k).symm⟩
    · show _ = (if nI g = Q.1 (60, 0) 52 then -1 else coM Q g)
      rw [if_neg (h52 g (by omega)), c0, h125 g (by omega), Int32.add_zero, if_neg]
      rw [e0, t_lt, show (3599 : Int32).toInt = 3599 by decide]
      omega
    · rw [pl.c1 hg, h59, if_pos (by decide)]
  · rw [eN2] at hg
    have b := (pl.g hg).2.1
    have e0 : pC M p g 0 = Q.1 (91, 0) g := b.2
    rw [pl.c0 hg, h125 g (by omega), Int32.add_zero, if_neg (by rw [e0, t_lt, show (3599 : Int32).toInt = 3599 by decide]; omega), e0]
    intro z
    rw [z, t_m1] at b
    omega
theorem JJ.qs0 {M N N1 : eg_H} {C p : Nat} (h : JJ M N C p) (hF : FrN N N1) : QS M p (fX11_clears N1) (M.1 (40, 0)) := by
  have pl := h.plc hF
  obtain ⟨ck1, ck2⟩ := h.ck hF
  have f := fun k => clr_f N1 k
  have m1 : ∀ s, s < 15 → ¬ nI s = -1 := fun s hs => nI_ne_m1 (by omega)
  have n6 := (cN_e pl.cW).2
  obtain ⟨⟨g1, g2⟩, g3, g4⟩ := pl.g0 (fun g hg => by rw [f]; exact m1 g hg) (by rw [f]; rfl) (by rw [f]; rfl) (fun g hg => clr_125 _ hg)
  refine QS_of pl pl.cW pl.wE2 h.oR rfl g2.symm (fun s hs => ⟨rfl, ?_, ?_, rfl, ?_, rfl⟩) g3 ⟨?_, rfl, rfl⟩ (fun l hl => pl.lw hl (by rw [f]; exact m1 l (by omega))) g1 (fun s hs c => ?_) g4 ck1 ck2
  · rw [f 53]; exact (if_pos (m1 s (by omega))).symm
  · rw [f 57]
    by_cases c : dC M p s 2 = 0
    · rw [if_pos c, c]
    · rw [if_neg c]; exact (if_pos (m1 s (by omega))).symm
  · rw [f 55]; exact (if_pos (m1 s (by omega))).symm
  · have := pl.ep
    rw [f 60, f 16] at *
    exact this
  · rw [f 57] at c
    exact absurd c (m1 s (by omega))
/-! ===== waited ===== -/
theorem isTime_n (M : eg_H) (x : Int32) : (fX11_isTime M x = 0 ∧ ¬ vp_in x 3601) ∨ (fX11_isTime M x = 1 ∧ vp_in x 3601) := by
  unfold fX11_isTime fX11_isIn
  rw [t_in]
  by_cases c1 : x < 0
  · rw [if_pos c1]; rw [t_lt, t_0] at c1; exact Or.inl ⟨rfl, by omega⟩
  · rw [if_neg c1]
    rw [t_lt, t_0] at c1
    by_cases c2 : (3600 : Int32) < x
    · rw [if_pos c2]; rw [t_lt, show (3600 : Int32).toInt = 3600 by decide] at c2; exact Or.inl ⟨rfl, by omega⟩
    · rw [if_neg c2]; rw [t_lt, show (3600 : Int32).toInt = 3600 by decide] at c2; exact Or.inr ⟨rfl, by omega⟩
theorem isLength_n (M : eg_H) (x : Int32) : (fX10_isLength M x = 0 ∧ ¬ vp_in x 3601) ∨ (fX10_isLength M x = 1 ∧ vp_in x 3601) := by
  unfold fX10_isLength
  rw [t_in]
  by_cases c1 : x < 0
  · rw [if_pos c1]; rw [t_lt, t_0] at c1; exact Or.inl ⟨rfl, by omega⟩
  · rw [if_neg c1]
    rw [t_lt, t_0] at c1
    by_cases c2 : (3600 : Int32) < x
    · rw [if_pos c2]; rw [t_lt, show (3600 : Int32).toInt = 3600 by decide] at c2; exact Or.inl ⟨rfl, by omega⟩
    · rw [if_neg c2]; rw [t_lt, show (3600 : Int32).toInt = 3600 by decide] at c2; exact Or.inr ⟨rfl, by omega⟩
