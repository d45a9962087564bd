section
variable {κ : eg_K} {d : Nat} {M : eg_H} {t p : Nat} {nm st : Nat → Int64} {Z : Nat → Int32}
theorem sX7_admitGuests (hd : 1 ≤ d) (ht : t < 4) (hW : cW M p) (hT : M.2.2 (7, t) 0 = (5, p)) {C : Nat} {Y : Nat → Int32} (hY : yI (cE M p) C Y) (hR : RY (cE M p) Z Y) : eg_S κ gC mtX7_admitGuests d [vR (7, t)] (TX M t p nm st Z) (eQV κ gC (fun M1 => ∃ Z1, M1 = TX M t p nm st Z1 ∧ RY (cE M p) Z1 (itr (admF (cE M p)) (cP M p) Y) ∧ Z1 18 = Z 18)) := by
  have hE := hW.2.2.2.2.1
  obtain ⟨en, hn⟩ := cP_e hW
  have hp2 := hW.1
  refine eg_S.of rfl (Nat.le_of_ble_eq_true rfl) (vX7_admitGuests_0 _ ht ?_)
  refine eg_down (P := fun i => ∀ Z1, RY (cE M p) Z1 (itr (admF (cE M p)) i Y) → Z1 18 = Z 18 → eg_W κ gC mtX7_admitGuests d (eQV κ gC (fun M1 => ∃ Z1, M1 = TX M t p nm st Z1 ∧ RY (cE M p) Z1 (itr (admF (cE M p)) (cP M p) Y) ∧ Z1 18 = Z 18)) 2 [(0, vR (7, t)), (1, vI (nI i))] [] (TX M t p nm st Z1)) (cP M p) (fun i hi k Z1 r1 c1 => ?_) (fun Z1 r1 c1 => ?_) Z hR rfl
  · have hYi := admA_I hE hY i (show i ≤ eP (cE M p) by show i ≤ cP M p; omega)
    have hes : itr (admF (cE M p)) (i + 1) Y = admF (cE M p) i (itr (admF (cE M p)) i Y) := rfl
    rw [hes] at k
    have hi' : i < eP (cE M p) := hi
    have hq := hYi.q16 hE
    have qe := hYi.qe hE
    have h0 := hYi.2.2.2.2.1
    generalize itr (admF (cE M p)) i Y = Yi at *
    have ec0 : eC (cE M p) i 0 = M.1 (0, 15 * p + i) 1 := eC_c hi 0
    have ec1 : eC (cE M p) i 1 = M.1 (0, 15 * p + i) 2 := eC_c hi 1
    have hG := r1.G hi'
    have f0 : ¬ ((Yi (20 + 20 * i) = 0 ∨ Yi (20 + 20 * i) = 2) ∧ Yi (20 + 20 * i + 11) = Yi 0) → admF (cE M p) i Yi = Yi := fun q => if_neg q
    have f1 : ((Yi (20 + 20 * i) = 0 ∨ Yi (20 + 20 * i) = 2) ∧ Yi (20 + 20 * i + 11) = Yi 0) → admF (cE M p) i Yi = comeF (eC (cE M p) i 1) Yi i := fun q => if_pos q
    have comes : ((Yi (20 + 20 * i) = 0 ∨ Yi (20 + 20 * i) = 2) ∧ Yi (20 + 20 * i + 11) = Yi 0) → Yi (20 + 20 * i + 12) = eC (cE M p) i 0 → eg_W κ gC mtX7_admitGuests d (eQV κ gC (fun M1 => ∃ Z1, M1 = TX M t p nm st Z1 ∧ RY (cE M p) Z1 (itr (admF (cE M p)) (cP M p) Y) ∧ Z1 18 = Z 18)) 87 [(0, vR (7, t)), (1, vI (nI i)), (2, vR (2, 15 * t + i))] [] (TX M t p nm st Z1) := by
      intro q h12
      rw [f1 q] at k
      have hnot : ¬ Yi (20 + 20 * i) = 1 := by
        rcases q.1 with e | e <;> rw [e] <;> decide
      have hroom := qI_room hE hYi.1 hi' hnot
      have hroom2 : (Yi 1).toNatClampNeg < 15 := by
        have : eP (cE M p) = cP M p := rfl
        omega
      refine vX7_admitGuests_87 hd _ ht _ (by omega) ⟨fun c => ?_, fun _ M3 e3 M4 e4 => ⟨p, hp2, ?_, nI_in' (by omega) (by omega), fun M7 e7 => ?_⟩⟩
      · rw [T7_6, r1.q, qe] at c
        exact absurd ((nI_le' (a := 15) (by omega) (by omega)).mp c) (by omega)
      · rw [e4, e3]; exact hT
      · rw [W2_0 _ _ _ _ _ _ (by omega)] at e3
        rw [e3, T2_12 _ _ _ _ _ _ (by omega), W2_12 _ _ _ _ _ _ (by omega), pk_un (by omega)] at e4
        rw [e4, nI_t (by omega), cP_TX _ _ _ _ _ _ (by omega)] at e7
        subst e7
        have u1 : (upd (upd (upd (upd (upd (upd Z1 (20 + 20 * i) 1) (20 + 20 * i + 9) (Z1 (20 + 20 * i + 9) + 1)) (20 + 20 * i + 1) (-1)) (20 + 20 * i + 2) (M.1 (0, 15 * p + i) 2)) (20 + 20 * i + 3) 0) (20 + 20 * i + 10) 0) 1 = Yi 1 := by simp (disch := omega) only [pk_un]; exact r1.q
        rw [T7_6, u1]
        refine ⟨by rw [qe]; exact nI_in' (by omega) (by omega), fun M10 e10 M11 e11 x12 e12 => ?_⟩
        rw [W43 _ _ _ _ _ _ (by omega)] at e10
        rw [e10, T7_6, W7_6, pk_un (by omega), u1] at e11
        rw [e11, e12, (nAl i).2.1, ← ec1]
        refine k _ (come_R hE r1 hroom2 qe hi' h12 _) ?_
        simp (disch := omega) only [pk_un]
        exact c1
    have skip : ∀ x, x = nI i + 1 → ¬ ((Yi (20 + 20 * i) = 0 ∨ Yi (20 + 20 * i) = 2) ∧ Yi (20 + 20 * i + 11) = Yi 0) → eg_W κ gC mtX7_admitGuests d (eQV κ gC (fun M1 => ∃ Z1, M1 = TX M t p nm st Z1 ∧ RY (cE M p) Z1 (itr (admF (cE M p)) (cP M p) Y) ∧ Z1 18 = Z 18)) 2 [(0, vR (7, t)), (1, vI x)] [] (TX M t p nm st Z1) := by
      intro x ex q
      rw [f0 q] at k
      rw [ex, (nAl i).2.1]
      exact k Z1 r1 c1
    have k51 : ∀ s0 : Int32, (¬ s0 = 0 ↔ Z1 (20 + 20 * i) = 0 ∧ eC (cE M p) i 0 = Yi 0) → eg_W κ gC mtX7_admitGuests d (eQV κ gC (fun M1 => ∃ Z1, M1 = TX M t p nm st Z1 ∧ RY (cE M p) Z1 (itr (admF (cE M p)) (cP M p) Y) ∧ Z1 18 = Z 18)) 51 [(0, vR (7, t)), (1, vI (nI i)), (2, vR (2, 15 * t + i))] [vI s0] (TX M t p nm st Z1) := by
      intro s0 hs0
      refine vX7_admitGuests_51 _ ht _ (by omega) _ (fun x1 e1 => ?_)
      rw [T2_0 _ _ _ _ _ _ (by omega), T2_6 _ _ _ _ _ _ (by omega), T7_1, r1.s] at e1
      have h2 : ¬ x1 = 0 ↔ Z1 (20 + 20 * i) = 2 ∧ Z1 (20 + 20 * i + 11) = Yi 0 := by
        rw [e1]
        by_cases q : Z1 (20 + 20 * i) = 2
        · rw [if_neg (fun r => r q)]
          by_cases q2 : Z1 (20 + 20 * i + 11) = Yi 0
          · rw [if_neg (fun r => r q2)]
            exact ⟨fun _ => ⟨q, q2⟩, fun _ => by decide⟩
          · rw [if_pos q2]
            exact ⟨fun r => absurd rfl r, fun r => absurd r.2 q2⟩
        · rw [if_pos q]
          exact ⟨fun r => absurd rfl r, fun r => absurd r.1 q⟩
      have first : ¬ s0 = 0 → ((Yi (20 + 20 * i) = 0 ∨ Yi (20 + 20 * i) = 2) ∧ Yi (20 + 20 * i + 11) = Yi 0) ∧ Yi (20 + 20 * i + 12) = eC (cE M p) i 0 := by
        intro c
        obtain ⟨q1, q2⟩ := hs0.mp c
        rcases hG with q | q
        · have q3 := q.1.symm.trans q1
          exact ⟨⟨Or.inl q3, (q.2.2.2.2 q3).trans q2⟩, q.2.1⟩
        · rw [q.2.2] at q2
          rw [← q2, t_m1] at h0
          exact absurd h0 (by omega)
      refine ⟨fun c => comes (first c).1 (first c).2, fun c => ⟨fun c2 x4 e4 => skip x4 e4 (fun q => ?_), fun c2 => ?_⟩⟩
      · rcases hG with r | r
        · rcases q.1 with q1 | q1
          · exact absurd c (hs0.mpr ⟨r.1.trans q1, (r.2.2.2.2 q1).symm.trans q.2⟩)
          · exact absurd c2 (h2.mpr ⟨r.1.trans q1, (r.2.2.2.1 q1).trans q.2⟩)
        · rcases q.1 with q1 | q1
          · rw [r.2.1] at q1; exact absurd q1 (by decide)
          · rw [r.2.1] at q1; exact absurd q1 (by decide)
      · obtain ⟨q1, q2⟩ := h2.mp c2
        rcases hG with q | q
        · have q3 := q.1.symm.trans q1
          exact comes ⟨Or.inr q3, (q.2.2.2.1 q3).symm.trans q2⟩ q.2.1
        · rw [q.1] at q1; exact absurd q1 (by decide)
    refine vX7_admitGuests_2 _ ht _ ⟨p, hp2, hT, fun c => ?_, fun c => ?_⟩
    · rw [T5, en] at c
      exact absurd c (nI_ge hi (by omega))
    · rw [nI_t (by omega), T2_0 _ _ _ _ _ _ (by omega), T0, T7_1, r1.s, ← ec0]
      refine ⟨nI_in' (by omega) (by omega), fun c2 => k51 0 ⟨fun q => absurd rfl q, fun q => absurd q.1 c2⟩, fun c2 x5 e5 => k51 x5 ?_⟩
      rw [e5]
      by_cases q : eC (cE M p) i 0 = Yi 0
      · rw [if_neg (fun r => r q)]
        exact ⟨fun _ => ⟨c2, q⟩, fun _ => by decide⟩
      · rw [if_pos q]
        exact ⟨fun r => absurd rfl r, fun r => absurd r.2 q⟩
  · refine vX7_admitGuests_2 _ ht _ ⟨p, hp2, hT, fun _ => ⟨Z1, rfl, r1, c1⟩, fun c => ?_⟩
    rw [T5, en] at c
    exact absurd (Int32.le_refl _) c
end
