/-! EXPRESSIONS: a bracket opened, not, a leaf -/
theorem x_open {q n a at0 k b : Nat} {M N : eg_H} {L l : List Nat} {Y : Int32} (xp : XP q a M N L l k b 1 Y) (ht : tA M N n at0) (n39 : ¬ M.1 (9, 0) 4 = 39) (c8 : lev L < 8) : XP q a (sI (hsC (sI (sI M (6, 0) 11 (nI (lev L + 1))) (6, 0) 12 (nI (clb b (lev L + 1)))) L.length 34) (6, 0) 14 1) (sI (hsM (sI N (60, 0) 45 (nI (lev L + 1))) L.length 34) (60, 0) 48 1) (34 :: L) l k (clb b (lev L + 1)) 1 1 := by
  obtain ⟨p1, p2, p3, ⟨b1, b2, b3, b4⟩, p5, p6, p7, p8⟩ := xp
  have h6 : ∀ j, (sI (hsC (sI (sI M (6, 0) 11 (nI (lev L + 1))) (6, 0) 12 (nI (clb b (lev L + 1)))) L.length 34) (6, 0) 14 1).1 (6, 0) j = if j = 14 then 1 else if j = 10 then nI (L.length + 1) else if j = 12 then nI (clb b (lev L + 1)) else if j = 11 then nI (lev L + 1) else M.1 (6, 0) j := fun j => by rw [sI_rr, hsC_6, sI_rr, sI_rr]
  have h60 : ∀ j, (sI (hsM (sI N (60, 0) 45 (nI (lev L + 1))) L.length 34) (60, 0) 48 1).1 (60, 0) j = if j = 48 then 1 else if j = 43 then nI (L.length + 1) else if j = 45 then nI (lev L + 1) else N.1 (60, 0) j := fun j => by rw [sI_60, hsM_60, sI_60]
  have n0 : nop (34 :: L) = nop L := rfl
  have l0 : lev (34 :: L) = lev L + 1 := rfl
  obtain ⟨⟨_, bb⟩, _, _⟩ := bits0 b b2 (lev L + 1) (by omega)
  have pc : core q a (sI (hsC (sI (sI M (6, 0) 11 (nI (lev L + 1))) (6, 0) 12 (nI (clb b (lev L + 1)))) L.length 34) (6, 0) 14 1) (sI (hsM (sI N (60, 0) 45 (nI (lev L + 1))) L.length 34) (60, 0) 48 1) (34 :: L) l k := by
    have c0 : core q a (sI (sI M (6, 0) 11 (nI (lev L + 1))) (6, 0) 12 (nI (clb b (lev L + 1)))) (sI N (60, 0) 45 (nI (lev L + 1))) L l k := by
      refine p1.cg (by rw [sI_rr, if_neg (by omega), sI_rr, if_neg (by omega)]) (fun r hr => ?_) (fun r x y => sI_ne (kd_ne (by omega))) (fun j hj => by rw [sI_60, if_neg (by omega)])
      have r6 : r ≠ (6, 0) := by
        rcases hr with z | z | z
        · rw [z]; decide
        · rw [z]; exact kd_ne (by omega)
        · rw [z]; exact kd_ne (by omega)
      rw [sI_ne r6, sI_ne r6]
    refine (core_push (t := 34) c0 (by decide) (by rw [l0]; omega) (by rw [n0]; exact p1.2.1.2.2.2)).cg (by rw [sI_rr, if_neg (by omega)]) (fun r hr => ?_) (fun r x y => sI_ne (kd_ne (by omega))) (fun j hj => by rw [sI_60, if_neg (by omega)])
    have r6 : r ≠ (6, 0) := by
      rcases hr with z | z | z
      · rw [z]; decide
      · rw [z]; exact kd_ne (by omega)
      · rw [z]; exact kd_ne (by omega)
    rw [sI_ne r6]
  refine ⟨pc, p2, ⟨?_, ?_⟩, ⟨?_, bb, ?_, ?_⟩, ⟨?_, ?_⟩, ⟨?_, ?_⟩, ⟨?_, ?_⟩, Or.inl ⟨rfl, ?_, fun _ => rfl⟩⟩
  · rw [h6, if_neg (by omega), if_neg (by omega), if_neg (by omega), if_pos rfl]; rfl
  · rw [h60, if_neg (by omega), if_neg (by omega), if_pos rfl]; rfl
  · rw [h6, if_neg (by omega), if_neg (by omega), if_pos rfl]
  · rw [l0, bits1 b b2 _ (by omega) _ (by omega)]
    rw [show (lev L + 1 == lev L + 1) = true from beq_self_eq_true _]
    exact Bool.and_false _
  · refine ⟨fun _ => ?_, okB_c (fun i hi => ?_) b4⟩
    · rw [bits1 b b2 _ (by omega) _ (by omega), show (lev L == lev L + 1) = false from beq_false_of_ne (by omega)]
      rw [b3]
      exact Bool.and_true _
    · rw [bits1 b b2 _ (by omega) _ (by omega), show (i == lev L + 1) = false from beq_false_of_ne (by omega)]
      exact Bool.and_true _
  · rw [h6, if_neg (by omega), if_neg (by omega), if_neg (by omega), if_neg (by omega)]; exact p5.1
  · rw [h60, if_neg (by omega), if_neg (by omega), if_neg (by omega)]; exact p5.2
  · rw [h6, if_pos rfl]
  · rw [h60, if_pos rfl]
  · rw [h6, if_neg (by omega), if_neg (by omega), if_neg (by omega), if_neg (by omega)]; exact p7.1
  · rw [h60, if_neg (by omega), if_neg (by omega), if_neg (by omega)]; exact p7.2
  · rcases p8 with z | z
    · exact z.2.1
    · exact absurd z.1 (by decide)
theorem x_not {q a k b : Nat} {M N : eg_H} {L l : List Nat} {Y : Int32} (xp : XP q a M N L l k b 1 Y) (hY : ¬ Y = 0) (c64 : k + nop L < 64) : XP q a (hsC (sI M (6, 0) 8 (nI (k + nop L + 1))) L.length 15) (hsM (sI N (60, 0) 46 (nI (k + nop L + 1))) L.length 15) (15 :: L) l k b 1 Y := by
  obtain ⟨p1, p2, p3, ⟨b1, b2, b3, b4⟩, p5, p6, p7, p8⟩ := xp
  have h6 : ∀ j, (hsC (sI M (6, 0) 8 (nI (k + nop L + 1))) L.length 15).1 (6, 0) j = if j = 10 then nI (L.length + 1) else if j = 8 then nI (k + nop L + 1) else M.1 (6, 0) j := fun j => by rw [hsC_6, sI_rr]
  have h60 : ∀ j, (hsM (sI N (60, 0) 46 (nI (k + nop L + 1))) L.length 15).1 (60, 0) j = if j = 43 then nI (L.length + 1) else if j = 46 then nI (k + nop L + 1) else N.1 (60, 0) j := fun j => by rw [hsM_60, sI_60]
  have n0 : nop (15 :: L) = nop L + 1 := rfl
  have l0 : lev (15 :: L) = lev L := rfl
  have h0 : hc (15 :: L) = false := rfl
  have hz : hc L = false ∧ l.length = bin L := by
    rcases p8 with z | z
    · exact ⟨z.2.2 hY, z.2.1⟩
    · exact absurd z.1 (by decide)
  have pc : core q a (hsC (sI M (6, 0) 8 (nI (k + nop L + 1))) L.length 15) (hsM (sI N (60, 0) 46 (nI (k + nop L + 1))) L.length 15) (15 :: L) l k := by
    refine core_push (p1.cg (by rw [sI_rr, if_neg (by omega)]) (fun r hr => ?_) (fun r x y => sI_ne (kd_ne (by omega))) (fun j hj => by rw [sI_60, if_neg (by omega)])) (by decide) (by rw [l0]; exact p1.1.2.2.2) (by rw [n0]; omega)
    have r6 : r ≠ (6, 0) := by
      rcases hr with z | z | z
      · rw [z]; decide
      · rw [z]; exact kd_ne (by omega)
      · rw [z]; exact kd_ne (by omega)
    rw [sI_ne r6]
  refine ⟨pc, p2, ⟨?_, ?_⟩, ⟨?_, b2, ?_, ⟨fun z => absurd z (by decide), b4⟩⟩, ⟨?_, ?_⟩, ⟨?_, ?_⟩, ⟨?_, ?_⟩, Or.inl ⟨rfl, hz.2, fun _ => rfl⟩⟩
  · rw [h6, if_neg (by omega), if_neg (by omega)]; exact p3.1
  · rw [h60, if_neg (by omega), if_neg (by omega)]; exact p3.2
  · rw [h6, if_neg (by omega), if_neg (by omega)]; exact b1
  · rw [l0, h0, b3]; exact hz.1
  · rw [h6, if_neg (by omega), if_neg (by omega)]; exact p5.1
  · rw [h60, if_neg (by omega), if_neg (by omega)]; exact p5.2
  · rw [h6, if_neg (by omega), if_neg (by omega)]; exact p6.1
  · rw [h60, if_neg (by omega), if_neg (by omega)]; exact p6.2
  · rw [h6, if_neg (by omega), if_pos rfl, n0]; congr 1
  · rw [h60, if_neg (by omega), if_pos rfl, n0]; congr 1
theorem x_leaf {q a k b : Nat} {M N : eg_H} {L l : List Nat} {Y x X Z : Int32} (xp : XP q a M N L l k b 1 Y) (c64 : k + nop L < 64) (st : ∀ kc km pt ot : Nat → Int32, kc k = x → km k = X → pt k = Z → stp kc km pt ot k l (k :: l)) : XP q a (sI (gk (sI M (6, 0) 8 (nI (k + nop L + 1))) q k x) (6, 0) 13 0) (sI (gr (sI N (60, 0) 46 (nI (k + nop L + 1))) k l.length X Z 0) (60, 0) 47 0) L (k :: l) (k + 1) b 0 Y := by
  obtain ⟨p1, p2, p3, ⟨b1, b2, b3, b4⟩, p5, p6, p7, p8⟩ := xp
  obtain ⟨⟨c1, c2, c3, c4⟩, ⟨c5, c6, c7, c8⟩, c9, c10, c11⟩ := p1
  have h6 : ∀ j, (sI (gk (sI M (6, 0) 8 (nI (k + nop L + 1))) q k x) (6, 0) 13 0).1 (6, 0) j = if j = 13 then 0 else if j = 8 then nI (k + nop L + 1) else M.1 (6, 0) j := fun j => by rw [sI_rr, gk_o _ _ _ _ (kd_ne (by omega)) (kd_ne (by omega)), sI_rr]
  have h60 : ∀ j, (sI (gr (sI N (60, 0) 46 (nI (k + nop L + 1))) k l.length X Z 0) (60, 0) 47 0).1 (60, 0) j = if j = 47 then 0 else if j = 22 then nI (k + 1) else if j = 44 then nI (l.length + 1) else if j = 46 then nI (k + nop L + 1) else N.1 (60, 0) j := fun j => by rw [sI_60, gr_60, sI_60]
  have hz : l.length = bin L := by
    rcases p8 with z | z
    · exact z.2.1
    · exact absurd z.1 (by decide)
  have oN : ∀ r, r ≠ (60, 0) → (sI N (60, 0) 46 (nI (k + nop L + 1))).1 r = N.1 r := fun r hr => sI_ne hr
  have cg := core_g (q := q) (a := a) (k := k) (M := sI M (6, 0) 8 (nI (k + nop L + 1))) (N := sI N (60, 0) 46 (nI (k + nop L + 1))) (L := L) (l0 := l) (l1 := l) (x := x) (X := X) (Y := Z) (Z := 0) ⟨by rw [sI_rr, if_neg (by omega)]; exact c1, by rw [sI_60, if_neg (by omega)]; exact c2, by rw [sI_ne (by decide), oN _ (by decide)]; exact c3, c4⟩ c7 (by omega) (by rw [sI_ne (kd_ne (by omega)), oN _ (by decide), oN _ (by decide), oN _ (by decide)]; exact c9) (by rw [oN _ (by decide)]; exact c11) (fun kc km pt ot h1 h2 h3 _ => st kc km pt ot h1 h2 h3)
  have pc : core q a (sI (gk (sI M (6, 0) 8 (nI (k + nop L + 1))) q k x) (6, 0) 13 0) (sI (gr (sI N (60, 0) 46 (nI (k + nop L + 1))) k l.length X Z 0) (60, 0) 47 0) L (k :: l) (k + 1) := by
    refine cg.cg (by rw [sI_rr, if_neg (by omega)]) (fun r hr => ?_) (fun r x y => sI_ne (kd_ne (by omega))) (fun j hj => by rw [sI_60, if_neg (by omega)])
    have r6 : r ≠ (6, 0) := by
      rcases hr with z | z | z
      · rw [z]; decide
      · rw [z]; exact kd_ne (by omega)
      · rw [z]; exact kd_ne (by omega)
    rw [sI_ne r6]
  refine ⟨pc, p2, ⟨?_, ?_⟩, ⟨?_, b2, b3, b4⟩, ⟨?_, ?_⟩, ⟨?_, ?_⟩, ⟨?_, ?_⟩, Or.inr ⟨rfl, ?_⟩⟩
  · rw [h6, if_neg (by omega), if_neg (by omega)]; exact p3.1
  · rw [h60, if_neg (by omega), if_neg (by omega), if_neg (by omega), if_neg (by omega)]; exact p3.2
  · rw [h6, if_neg (by omega), if_neg (by omega)]; exact b1
  · rw [h6, if_pos rfl]
  · rw [h60, if_pos rfl]
  · rw [h6, if_neg (by omega), if_neg (by omega)]; exact p6.1
  · rw [h60, if_neg (by omega), if_neg (by omega), if_neg (by omega), if_neg (by omega)]; exact p6.2
  · rw [h6, if_neg (by omega), if_pos rfl]; congr 1; omega
  · rw [h60, if_neg (by omega), if_neg (by omega), if_neg (by omega), if_pos rfl]; congr 1; omega
  · show l.length + 1 = _
    rw [hz]
