/-! A TOKEN READ on both sides -/
theorem pkC_cong {L K : Nat → Int32} : ∀ n, (∀ i, i < n → L i = K i) → pkC L n = pkC K n
  | 0, _ => rfl
  | n + 1, h => by
    show (if n < 6 then pkC L n ||| ((L n - 97 + 1) <<< nI (5 * (5 - n))) else pkC L n) = if n < 6 then pkC K n ||| ((K n - 97 + 1) <<< nI (5 * (5 - n))) else pkC K n
    rw [pkC_cong n (fun i hi => h i (by omega)), h n (by omega)]
theorem nmF_cong {L K : Nat → Int32} : ∀ n, (∀ i, i < n → L i = K i) → nmF L n = nmF K n
  | 0, _ => rfl
  | n + 1, h => by
    show (if nmF L n ≤ 9999 then nmF L n * 10 + (L n - 48) else nmF L n) = if nmF K n ≤ 9999 then nmF K n * 10 + (K n - 48) else nmF K n
    rw [nmF_cong n (fun i hi => h i (by omega)), h n (by omega)]
theorem lsF_cong {L K : Nat → Int32} {n : Nat} (h : ∀ i, i < n → L i = K i) : lsF L n = lsF K n := by
  unfold lsF
  exact List.map_congr_left (fun i hi => h i (List.mem_range.mp hi))
theorem prm_lt : ∀ w, w < 24 → prm w < 24 := by decide +kernel
theorem sg_R {b m x y : Int32} (hb : bR b m) (hx : bR x y) (num le : Int32) : twK (sgK b x) = (if m = 60 ∨ m = 62 ∨ m = 61 then sgT m y else 1) ∧ (twK (sgK b x) = 2 → y = 61 ∨ y = 62) ∧ (twK (sgK b x) = 1 ∨ twK (sgK b x) = 2) ∧ ¬ sgK b x = 39 ∧ tkR (sgK b x) num le (if m = 60 ∨ m = 62 ∨ m = 61 then 5 else if sgB m = true then 4 else 6) (if m = 60 ∨ m = 62 ∨ m = 61 then sgC m y else m) := by
  have c : ∀ z : Int32, 0 ≤ z.toInt → z.toInt < 128 → (b = z ↔ m = z) := fun z h0 h1 => bR_c hb h0 h1
  have cx : ∀ z : Int32, 0 ≤ z.toInt → z.toInt < 128 → (x = z ↔ y = z) := fun z h0 h1 => bR_c hx h0 h1
  have x61 := cx 61 (by decide) (by decide)
  have x62 := cx 62 (by decide) (by decide)
  have sg : ∀ (k z : Int32), (k, z) ∈ sgL → b = z → sgK b x = k → twK k = 1 → ¬ k = 39 → sgB z = true → ¬ (z = 60 ∨ z = 62 ∨ z = 61) → m = z → twK (sgK b x) = (if m = 60 ∨ m = 62 ∨ m = 61 then sgT m y else 1) ∧ (twK (sgK b x) = 2 → y = 61 ∨ y = 62) ∧ (twK (sgK b x) = 1 ∨ twK (sgK b x) = 2) ∧ ¬ sgK b x = 39 ∧ tkR (sgK b x) num le (if m = 60 ∨ m = 62 ∨ m = 61 then 5 else if sgB m = true then 4 else 6) (if m = 60 ∨ m = 62 ∨ m = 61 then sgC m y else m) := by
    intro k z hk hz e1 e2 e3 e4 e5 e6
    rw [e1, e6, if_neg e5, if_neg e5, if_neg e5, if_pos e4, e2]
    exact ⟨rfl, fun w => absurd w (by decide), Or.inl rfl, e3, Or.inr (Or.inr (Or.inr (Or.inr (Or.inl ⟨z, hk, rfl, rfl⟩))))⟩
  by_cases a0 : b = 40
  · exact sg 34 40 (by decide) a0 (by unfold sgK; rw [a0]; rfl) (by decide) (by decide) (by decide) (by decide) ((c 40 (by decide) (by decide)).mp a0)
  by_cases a1 : b = 41
  · exact sg 35 41 (by decide) a1 (by unfold sgK; rw [a1]; rfl) (by decide) (by decide) (by decide) (by decide) ((c 41 (by decide) (by decide)).mp a1)
  by_cases a2 : b = 42
  · exact sg 26 42 (by decide) a2 (by unfold sgK; rw [a2]; rfl) (by decide) (by decide) (by decide) (by decide) ((c 42 (by decide) (by decide)).mp a2)
  by_cases a3 : b = 43
  · exact sg 24 43 (by decide) a3 (by unfold sgK; rw [a3]; rfl) (by decide) (by decide) (by decide) (by decide) ((c 43 (by decide) (by decide)).mp a3)
  by_cases a4 : b = 45
  · exact sg 25 45 (by decide) a4 (by unfold sgK; rw [a4]; rfl) (by decide) (by decide) (by decide) (by decide) ((c 45 (by decide) (by decide)).mp a4)
  by_cases a5 : b = 47
  · exact sg 27 47 (by decide) a5 (by unfold sgK; rw [a5]; rfl) (by decide) (by decide) (by decide) (by decide) ((c 47 (by decide) (by decide)).mp a5)
  by_cases a6 : b = 59
  · exact sg 36 59 (by decide) a6 (by unfold sgK; rw [a6]; rfl) (by decide) (by decide) (by decide) (by decide) ((c 59 (by decide) (by decide)).mp a6)
  have cmp : ∀ (j t : Nat), j < 6 → sgK b x = nI (28 + j) → twK (nI (28 + j)) = t → (m = 60 ∨ m = 62 ∨ m = 61) → sgT m y = t → (t = 2 → y = 61 ∨ y = 62) → (t = 1 ∨ t = 2) → sgC m y = nI j → ¬ nI (28 + j) = 39 → twK (sgK b x) = (if m = 60 ∨ m = 62 ∨ m = 61 then sgT m y else 1) ∧ (twK (sgK b x) = 2 → y = 61 ∨ y = 62) ∧ (twK (sgK b x) = 1 ∨ twK (sgK b x) = 2) ∧ ¬ sgK b x = 39 ∧ tkR (sgK b x) num le (if m = 60 ∨ m = 62 ∨ m = 61 then 5 else if sgB m = true then 4 else 6) (if m = 60 ∨ m = 62 ∨ m = 61 then sgC m y else m) := by
    intro j t hj e1 e2 e3 e4 e5 e6 e7 e8
    rw [e1, if_pos e3, if_pos e3, if_pos e3, e2, e4, e7]
    exact ⟨rfl, e5, e6, e8, Or.inr (Or.inr (Or.inr (Or.inr (Or.inr (Or.inl ⟨j, hj, rfl, rfl, rfl⟩)))))⟩
  by_cases a7 : b = 60
  · have m7 := (c 60 (by decide) (by decide)).mp a7
    by_cases y1 : y = 61
    · exact cmp 1 2 (by decide) (by unfold sgK; rw [a7, x61.mpr y1]; rfl) (by decide) (Or.inl m7) (by unfold sgT; rw [if_pos m7, if_pos (Or.inl y1)]) (fun _ => Or.inl y1) (Or.inr rfl) (by unfold sgC; rw [m7, y1]; rfl) (by decide)
    · have nx1 : ¬ x = 61 := fun z => y1 (x61.mp z)
      by_cases y2 : y = 62
      · exact cmp 3 2 (by decide) (by unfold sgK; rw [a7, x62.mpr y2]; rfl) (by decide) (Or.inl m7) (by unfold sgT; rw [if_pos m7, if_pos (Or.inr y2)]) (fun _ => Or.inr y2) (Or.inr rfl) (by unfold sgC; rw [m7, y2]; rfl) (by decide)
      · have nx2 : ¬ x = 62 := fun z => y2 (x62.mp z)
        refine cmp 0 1 (by decide) ?_ (by decide) (Or.inl m7) (by unfold sgT; rw [if_pos m7, if_neg (by rintro (z | z); exact y1 z; exact y2 z)]) (fun z => absurd z (by decide)) (Or.inl rfl) ?_ (by decide)
        · unfold sgK
          rw [if_neg a0, if_neg a1, if_neg a2, if_neg a3, if_neg a4, if_neg a5, if_neg a6, if_pos a7, if_pos nx1, if_pos nx2]
          rfl
        · unfold sgC
          rw [m7, if_pos (by decide), if_neg (by decide), if_pos y1, if_pos y2]
          rfl
  by_cases a8 : b = 61
  · have m8 := (c 61 (by decide) (by decide)).mp a8
    exact cmp 2 1 (by decide) (by unfold sgK; rw [a8]; rfl) (by decide) (Or.inr (Or.inr m8)) (by unfold sgT; rw [m8]; rfl) (fun z => absurd z (by decide)) (Or.inl rfl) (by unfold sgC; rw [m8]; rfl) (by decide)
  by_cases a9 : b = 62
  · have m9 := (c 62 (by decide) (by decide)).mp a9
    by_cases y1 : y = 61
    · exact cmp 4 2 (by decide) (by unfold sgK; rw [a9, x61.mpr y1]; rfl) (by decide) (Or.inr (Or.inl m9)) (by unfold sgT; rw [m9, if_neg (by decide), if_pos rfl, if_pos y1]) (fun _ => Or.inl y1) (Or.inr rfl) (by unfold sgC; rw [m9, y1]; rfl) (by decide)
    · have nx1 : ¬ x = 61 := fun z => y1 (x61.mp z)
      refine cmp 5 1 (by decide) ?_ (by decide) (Or.inr (Or.inl m9)) (by unfold sgT; rw [m9, if_neg (by decide), if_pos rfl, if_neg y1]) (fun z => absurd z (by decide)) (Or.inl rfl) ?_ (by decide)
      · unfold sgK
        rw [if_neg a0, if_neg a1, if_neg a2, if_neg a3, if_neg a4, if_neg a5, if_neg a6, if_neg a7, if_neg a8, if_pos a9, if_pos nx1]
        rfl
      · unfold sgC
        rw [m9, if_pos (by decide), if_pos (by decide), if_pos y1]
        rfl
  have ek : sgK b x = 40 := by unfold sgK; rw [if_neg a0, if_neg a1, if_neg a2, if_neg a3, if_neg a4, if_neg a5, if_neg a6, if_neg a7, if_neg a8, if_neg a9]
  have n0 : ¬ m = 40 := fun z => a0 ((c 40 (by decide) (by decide)).mpr z)
  have n1 : ¬ m = 41 := fun z => a1 ((c 41 (by decide) (by decide)).mpr z)
  have n2 : ¬ m = 42 := fun z => a2 ((c 42 (by decide) (by decide)).mpr z)
  have n3 : ¬ m = 43 := fun z => a3 ((c 43 (by decide) (by decide)).mpr z)
  have n4 : ¬ m = 45 := fun z => a4 ((c 45 (by decide) (by decide)).mpr z)
  have n5 : ¬ m = 47 := fun z => a5 ((c 47 (by decide) (by decide)).mpr z)
  have n6 : ¬ m = 59 := fun z => a6 ((c 59 (by decide) (by decide)).mpr z)
  have n7 : ¬ (m = 60 ∨ m = 62 ∨ m = 61) := by
    rintro (z | z | z)
    · exact a7 ((c 60 (by decide) (by decide)).mpr z)
    · exact a9 ((c 62 (by decide) (by decide)).mpr z)
    · exact a8 ((c 61 (by decide) (by decide)).mpr z)
  have eB : sgB m = false := by unfold sgB; simp [n0, n1, n2, n3, n4, n5, n6]
  rw [ek, if_neg n7, if_neg n7, if_neg n7, eB, if_neg (by decide)]
  exact ⟨by decide, fun z => absurd z (by decide), Or.inl (by decide), by decide, Or.inr (Or.inr (Or.inr (Or.inr (Or.inr (Or.inr ⟨rfl, rfl⟩)))))⟩
theorem TOK {M N : eg_H} {n e : Nat} (h : tI M N n e) : PV mtX9_advance mtX11_token [vR (9, 0)] [vR (60, 0)] 7 2 M N (tO M N n e) := by
  obtain ⟨⟨h1, h6, hn⟩, ⟨h3, h7, he⟩, hb, hw⟩ := h
  obtain ⟨p, hp1, hp2, hp3, hp4⟩ := scan_ex (fun i => N.1 (61, 0) i = 10 ∨ N.1 (61, 0) i = 32) n (n - e) e (by omega)
  have bl : ∀ i, i < n → ((M.1 (50, 0) i = 10 ∨ M.1 (50, 0) i = 32) ↔ (N.1 (61, 0) i = 10 ∨ N.1 (61, 0) i = 32)) := fun i hi => by
    rw [bR_c (hb i hi) (show 0 ≤ (10 : Int32).toInt by decide) (by decide), bR_c (hb i hi) (show 0 ≤ (32 : Int32).toInt by decide) (by decide)]
  have cb : ∀ i, e ≤ i → i < p → M.1 (50, 0) i = 10 ∨ M.1 (50, 0) i = 32 := fun i q1 q2 => (bl i (by omega)).mpr (hp3 i q1 q2)
  have cs : p = n ∨ (p < n ∧ ¬ (M.1 (50, 0) p = 10 ∨ M.1 (50, 0) p = 32)) := by
    rcases hp4 with q | ⟨q, q2⟩
    · exact Or.inl q
    · exact Or.inr ⟨q, fun z => q2 ((bl p q).mp z)⟩
  have adv := fun (κ : eg_K) (d : Nat) (post : eg_H → Prop) k => adv_41 (κ := κ) (d := d) (post := post) h1 hn h3 ⟨hp1, hp2⟩ cb cs k
  have tok := fun (κ : eg_K) (d : Nat) (post : eg_H → Prop) k => tok_52 (κ := κ) (d := d) (post := post) h6 hn h7 ⟨hp1, hp2⟩ hp3 hp4 k
  have g1 : (sI (sI M (9, 0) 2 (nI p)) (9, 0) 3 (nI p)).1 (9, 0) 1 = nI n := by simp [sI_9, h1]
  have g2 : (sI (sI M (9, 0) 2 (nI p)) (9, 0) 3 (nI p)).1 (9, 0) 2 = nI p := by simp [sI_9]
  have g50 : (sI (sI M (9, 0) 2 (nI p)) (9, 0) 3 (nI p)).1 (50, 0) = M.1 (50, 0) := by rw [sI_ne (by decide), sI_ne (by decide)]
  have b6 : (sI (sI N (60, 0) 7 (nI p)) (60, 0) 10 (nI p)).1 (60, 0) 6 = nI n := by simp [sI_60, h6]
  have b7 : (sI (sI N (60, 0) 7 (nI p)) (60, 0) 10 (nI p)).1 (60, 0) 7 = nI p := by simp [sI_60]
  have b10 : (sI (sI N (60, 0) 7 (nI p)) (60, 0) 10 (nI p)).1 (60, 0) 10 = nI p := by simp [sI_60]
  have b61 : (sI (sI N (60, 0) 7 (nI p)) (60, 0) 10 (nI p)).1 (61, 0) = N.1 (61, 0) := by rw [sI_ne (by decide), sI_ne (by decide)]
  have b64 : (sI (sI N (60, 0) 7 (nI p)) (60, 0) 10 (nI p)).1 (64, 0) = N.1 (64, 0) := by rw [sI_ne (by decide), sI_ne (by decide)]
  have e7 : (sI N (60, 0) 7 (nI p)).1 (60, 0) 7 = nI p := by simp [sI_60]
  by_cases hpn : p = n
  · -- the end
    refine ⟨sI (sI (sI M (9, 0) 2 (nI p)) (9, 0) 3 (nI p)) (9, 0) 4 39, sI (sI (sI N (60, 0) 7 (nI p)) (60, 0) 10 (nI p)) (60, 0) 8 0, fun κ d hd => ?_, fun κ d hd => ?_, ?_⟩
    · refine eg_S.of rfl (Nat.le_of_ble_eq_true rfl) (adv κ d _ (vX9_advance_41 (by omega) M _ (fun M1 e1 M2 e2 => ?_)))
      rw [e1] at e2
      rw [e2, g1]
      exact ⟨fun c => absurd ((nI_lt' (by omega) (by omega)).mp c) (by omega), fun _ M9 e9 => e9⟩
    · refine eg_S.of rfl (Nat.le_of_ble_eq_true rfl) (tok κ d _ (vX11_token_52 (by omega) _ (fun M1 e1 => ?_)))
      rw [e7] at e1
      rw [e1, b7, b6]
      exact ⟨fun c => absurd (by rw [hpn]) c, fun _ M15 e15 => e15⟩
    · refine ⟨⟨fun r hr => by rw [sI_ne hr, sI_ne hr, sI_ne hr], rfl, by simp [sI_9]⟩, ⟨fun r hr => by rw [sI_ne hr, sI_ne hr, sI_ne hr], rfl, fun k hk => ?_⟩, p, p, hp1, Nat.le_refl _, hp2, by simp [sI_9], by simp [sI_60], by simp [sI_9], by simp [sI_60], Or.inl ⟨by simp [sI_9], by simp [sI_60]⟩, Or.inl ⟨by simp [sI_9], hpn⟩⟩
      rw [sI_60, if_neg (by omega), sI_60, if_neg (by omega), sI_60, if_neg (by omega)]
  · have hpl : p < n := by omega
    -- the class at its first byte
    have adv2 : ∀ (κ : eg_K) (d : Nat), 7 ≤ d → ∀ post : eg_H → Prop, (vp_in (nI p) 800 ∧ (M.1 (50, 0) p < 97 → eg_W κ gC mtX9_advance d (eQV κ gC post) 97 [(0, vR (9, 0)), (1, vI (nI p))] [] (sI (sI M (9, 0) 2 (nI p)) (9, 0) 3 (nI p))) ∧ ((¬ M.1 (50, 0) p < 97) → (122 < M.1 (50, 0) p → eg_W κ gC mtX9_advance d (eQV κ gC post) 97 [(0, vR (9, 0)), (1, vI (nI p))] [] (sI (sI M (9, 0) 2 (nI p)) (9, 0) 3 (nI p))) ∧ ((¬ 122 < M.1 (50, 0) p) → eCV κ gC mtX9_readWord d [vR (9, 0)] (sI (sI M (9, 0) 2 (nI p)) (9, 0) 3 (nI p)) (fun M7 => post M7)))) → eg_S κ gC mtX9_advance d [vR (9, 0)] M (eQV κ gC post) := by
      intro κ d hd post k
      refine eg_S.of rfl (Nat.le_of_ble_eq_true rfl) (adv κ d _ (vX9_advance_41 (by omega) M _ (fun M1 e1 M2 e2 => ?_)))
      rw [e1] at e2
      rw [e2, g1, g50, nI_t (by omega)]
      exact ⟨fun _ => k, fun c => absurd ((nI_lt' (by omega) (by omega)).mpr hpl) c⟩
    have sm := isSm_n (sI (sI N (60, 0) 7 (nI p)) (60, 0) 10 (nI p)) b6 hn hp2
    have di := isDi_n (sI (sI N (60, 0) 7 (nI p)) (60, 0) 10 (nI p)) b6 hn hp2
    rw [b61] at sm di
    have tok2 : ∀ (κ : eg_K) (d : Nat), 2 ≤ d → ∀ post : eg_H → Prop, ((fX11_isSmall (sI (sI N (60, 0) 7 (nI p)) (60, 0) 10 (nI p)) (nI p) = 0 → (fX11_isDigit (sI (sI N (60, 0) 7 (nI p)) (60, 0) 10 (nI p)) (nI p) = 0 → eCV κ gM mtX11_signToken d [vR (60, 0)] (sI (sI N (60, 0) 7 (nI p)) (60, 0) 10 (nI p)) (fun M11 => post M11)) ∧ ((¬ fX11_isDigit (sI (sI N (60, 0) 7 (nI p)) (60, 0) 10 (nI p)) (nI p) = 0) → eg_W κ gM mtX11_token d (eQV κ gM post) 213 [(0, vR (60, 0))] [] (sI (sI (sI (sI N (60, 0) 7 (nI p)) (60, 0) 10 (nI p)) (60, 0) 8 3) (60, 0) 9 0))) ∧ ((¬ fX11_isSmall (sI (sI N (60, 0) 7 (nI p)) (60, 0) 10 (nI p)) (nI p) = 0) → eg_W κ gM mtX11_token d (eQV κ gM post) 90 [(0, vR (60, 0))] [] (sI (sI N (60, 0) 7 (nI p)) (60, 0) 10 (nI p)))) → eg_S κ gM mtX11_token d [vR (60, 0)] N (eQV κ gM post) := by
      intro κ d hd post k
      refine eg_S.of rfl (Nat.le_of_ble_eq_true rfl) (tok κ d _ (vX11_token_52 (by omega) _ (fun M1 e1 => ?_)))
      rw [e7] at e1
      rw [e1, b7, b6]
      refine ⟨fun _ => ⟨sm.1, fun x5 e5 => ⟨fun c => ⟨di.1, fun x9 e9 => ⟨fun c2 => ?_, fun c2 M13 e13 M14 e14 => ?_⟩⟩, fun c => ?_⟩⟩, fun c => absurd ((nI_eq' (by omega) (by omega)).mp c) hpn⟩
      · exact (k.1 (e5 ▸ c)).1 (e9 ▸ c2)
      · rw [e14, e13]
        exact (k.1 (e5 ▸ c)).2 (e9 ▸ c2)
      · exact k.2 (e5 ▸ c)
    by_cases lt : ¬ M.1 (50, 0) p < 97 ∧ ¬ 122 < M.1 (50, 0) p
    · -- a word
      have le : ∀ i, i < n → ((¬ M.1 (50, 0) i < 97 ∧ ¬ 122 < M.1 (50, 0) i) ↔ (¬ N.1 (61, 0) i < 97 ∧ ¬ 122 < N.1 (61, 0) i)) := fun i hi => (bR_r (hb i hi) (by decide) (by decide)).1
      obtain ⟨q, hq1, hq2, hq3, hq4⟩ := scan_ex (fun i => ¬ N.1 (61, 0) i < 97 ∧ ¬ 122 < N.1 (61, 0) i) n (n - p) p (by omega)
      have hpq : p < q := by
        refine Nat.lt_of_le_of_ne hq1 (fun z => ?_)
        rcases hq4 with w | w
        · omega
        · exact w.2 (by rw [← z]; exact (le p hpl).mp lt)
      have ql : ∀ i, p ≤ i → i < q → ¬ M.1 (50, 0) i < 97 ∧ ¬ 122 < M.1 (50, 0) i := fun i w1 w2 => (le i (by omega)).mpr (hq3 i w1 w2)
      have qs : q = n ∨ (q < n ∧ ¬ (¬ M.1 (50, 0) q < 97 ∧ ¬ 122 < M.1 (50, 0) q)) := by
        rcases hq4 with w | ⟨w, w2⟩
        · exact Or.inl w
        · exact Or.inr ⟨w, fun z => w2 ((le q w).mp z)⟩
      have same : ∀ i, i < q - p → M.1 (50, 0) (p + i) = N.1 (61, 0) (p + i) := fun i hi => by
        obtain ⟨w1, w2⟩ := ql (p + i) (by omega) (by omega)
        exact (bR_r (hb (p + i) (by omega)) (show 0 ≤ (97 : Int32).toInt by decide) (by decide)).2 w1 w2
      have els : lsF (fun i => M.1 (50, 0) (p + i)) (q - p) = lsF (fun i => N.1 (61, 0) (p + i)) (q - p) := lsF_cong same
      have rd := fun (κ : eg_K) (d : Nat) (hd : 6 ≤ d) => sX9_readWord (κ := κ) hd (sI (sI M (9, 0) 2 (nI p)) (9, 0) 3 (nI p)) g1 hn g2 ⟨hpq, hq2⟩ (by rw [g50]; exact ql) (by rw [g50]; exact qs)
      rw [g50] at rd
      have t9 := fun (κ : eg_K) (d : Nat) (hd : 1 ≤ d) (f kd wh : Int32) (hf : f = fstL (lsF (fun i => N.1 (61, 0) (p + i)) (q - p)) mWs 0) (hk : kd = if f < 0 then (if q - p ≤ 6 then 2 else 6) else 1) (hwh : wh = if kd = 2 then pkM (fun i => N.1 (61, 0) (p + i)) (q - p) 6 else f) => tok_90 (κ := κ) (f := f) (kd := kd) (wh := wh) hd (sI (sI N (60, 0) 7 (nI p)) (60, 0) 10 (nI p)) b6 hn b7 b10 (by rw [b64]; exact hw) ⟨hpq, hq2⟩ (by rw [b61]; exact hq3) (by rw [b61]; exact hq4) (by rw [b61]; exact hf) hk (by rw [b61]; exact hwh)
      have fin : ∀ f kd wh : Int32, f = fstL (lsF (fun i => N.1 (61, 0) (p + i)) (q - p)) mWs 0 → kd = (if f < 0 then (if q - p ≤ 6 then 2 else 6) else 1) → wh = (if kd = 2 then pkM (fun i => N.1 (61, 0) (p + i)) (q - p) 6 else f) → tkR (wdK (fun i => M.1 (50, 0) (p + i)) (q - p)) (M.1 (9, 0) 5) (pkC (fun i => M.1 (50, 0) (p + i)) (q - p)) kd wh → ¬ wdK (fun i => M.1 (50, 0) (p + i)) (q - p) = 39 → PV mtX9_advance mtX11_token [vR (9, 0)] [vR (60, 0)] 7 2 M N (tO M N n e) := by
        intro f kd wh hf hk hwh ht h39
        refine ⟨sI (sI (sI (sI (sI M (9, 0) 2 (nI p)) (9, 0) 3 (nI p)) (9, 0) 3 (nI q)) (9, 0) 6 (pkC (fun i => M.1 (50, 0) (p + i)) (q - p))) (9, 0) 4 (wdK (fun i => M.1 (50, 0) (p + i)) (q - p)), sI (sI (sI (sI (sI N (60, 0) 7 (nI p)) (60, 0) 10 (nI p)) (60, 0) 7 (nI q)) (60, 0) 8 kd) (60, 0) 9 wh, fun κ d hd => ?_, fun κ d hd => ?_, ?_⟩
        · exact adv2 κ d hd _ ⟨nI_in' (by omega) (by omega), fun c => absurd c lt.1, fun _ => ⟨fun c => absurd c lt.2, fun _ => ⟨_, rd κ (d - 1) (by omega), fun M7 e7 => e7⟩⟩⟩
        · exact tok2 κ d hd _ ⟨fun c => absurd (c.symm.trans (sm.2.1 ⟨hpl, (le p hpl).mp lt⟩)) (by decide), fun _ => t9 κ d (by omega) f kd wh hf hk hwh⟩
        · refine ⟨⟨fun r hr => by rw [sI_ne hr, sI_ne hr, sI_ne hr, sI_ne hr, sI_ne hr], rfl, by simp [sI_9]⟩, ⟨fun r hr => by rw [sI_ne hr, sI_ne hr, sI_ne hr, sI_ne hr, sI_ne hr], rfl, fun k hk => ?_⟩, p, q, hp1, hq1, hq2, by simp [sI_9], by simp [sI_60], by simp [sI_9], by simp [sI_60], ?_, Or.inr ⟨?_, hpq⟩⟩
          · rw [sI_60, if_neg (by omega), sI_60, if_neg (by omega), sI_60, if_neg (by omega), sI_60, if_neg (by omega), sI_60, if_neg (by omega)]
          · simp only [sI_9, sI_60, if_true, Nat.reduceEqDiff, if_false, reduceIte]
            exact ht
          · simp only [sI_9, if_true]
            exact h39
      rcases words_R (lsF (fun i => N.1 (61, 0) (p + i)) (q - p)) with ⟨w1, w2⟩ | ⟨w, hw24, w1, w2⟩
      · have er : wdK (fun i => M.1 (50, 0) (p + i)) (q - p) = if q - p ≤ 6 then 38 else 40 := by unfold wdK; rw [els, w1, if_pos rfl]
        by_cases z : q - p ≤ 6
        · rw [if_pos z] at er
          refine fin (-1) 2 (pkM (fun i => N.1 (61, 0) (p + i)) (q - p) 6) w2.symm (by rw [if_pos (by decide), if_pos z]) (if_pos rfl).symm ?_ (by rw [er]; decide)
          rw [er]
          refine Or.inr (Or.inr (Or.inl ⟨rfl, rfl, ?_⟩))
          rw [pkC_cong (K := fun i => N.1 (61, 0) (p + i)) _ same, pk_R _ z]
        · rw [if_neg z] at er
          refine fin (-1) 6 (-1) w2.symm (by rw [if_pos (by decide), if_neg z]) (if_neg (by decide)).symm ?_ (by rw [er]; decide)
          rw [er]
          exact Or.inr (Or.inr (Or.inr (Or.inr (Or.inr (Or.inr ⟨rfl, rfl⟩)))))
      · have pl := prm_lt w hw24
        have er : wdK (fun i => M.1 (50, 0) (p + i)) (q - p) = nI w := by unfold wdK; rw [els, w1, if_neg (nI_ne_m1 (by omega))]
        refine fin (nI (prm w)) 1 (nI (prm w)) w2.symm (by rw [if_neg (nI_pos (by omega))]) (if_neg (by decide)).symm ?_ (by rw [er]; exact fun z => absurd ((nI_eq' (b := 39) (by omega) (by omega)).mp z) (by omega))
        rw [er]
        exact Or.inr (Or.inl ⟨w, hw24, rfl, rfl, rfl⟩)
    · have nlt : ¬ (p < n ∧ ¬ N.1 (61, 0) p < 97 ∧ ¬ 122 < N.1 (61, 0) p) := fun z => lt (((bR_r (hb p hpl) (show 0 ≤ (97 : Int32).toInt by decide) (show (122 : Int32).toInt < 128 by decide)).1).mpr z.2)
      have adv3 : ∀ (κ : eg_K) (d : Nat), 7 ≤ d → ∀ post : eg_H → Prop, (vp_in (nI p) 800 ∧ (M.1 (50, 0) p < 48 → eCV κ gC mtX9_readSign d [vR (9, 0)] (sI (sI M (9, 0) 2 (nI p)) (9, 0) 3 (nI p)) (fun M3 => post M3)) ∧ ((¬ M.1 (50, 0) p < 48) → (57 < M.1 (50, 0) p → eCV κ gC mtX9_readSign d [vR (9, 0)] (sI (sI M (9, 0) 2 (nI p)) (9, 0) 3 (nI p)) (fun M3 => post M3)) ∧ ((¬ 57 < M.1 (50, 0) p) → eCV κ gC mtX9_readNumber d [vR (9, 0)] (sI (sI M (9, 0) 2 (nI p)) (9, 0) 3 (nI p)) (fun M3 => post M3)))) → eg_S κ gC mtX9_advance d [vR (9, 0)] M (eQV κ gC post) := by
        intro κ d hd post k
        have k97 : eg_W κ gC mtX9_advance d (eQV κ gC post) 97 [(0, vR (9, 0)), (1, vI (nI p))] [] (sI (sI M (9, 0) 2 (nI p)) (9, 0) 3 (nI p)) := by
          refine vX9_advance_97 (by omega) _ _ ?_
          rw [nI_t (by omega), g50]
          exact k
        refine adv2 κ d hd post ⟨nI_in' (by omega) (by omega), fun _ => k97, fun c => ⟨fun _ => k97, fun c2 => absurd ⟨c, c2⟩ lt⟩⟩
      by_cases dg : ¬ M.1 (50, 0) p < 48 ∧ ¬ 57 < M.1 (50, 0) p
      · -- a number
        have le : ∀ i, i < n → ((¬ M.1 (50, 0) i < 48 ∧ ¬ 57 < M.1 (50, 0) i) ↔ (¬ N.1 (61, 0) i < 48 ∧ ¬ 57 < N.1 (61, 0) i)) := fun i hi => (bR_r (hb i hi) (by decide) (by decide)).1
        obtain ⟨q, hq1, hq2, hq3, hq4⟩ := scan_ex (fun i => ¬ N.1 (61, 0) i < 48 ∧ ¬ 57 < N.1 (61, 0) i) n (n - p) p (by omega)
        have hpq : p < q := by
          refine Nat.lt_of_le_of_ne hq1 (fun z => ?_)
          rcases hq4 with w | w
          · omega
          · exact w.2 (by rw [← z]; exact (le p hpl).mp dg)
        have ql : ∀ i, p ≤ i → i < q → ¬ M.1 (50, 0) i < 48 ∧ ¬ 57 < M.1 (50, 0) i := fun i w1 w2 => (le i (by omega)).mpr (hq3 i w1 w2)
        have qs : q = n ∨ (q < n ∧ ¬ (¬ M.1 (50, 0) q < 48 ∧ ¬ 57 < M.1 (50, 0) q)) := by
          rcases hq4 with w | ⟨w, w2⟩
          · exact Or.inl w
          · exact Or.inr ⟨w, fun z => w2 ((le q w).mp z)⟩
        have same : ∀ i, i < q - p → M.1 (50, 0) (p + i) = N.1 (61, 0) (p + i) := fun i hi => by
          obtain ⟨w1, w2⟩ := ql (p + i) (by omega) (by omega)
          exact (bR_r (hb (p + i) (by omega)) (show 0 ≤ (48 : Int32).toInt by decide) (by decide)).2 w1 w2
        have en : nmF (fun i => M.1 (50, 0) (p + i)) (q - p) = nmF (fun i => N.1 (61, 0) (p + i)) (q - p) := nmF_cong _ same
        have bn := nmF_b (fun i => M.1 (50, 0) (p + i)) (q - p) (fun i hi => ql (p + i) (by omega) (by omega))
        have rd := fun (κ : eg_K) (d : Nat) => sX9_readNumber (κ := κ) (d := d) (sI (sI M (9, 0) 2 (nI p)) (9, 0) 3 (nI p)) g1 hn g2 ⟨hpq, hq2⟩ (by rw [g50]; exact ql) (by rw [g50]; exact qs)
        rw [g50] at rd
        have t9 := fun (κ : eg_K) (d : Nat) (hd : 1 ≤ d) => tok_213 (κ := κ) hd (sI (sI (sI (sI N (60, 0) 7 (nI p)) (60, 0) 10 (nI p)) (60, 0) 8 3) (60, 0) 9 0) (n := n) (p := p) (q := q) (by simp [sI_60, h6]) hn (by simp [sI_60]) (by simp [sI_60]) ⟨hpq, hq2⟩ (by rw [sI_ne (by decide), sI_ne (by decide), b61]; exact hq3) (by rw [sI_ne (by decide), sI_ne (by decide), b61]; exact hq4)
        have bb : (sI (sI (sI (sI N (60, 0) 7 (nI p)) (60, 0) 10 (nI p)) (60, 0) 8 3) (60, 0) 9 0).1 (61, 0) = N.1 (61, 0) := by rw [sI_ne (by decide), sI_ne (by decide), b61]
        rw [bb] at t9
        refine ⟨sI (sI (sI (sI (sI M (9, 0) 2 (nI p)) (9, 0) 3 (nI p)) (9, 0) 3 (nI q)) (9, 0) 5 (nmF (fun i => M.1 (50, 0) (p + i)) (q - p))) (9, 0) 4 37, sI (sI (sI (sI (sI (sI N (60, 0) 7 (nI p)) (60, 0) 10 (nI p)) (60, 0) 8 3) (60, 0) 9 0) (60, 0) 9 (nmF (fun i => N.1 (61, 0) (p + i)) (q - p))) (60, 0) 7 (nI q), fun κ d hd => ?_, fun κ d hd => ?_, ?_⟩
        · exact adv3 κ d hd _ ⟨nI_in' (by omega) (by omega), fun c => absurd c dg.1, fun _ => ⟨fun c => absurd c dg.2, fun _ => ⟨_, rd κ (d - 1), fun M7 e7 => e7⟩⟩⟩
        · exact tok2 κ d hd _ ⟨fun _ => ⟨fun c => absurd (c.symm.trans (di.2.1 ⟨hpl, (le p hpl).mp dg⟩)) (by decide), fun _ => t9 κ d (by omega)⟩, fun c => absurd (sm.2.2 nlt) c⟩
        · refine ⟨⟨fun r hr => by rw [sI_ne hr, sI_ne hr, sI_ne hr, sI_ne hr, sI_ne hr], rfl, by simp [sI_9]⟩, ⟨fun r hr => by rw [sI_ne hr, sI_ne hr, sI_ne hr, sI_ne hr, sI_ne hr, sI_ne hr], rfl, fun k hk => ?_⟩, p, q, hp1, hq1, hq2, by simp [sI_9], by simp [sI_60], by simp [sI_9], by simp [sI_60], ?_, Or.inr ⟨by simp [sI_9], hpq⟩⟩
          · rw [sI_60, if_neg (by omega), sI_60, if_neg (by omega), sI_60, if_neg (by omega), sI_60, if_neg (by omega), sI_60, if_neg (by omega), sI_60, if_neg (by omega)]
          · refine Or.inr (Or.inr (Or.inr (Or.inl ⟨by simp [sI_9], by simp [sI_60], ?_, ?_⟩)))
            · simp [sI_9, sI_60, en]
            · simp only [sI_9, if_true, Nat.reduceEqDiff, if_false, reduceIte]
              exact bn
      · -- a sign
        have ndg : ¬ (p < n ∧ ¬ N.1 (61, 0) p < 48 ∧ ¬ 57 < N.1 (61, 0) p) := fun z => dg (((bR_r (hb p hpl) (show 0 ≤ (48 : Int32).toInt by decide) (show (57 : Int32).toInt < 128 by decide)).1).mpr z.2)
        have bx : bR (if n ≤ p + 1 then 0 else M.1 (50, 0) (p + 1)) (if n ≤ p + 1 then 0 else N.1 (61, 0) (p + 1)) := by
          by_cases z : n ≤ p + 1
          · rw [if_pos z, if_pos z]; exact Or.inl ⟨by decide, by decide, rfl⟩
          · rw [if_neg z, if_neg z]; exact hb (p + 1) (by omega)
        have rd := fun (κ : eg_K) (d : Nat) => sX9_readSign (κ := κ) (d := d) (sI (sI M (9, 0) 2 (nI p)) (9, 0) 3 (nI p)) g1 hn g2 hpl (x := if n ≤ p + 1 then 0 else M.1 (50, 0) (p + 1)) (by rw [g50])
        rw [g50] at rd
        have st := fun (κ : eg_K) (d : Nat) => sX11_signToken (κ := κ) (d := d) (sI (sI N (60, 0) 7 (nI p)) (60, 0) 10 (nI p)) b6 hn b7 hpl (m := N.1 (61, 0) p) (x := if n ≤ p + 1 then 0 else N.1 (61, 0) (p + 1)) (by rw [b61]) (by rw [b61])
        obtain ⟨r1, r2, r3, r4, r5⟩ := sg_R (hb p hpl) bx (M.1 (9, 0) 5) (M.1 (9, 0) 6)
        have hle : p + twK (sgK (M.1 (50, 0) p) (if n ≤ p + 1 then 0 else M.1 (50, 0) (p + 1))) ≤ n := by
          rcases r3 with z | z
          · omega
          · rw [z]
            by_cases w : n ≤ p + 1
            · have := r2 z
              rw [if_pos w] at this
              rcases this with v | v <;> exact absurd v (by decide)
            · omega
        have eN : (if N.1 (61, 0) p = 60 ∨ N.1 (61, 0) p = 62 ∨ N.1 (61, 0) p = 61 then sI (sI (sI (sI (sI N (60, 0) 7 (nI p)) (60, 0) 10 (nI p)) (60, 0) 7 (nI (p + sgT (N.1 (61, 0) p) (if n ≤ p + 1 then 0 else N.1 (61, 0) (p + 1))))) (60, 0) 8 5) (60, 0) 9 (sgC (N.1 (61, 0) p) (if n ≤ p + 1 then 0 else N.1 (61, 0) (p + 1))) else sI (sI (sI (sI (sI N (60, 0) 7 (nI p)) (60, 0) 10 (nI p)) (60, 0) 7 (nI (p + 1))) (60, 0) 8 (if sgB (N.1 (61, 0) p) = true then 4 else 6)) (60, 0) 9 (N.1 (61, 0) p)) = sI (sI (sI (sI (sI N (60, 0) 7 (nI p)) (60, 0) 10 (nI p)) (60, 0) 7 (nI (p + twK (sgK (M.1 (50, 0) p) (if n ≤ p + 1 then 0 else M.1 (50, 0) (p + 1)))))) (60, 0) 8 (if N.1 (61, 0) p = 60 ∨ N.1 (61, 0) p = 62 ∨ N.1 (61, 0) p = 61 then 5 else if sgB (N.1 (61, 0) p) = true then 4 else 6)) (60, 0) 9 (if N.1 (61, 0) p = 60 ∨ N.1 (61, 0) p = 62 ∨ N.1 (61, 0) p = 61 then sgC (N.1 (61, 0) p) (if n ≤ p + 1 then 0 else N.1 (61, 0) (p + 1)) else N.1 (61, 0) p) := by
          rw [r1]
          by_cases w : N.1 (61, 0) p = 60 ∨ N.1 (61, 0) p = 62 ∨ N.1 (61, 0) p = 61
          · rw [if_pos w, if_pos w, if_pos w, if_pos w]
          · rw [if_neg w, if_neg w, if_neg w, if_neg w]
        rw [eN] at st
        generalize sgK (M.1 (50, 0) p) (if n ≤ p + 1 then 0 else M.1 (50, 0) (p + 1)) = kk at *
        generalize (if N.1 (61, 0) p = 60 ∨ N.1 (61, 0) p = 62 ∨ N.1 (61, 0) p = 61 then (5 : Int32) else if sgB (N.1 (61, 0) p) = true then 4 else 6) = kd at *
        generalize (if N.1 (61, 0) p = 60 ∨ N.1 (61, 0) p = 62 ∨ N.1 (61, 0) p = 61 then sgC (N.1 (61, 0) p) (if n ≤ p + 1 then 0 else N.1 (61, 0) (p + 1)) else N.1 (61, 0) p) = wh at *
        refine ⟨sI (sI (sI (sI M (9, 0) 2 (nI p)) (9, 0) 3 (nI p)) (9, 0) 3 (nI (p + twK kk))) (9, 0) 4 kk, sI (sI (sI (sI (sI N (60, 0) 7 (nI p)) (60, 0) 10 (nI p)) (60, 0) 7 (nI (p + twK kk))) (60, 0) 8 kd) (60, 0) 9 wh, fun κ d hd => ?_, fun κ d hd => ?_, ?_⟩
        · exact adv3 κ d hd _ ⟨nI_in' (by omega) (by omega), fun _ => ⟨_, rd κ (d - 1), fun M7 e7 => e7⟩, fun c => ⟨fun _ => ⟨_, rd κ (d - 1), fun M7 e7 => e7⟩, fun c2 => absurd ⟨c, c2⟩ dg⟩⟩
        · exact tok2 κ d hd _ ⟨fun _ => ⟨fun _ => ⟨_, st κ (d - 1), fun M7 e7 => e7⟩, fun c => absurd (di.2.2 ndg) c⟩, fun c => absurd (sm.2.2 nlt) c⟩
        · refine ⟨⟨fun r hr => by rw [sI_ne hr, sI_ne hr, sI_ne hr, sI_ne hr], rfl, by simp [sI_9]⟩, ⟨fun r hr => by rw [sI_ne hr, sI_ne hr, sI_ne hr, sI_ne hr, sI_ne hr], rfl, fun k hk => ?_⟩, p, p + twK kk, hp1, Nat.le_add_right _ _, hle, by simp [sI_9], by simp [sI_60], by simp [sI_9], by simp [sI_60], ?_, Or.inr ⟨?_, by rcases r3 with z | z <;> omega⟩⟩
          · rw [sI_60, if_neg (by omega), sI_60, if_neg (by omega), sI_60, if_neg (by omega), sI_60, if_neg (by omega), sI_60, if_neg (by omega)]
          · simp only [sI_9, sI_60, if_true, Nat.reduceEqDiff, if_false, reduceIte]
            exact r5
          · simp only [sI_9, if_true]
            exact r4
