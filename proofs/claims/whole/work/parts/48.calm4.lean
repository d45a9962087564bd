/-! A CALM SECOND IS A REPEATED ONE -/
theorem itr_id {f : Nat → (Nat → Int32) → (Nat → Int32)} {Y : Nat → Int32} : ∀ {n : Nat}, (∀ k, k < n → f k Y = Y) → itr f n Y = Y
  | 0, _ => rfl
  | n + 1, h => by
    show f n (itr f n Y) = Y
    rw [itr_id (fun k hk => h k (by omega)), h n (by omega)]
theorem upd_upd (f : Nat → Int32) (k : Nat) (x y : Int32) : upd (upd f k x) k y = upd f k y := by
  funext j
  unfold upd
  by_cases c : j = k
  · rw [if_pos c, if_pos c]
  · rw [if_neg c, if_neg c, if_neg c]
theorem AG_4 {E : eg_E} {Y Y1 : Nat → Int32} (hE : wE E) (hq : (Y 1).toNatClampNeg < 16) (h : ∀ j, (∀ g, g < 15 → j ≠ 20 + 20 * g + 4) → Y1 j = Y j) : AG E (fun _ => True) Y Y1 := by
  have hn := hE.1
  have hN := hE.2.1
  refine ⟨h _ (by omega), fun k hk => h _ (by omega), fun q hq => h _ (by omega), fun s hs => h _ (by omega), fun g hg _ => ⟨fun f hf => h _ (by omega), ?_, ?_⟩, fun g hg x => ?_⟩
  · rw [h _ (by omega)]
  · rw [h _ (by omega)]
  · rw [h _ (by omega), h _ (by omega)]
theorem CF_w {Y : Nat → Int32} {m j : Nat} (h : ∀ g, g < 15 → j ≠ 20 + 20 * g + 4) : CF Uw Y m j = Y j := by
  by_cases c2 : j < 20 ∨ 320 ≤ j
  · rw [CF_o c2]
  · have e : j = 20 + 20 * ((j - 20) / 20) + (j - 20) % 20 := by omega
    have h15 : (j - 20) / 20 < 15 := by omega
    have h20 : (j - 20) % 20 < 20 := by omega
    have h4 : (j - 20) % 20 ≠ 4 := by have := h ((j - 20) / 20) h15; omega
    rw [e]
    generalize (j - 20) / 20 = g at *
    generalize (j - 20) % 20 = f at *
    by_cases c3 : inQ Y m g
    · rw [CF_in h15 h20 c3]
      exact if_neg h4
    · rw [CF_out h20 c3]
theorem walk_calm {E : eg_E} {C : Nat} {Y : Nat → Int32} (hE : wE E) (hY : yI E C Y) (hc : ∀ k, k < (Y 1).toNatClampNeg → CQ E Y k) : ∀ (n i : Nat), i ≤ (Y 1).toNatClampNeg → (Y 1).toNatClampNeg ≤ n + i → walkF E n i (CF Uw Y i) = CF Uw Y (Y 1).toNatClampNeg
  | 0, i, h1, h2 => by
    have : i = (Y 1).toNatClampNeg := by omega
    rw [this]
    rfl
  | n + 1, i, h1, h2 => by
    have hn := hE.1
    have hN := hE.2.1
    have hq16 := hY.q16 hE
    have a1 : CF Uw Y i 1 = Y 1 := CF_w (by omega)
    by_cases c : i < (Y 1).toNatClampNeg
    · have c' : i < (CF Uw Y i 1).toNatClampNeg := by rw [a1]; exact c
      have ak : CF Uw Y i (2 + i) = Y (2 + i) := CF_w (by omega)
      have w : walkF E (n + 1) i (CF Uw Y i) = if CF Uw Y i (20 + 20 * (CF Uw Y i (2 + i)).toNatClampNeg + 3) = 0 then (if (goF E i (CF Uw Y i)).1 then walkF E n i (goF E i (CF Uw Y i)).2 else walkF E n (i + 1) (goF E i (CF Uw Y i)).2) else walkF E n (i + 1) (CF Uw Y i) := if_pos c'
      rw [w, ak]
      clear w
      have ih := walk_calm hE hY hc n (i + 1) (by omega) (by omega)
      obtain ⟨hk1, hk2⟩ := hY.1.2.1 i c
      have hg := vp_lt hk1
      have hnq := hY.1.nq hE c
      have ag := AG_4 (Y1 := CF Uw Y i) hE hq16 (fun j hj => CF_w hj)
      have cq := CQ_cong hE hY ag c trivial (fun _ => trivial) (hc i c)
      have a3 : CF Uw Y i (20 + 20 * (Y (2 + i)).toNatClampNeg + 3) = Y (20 + 20 * (Y (2 + i)).toNatClampNeg + 3) := CF_w (by omega)
      rw [a3]
      by_cases c3 : Y (20 + 20 * (Y (2 + i)).toNatClampNeg + 3) = 0
      · rw [if_pos c3]
        have a4 : CF Uw Y i (20 + 20 * (Y (2 + i)).toNatClampNeg + 4) = Y (20 + 20 * (Y (2 + i)).toNatClampNeg + 4) := CF_out (by omega) hnq
        -- the step
        have step : goF E i (CF Uw Y i) = (false, upd (CF Uw Y i) (20 + 20 * (Y (2 + i)).toNatClampNeg + 4) (Y (20 + 20 * (Y (2 + i)).toNatClampNeg + 4) + 1)) := by
          unfold CQ at cq
          rw [ak, a3] at cq
          rcases cq with q | ⟨_, q⟩
          · rw [c3] at q
            exact absurd (Int32.le_refl _) q
          · rcases q with ⟨q1, q2⟩ | ⟨q1, p, s, b1, b2, b3, b4, b5, b6, b7, b8⟩
            · rw [goF_blk q1, ak, if_pos q2, upd_id, a4]
            · rw [← ak] at b4 b5 b1
              have hg' : (CF Uw Y i (2 + i)).toNatClampNeg < 15 := by rw [ak]; omega
              have e1 : upd (upd (CF Uw Y i) (20 + 20 * (CF Uw Y i (2 + i)).toNatClampNeg + 1) (nI p)) (20 + 20 * (CF Uw Y i (2 + i)).toNatClampNeg + 10) 0 = upd (CF Uw Y i) (20 + 20 * (CF Uw Y i (2 + i)).toNatClampNeg + 10) 0 := by rw [← b4, upd_id]
              have htk : eD E s 1 ≤ sm (tkF (upd (upd (CF Uw Y i) (20 + 20 * (CF Uw Y i (2 + i)).toNatClampNeg + 1) (nI p)) (20 + 20 * (CF Uw Y i (2 + i)).toNatClampNeg + 10) 0) (nI p)) (CF Uw Y i 1).toNatClampNeg := by
                rw [e1]
                have : sm (tkF (upd (CF Uw Y i) (20 + 20 * (CF Uw Y i (2 + i)).toNatClampNeg + 10) 0) (nI p)) (CF Uw Y i 1).toNatClampNeg = sm (tkF (CF Uw Y i) (nI p)) (CF Uw Y i 1).toNatClampNeg := by
                  refine sm_cong (fun k hk => ?_)
                  rw [a1] at hk
                  have hgk := vp_lt (hY.1.2.1 k hk).1
                  have akk : CF Uw Y i (2 + k) = Y (2 + k) := CF_w (by omega)
                  unfold tkF
                  rw [pk_un (by omega), akk, pk_un (by omega), pk_un (by omega), akk]
                rw [this]
                exact b7
              rw [goF_wat hE (by omega) hg' q1 b1 b2 b3 b6 htk b8, e1, upd_upd, ← b5, upd_id, ak, a4]
        rw [step, if_neg Bool.false_ne_true]
        have e : upd (CF Uw Y i) (20 + 20 * (Y (2 + i)).toNatClampNeg + 4) (Y (20 + 20 * (Y (2 + i)).toNatClampNeg + 4) + 1) = CF Uw Y (i + 1) := by
          refine CF_s rfl (by omega) hnq _ (fun f hf => ?_) (fun j hj => pk_un (by omega))
          unfold Uw
          by_cases c4 : f = 4
          · rw [c4, pk_us, if_pos rfl, if_pos (show Y (20 + 20 * (Y (2 + i)).toNatClampNeg + 3) ≤ 0 by rw [c3]; exact Int32.le_refl _)]
          · rw [pk_un (by omega), CF_out hf hnq, if_neg c4]
        dsimp only
        rw [e]
        exact ih
      · rw [if_neg c3]
        have e : CF Uw Y i = CF Uw Y (i + 1) := by
          refine CF_k rfl (by omega) hnq (fun f hf => ?_)
          unfold Uw
          by_cases c4 : f = 4
          · rw [if_pos c4, if_neg (hY.tk0 hg c3), c4]
          · rw [if_neg c4]
        rw [e]
        exact ih
    · have : i = (Y 1).toNatClampNeg := by omega
      have c' : ¬ i < (CF Uw Y i 1).toNatClampNeg := by rw [a1]; exact c
      have w : walkF E (n + 1) i (CF Uw Y i) = CF Uw Y i := if_neg c'
      rw [w, this]
/-- taking on, block by block -/
theorem tko_CF {E : eg_E} {Y : Nat → Int32} (hE : wE E) (hq : qI E Y) : ∀ (m : Nat), m ≤ (Y 1).toNatClampNeg → itr tkoF m Y = CF Ut Y m
  | 0, _ => by rw [CF_0]; rfl
  | m + 1, hm => by
    have hN := hE.2.1
    have h1 := vp_lt hq.1
    show tkoF m (itr tkoF m Y) = _
    rw [tko_CF hE hq m (by omega)]
    have hnq := hq.nq hE (show m < (Y 1).toNatClampNeg by omega)
    have hg := vp_lt (hq.2.1 m (by omega)).1
    unfold tkoF
    rw [CF_o (by omega : 2 + m < 20 ∨ 320 ≤ 2 + m), CF_out (by omega) hnq]
    refine CF_s rfl (by omega) hnq _ (fun f hf => ?_) (fun j hj => pk_un (by omega))
    unfold Ut
    by_cases c3 : f = 3
    · rw [c3, pk_us, if_pos rfl]
      by_cases c : Y (20 + 20 * (Y (2 + m)).toNatClampNeg + 3) ≤ 0
      · rw [if_pos c, if_pos c, Int32.sub_zero]
      · rw [if_neg c, if_neg c]
    · rw [pk_un (by omega), CF_out hf hnq, if_neg c3]
/-- the pans, when nothing is ordered -/
theorem pans_PF {E : eg_E} {Y : Nat → Int32} : ∀ (m : Nat), (∀ s, s < m → ¬ eD E s 2 = 0 → ¬ (¬ eD E s 4 < Y (320 + 8 * s) ∧ ¬ 0 ≤ Y (320 + 8 * s + 2) ∧ ¬ eO E 2 ≤ Y 0)) → itr (pansF E) m Y = PF E 1 m Y
  | 0, _ => by rw [PF_0]; rfl
  | m + 1, h => by
    show pansF E m (itr (pansF E) m Y) = _
    rw [pans_PF m (fun s hs => h s (by omega)), PF_s]
    unfold pansF
    by_cases c : eD E m 2 = 0
    · rw [if_pos c, if_pos c]
    · rw [if_neg c, if_neg c]
      have e0 : PF E 1 m Y (320 + 8 * m) = Y (320 + 8 * m) := PF_o (by omega)
      have e2 : PF E 1 m Y (320 + 8 * m + 2) = Y (320 + 8 * m + 2) := PF_o (by omega)
      have e00 : PF E 1 m Y 0 = Y 0 := PF_o (by omega)
      have := h m (by omega) c
      rw [← e0, ← e2, ← e00] at this
      dsimp only
      rw [if_neg this]
theorem PF_u0 (E : eg_E) (n : Int32) (m : Nat) (Y : Nat → Int32) (x : Int32) : PF E n m (upd Y 0 x) = upd (PF E n m Y) 0 x := by
  funext j
  by_cases c : j = 0
  · rw [c, PF_o (by omega), pk_us, pk_us]
  · rw [pk_un c]
    unfold PF
    by_cases c1 : 320 ≤ j ∧ j < 320 + 8 * m
    · rw [if_pos c1, if_pos c1, pk_un c, pk_un (by omega)]
    · rw [if_neg c1, if_neg c1, pk_un c]
/-- nothing comes: no pan, no guest; nothing is ordered -/
def noC (E : eg_E) (Y : Nat → Int32) : Prop :=
  (∀ s, s < eN E → Y (320 + 8 * s + 2) < 0 ∨ ¬ Y (320 + 8 * s + 2) ≤ Y 0) ∧ (∀ g, g < eP E → ¬ ((Y (20 + 20 * g) = 0 ∨ Y (20 + 20 * g) = 2) ∧ Y (20 + 20 * g + 11) = Y 0)) ∧ ∀ s, s < eN E → ¬ eD E s 2 = 0 → ¬ (¬ eD E s 4 < Y (320 + 8 * s) ∧ ¬ 0 ≤ Y (320 + 8 * s + 2) ∧ ¬ eO E 2 ≤ Y 0)
theorem calm_sec {E : eg_E} {C : Nat} {Y : Nat → Int32} (hE : wE E) (hY : yI E C Y) (hc : ∀ k, k < (Y 1).toNatClampNeg → CQ E Y k) (hn : noC E Y) : secF E Y = repF E 1 Y := by
  have hN := hE.2.1
  have hn6 := hE.1
  have hq16 := hY.q16 hE
  unfold secF
  have e1 : itr (fillF E) (eN E) Y = Y := itr_id (fun k hk => if_pos (hn.1 k hk))
  have e2 : itr (admF E) (eP E) Y = Y := itr_id (fun k hk => if_neg (hn.2.1 k hk))
  rw [e1, e2]
  dsimp only
  have e3 := walk_calm hE hY hc (Y 1).toNatClampNeg 0 (by omega) (by omega)
  rw [CF_0] at e3
  rw [e3]
  have b1 : CF Uw Y (Y 1).toNatClampNeg 1 = Y 1 := CF_w (by omega)
  have hq2 : qI E (CF Uw Y (Y 1).toNatClampNeg) := hY.1.cong hN b1 (fun k hk => CF_w (by omega)) (fun g hg h => by rw [CF_w (by omega)]; exact h)
  have e4 := tko_CF hE hq2 (Y 1).toNatClampNeg (by rw [b1]; omega)
  rw [b1, e4, CF_CF (W := Ur 1) (by omega) (fun g _ _ f _ => Utw _ f) Ut_cong]
  have d0 : CF (Ur 1) Y (Y 1).toNatClampNeg 0 = Y 0 := CF_o (by omega)
  have ep := pans_PF (E := E) (Y := CF (Ur 1) Y (Y 1).toNatClampNeg) (eN E) (fun s hs hz => by
    rw [CF_o (by omega), CF_o (by omega), d0]
    exact hn.2.2 s hs hz)
  rw [ep]
  unfold repF
  rw [PF_u0, PF_o (by omega), d0]
