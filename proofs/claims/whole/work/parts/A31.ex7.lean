/-! EXPRESSIONS: a sign behind a value, a bracket closed -/
theorem sg_all : ∀ t, t < 41 → (sgb t = true → vsb t = true ∧ t ≠ 15 ∧ t ≠ 34 ∧ (rk t = 1 ∨ rk t = 2 ∨ rk t = 4 ∨ rk t = 5 ∨ rk t = 6) ∧ 3 ≤ wmt t ∧ wmt t < 15) ∧ (¬ sgb t = true → rk t = 0 ∨ rk t = 3) := by decide +kernel
theorem drp_head {r : Nat} : ∀ {L : List Nat} {t : Nat} {D : List Nat}, drp r L = t :: D → rk t < r
  | [], _, _, h => by cases h
  | u :: L, t, D, h => by
    by_cases c : rk u < r
    · rw [show drp r (u :: L) = u :: L from if_pos c] at h
      have := (List.cons.inj h).1
      rw [← this]
      exact c
    · rw [show drp r (u :: L) = drp r L from if_neg c] at h
      exact drp_head h
theorem w175 {κ : eg_K} {d t q a k1 : Nat} (hd : 1 ≤ d) {post : Int32 → eg_H → Prop} {M1 N1 : eg_H} {D l1 : List Nat} (hv : vsb t = true) (co : core q a M1 N1 D l1 k1) (h4 : rk t = 4 → ∀ u D', D = u :: D' → rk u < 4) (w : eg_W κ gM mtX11_signs d (eQI κ gM post) 217 [(0, vR (60, 0)), (1, vI (nI (wmt t)))] [] N1) : ∀ x4 : Int32, x4 = (fX11_rank N1 (nI (wmt t))) → ((¬ x4 = (4 : Int32)) → eg_W κ gM mtX11_signs d (eQI κ gM post) 217 [(0, vR (60, 0)), (1, vI (nI (wmt t)))] [] N1) ∧ (x4 = (4 : Int32) → ((N1.1 (60, 0) 43) ≤ 0 → eg_W κ gM mtX11_signs d (eQI κ gM post) 217 [(0, vR (60, 0)), (1, vI (nI (wmt t)))] [] N1) ∧ ((¬ (N1.1 (60, 0) 43) ≤ 0) → (vp_in ((N1.1 (60, 0) 43) - (1 : Int32)) 96 ∧ (∀ x9 : Int32, x9 = (fX11_rank N1 (N1.1 (102, 0) ((N1.1 (60, 0) 43) - (1 : Int32)).toNatClampNeg)) → ((¬ x9 = (4 : Int32)) → eg_W κ gM mtX11_signs d (eQI κ gM post) 217 [(0, vR (60, 0)), (1, vI (nI (wmt t)))] [] N1) ∧ (x9 = (4 : Int32) → (∀ (x12 : Int32) (M11 : eg_H), (x12, M11) = fX11_wrong N1 (1 : Int32) → post x12 M11)))))) := by
  intro x4 e4
  rw [rk_m N1 hv] at e4
  refine ⟨fun _ => w, fun y => ?_⟩
  have r6 := (rk_m0 t (vsb_l hv) hv).2.2.2.2.2.1
  have r4 : rk t = 4 := (nI_eq' (b := 4) (by omega) (by omega)).mp (e4.symm.trans y)
  refine ⟨fun _ => w, fun p => ?_⟩
  have hlen := co.len
  obtain ⟨⟨c1, c2, c3, c4⟩, _⟩ := co
  cases D with
  | nil => exact absurd (by rw [c2]; decide) p
  | cons u D' =>
    have e43 : N1.1 (60, 0) 43 - 1 = nI D'.length := by rw [c2]; exact nI_p _
    have ln : (u :: D').length = D'.length + 1 := rfl
    have lt := h4 r4 u D' rfl
    rw [e43, nI_t (show D'.length < 2147483648 by omega), c3.1.2.1]
    refine ⟨nI_in' (by omega) (by omega), fun x9 e9 => ?_⟩
    rw [rk_m N1 c3.1.2.2] at e9
    refine ⟨fun _ => w, fun z => ?_⟩
    have := (nI_eq' (b := 4) (by omega) (by omega)).mp (e9.symm.trans z)
    omega
theorem tA.rm {M N N1 : eg_H} {n a k : Nat} (h : tA M N n a) (r : rM k N N1) : tA M N1 n a := h.cong rfl rfl (fun j x y => r.2.2.1 j (by omega) (by omega) (by omega)) (r.1 _ (by decide) (by decide)) (r.1 _ (by decide) (by decide))
theorem BEH2 {q n a at0 k b t : Nat} {M N : eg_H} {L l : List Nat} {Y : Int32} (q2 : q < 2) (xp : XP q a M N L l k b 0 Y) (ht : tA M N n at0) (ek : M.1 (9, 0) 4 = nI t) (ht40 : t ≤ 40) : PW 9 4 (fun κ d post => eg_W κ gC mtX6_readBehindValue (d - 1) (eQI κ gC (kV κ d post)) 59 [(0, vR (6, 0)), (1, vI (nI t))] [] M) (fun κ d post => eg_W κ gM mtX11_signs d (eQI κ gM post) 47 [(0, vR (60, 0))] [] N) (XR q n a at0 M N) := by
  have P := xp
  obtain ⟨p1, p2, p3, ⟨b1, b2, b3, b4⟩, p5, p6, p7, p8⟩ := xp
  have hl : l.length = bin L + 1 := by
    rcases p8 with z | z
    · exact absurd z.1 (by decide)
    · exact z.2
  have c8 := p1.2.1.2.2.2
  have lv := p1.1.2.2.2
  obtain ⟨sg1, sg2⟩ := sg_all t (by omega)
  refine PW.c (fun κ d hd post z => vX6_readBehindValue_59 (by omega) M (nI t) z) (PW.ce1 (ec := 0) (r := nI (rk t)) (M1 := M) (fun κ d hd => rankC M ht40) (by omega) (PW.ch fun x4 hx4 => ?_))
  refine PW.m (fun κ d hd post z => w47 (by omega) ht ek ht40 (vX11_signs_147 (by omega) N _ z)) ?_
  by_cases sb : sgb t = true
  · obtain ⟨hv, t15, t34, hr, w3, w15⟩ := sg1 sb
    rw [if_pos sb]
    have rk6 : rk t ≤ 6 := by omega
    have n0 : ¬ nI (rk t) = 0 := fun y => by
      have := (nI_eq' (b := 0) (by omega) (by omega)).mp y
      omega
    have n3 : ¬ nI (rk t) = 3 := fun y => by
      have := (nI_eq' (b := 3) (by omega) (by omega)).mp y
      omega
    have k4 : nI (rk t) = 4 ↔ rk t = 4 := nI_eq' (b := 4) (by omega) (by omega)
    have ns : ¬ nI (wmt t) = 0 := fun y => by
      have := (nI_eq' (b := 0) (by omega) (by omega)).mp y
      omega
    have lt2 : (2 : Int32) < nI (rk t) ↔ 2 < rk t := nI_lt' (a := 2) (by omega) (by omega)
    obtain ⟨rm, hrm, hrm4, hrme⟩ : ∃ rm, (1 ≤ rm ∧ rm ≤ 6) ∧ (rk t = 4 → rm = 5) ∧ (rk t ≠ 4 → rm = rk t) := by
      by_cases c : rk t = 4
      · exact ⟨5, by omega, fun _ => rfl, fun y => absurd c y⟩
      · exact ⟨rk t, by omega, fun y => absurd y c, fun _ => rfl⟩
    refine PW.cF n0 (PW.cF n3 (PW.mNT ns ?_))
    refine PW.m (Km' := fun κ d post => eg_W κ gM mtX11_signs d (eQI κ gM post) 175 [(0, vR (60, 0)), (1, vI (nI (wmt t)))] [vI (nI rm), vR (60, 0)] N) (fun κ d hd post z => ?_) ?_
    · intro x3 e3
      rw [rk_m N hv] at e3
      refine ⟨fun y x6 e6 => ?_, fun y => ?_⟩
      · rw [rk_m N hv, ← hrme (fun c => y (by rw [e3, c]; rfl))] at e6
        rw [e6]
        exact z
      · rw [hrm4 (k4.mp (e3.symm.trans y))] at z
        exact z
    refine PW.m (fun κ d hd post z => vX11_signs_175 (by omega) N _ _ z) ?_
    have bit := (bits0 b b2 (lev L) (by omega)).2.2
    rw [b1, p3.1, bit, b3] at hx4
    by_cases cc : rk t = 4 ∧ hc L = true
    · have x4e : x4 = 1 := by
        rw [hx4, cc.2]
        rw [if_neg (fun y => y (k4.mpr cc.1))]
        decide
      refine PW.cF (by rw [x4e]; decide) ?_
      obtain ⟨M1, N1, l1, k1, _, r2, r3, r4, r5, r6, r7, r8⟩ := REL (a := a) (rc := 5) (rm := 5) q2 (by omega) (by omega) L l k M N p2 p1 hl (agr_rf 5 L)
      rw [hrm4 cc.1]
      refine PW.mv (em := 1) (N1 := N1) (fun κ d hd => eg_S.of rfl (Nat.le_of_ble_eq_true rfl) (r2 κ d hd)) (by omega) ?_
      have h5 : hc (drp 5 L) = true := (drp_hc (by omega) L).trans cc.2
      have hlen := r3.len
      refine PW.m (Km' := fun κ d post => ∀ (x : Int32) (M1 : eg_H), (x, M1) = fX11_wrong N1 1 → post x M1) (fun κ d hd post z x4' e4 => ?_) (KcS.rf (Or.inr ⟨rfl, FL.pre (wC.rf q M) (r8.x (Nat.le_refl k)).w (FL_mk q (ht.rm r8) 1 (by decide))⟩))
      rw [rk_m N1 hv, cc.1] at e4
      refine ⟨fun y => absurd e4 y, fun _ => ⟨fun y => ?_, fun y => ?_⟩⟩
      · cases hD : drp 5 L with
        | nil => rw [hD] at h5; exact absurd h5 (by decide)
        | cons u D' =>
          have := r3.1.2.1
          rw [hD] at this
          rw [this] at y
          have ln : (u :: D').length = D'.length + 1 := rfl
          rw [hD] at hlen
          have := (nI_le' (b := 0) (by omega) (by omega)).mp y
          omega
      · cases hD : drp 5 L with
        | nil => rw [hD] at h5; exact absurd h5 (by decide)
        | cons u D' =>
          have c2 := r3.1.2.1
          have c3 := r3.1.2.2.1
          rw [hD] at c2 c3 hlen h5
          have lt := drp_head hD
          have u4 : rk u = 4 := by
            have h5' : (if 5 ≤ rk u then hc D' else rk u == 4) = true := h5
            rw [if_neg (by omega)] at h5'
            exact beq_iff_eq.mp h5'
          have e43 : N1.1 (60, 0) 43 - 1 = nI D'.length := by rw [c2]; exact nI_p _
          have ln : (u :: D').length = D'.length + 1 := rfl
          rw [e43, nI_t (show D'.length < 2147483648 by omega), c3.1.2.1]
          refine ⟨nI_in' (by omega) (by omega), fun x9 e9 => ?_⟩
          rw [rk_m N1 c3.1.2.2, u4] at e9
          exact ⟨fun y => absurd e9 y, fun _ => z⟩
    · have x4e : x4 = 0 := by
        rw [hx4]
        by_cases c4 : rk t = 4
        · have : hc L = false := by
            cases hh : hc L with
            | false => rfl
            | true => exact absurd ⟨c4, hh⟩ cc
          rw [this, if_neg (fun y => y (k4.mpr c4))]
          decide
        · rw [if_pos (fun y => c4 (k4.mp y))]
      refine PW.cT x4e ?_
      have hag : agr (rk t) rm L := by
        by_cases c4 : rk t = 4
        · rw [hrm4 c4, c4]
          refine agr_45 ?_
          cases hh : hc L with
          | false => rfl
          | true => exact absurd ⟨c4, hh⟩ cc
        · rw [hrme c4]
          exact agr_rf _ L
      have h4 : rk t = 4 → ∀ u D', drp (rk t) L = u :: D' → rk u < 4 := fun c u D' e => by
        have := drp_head e
        omega
      rcases ckC c8 p7.1 with ⟨u1, u2⟩ | ⟨u1, u2⟩
      · rw [u2]
        refine PW.cf (PW.cNT (show ¬ (1 : Int32) = 0 by decide) ?_)
        dsimp only
        have p1' : core q a (sI M (6, 0) 8 (nI (k + nop L + 1))) N L l k := p1.cg (by rw [sI_rr, if_neg (by omega)]) (fun r hr => by
          have r6 : r ≠ (6, 0) := by
            rcases hr with z | z | z
            · rw [z]; decide
            · rw [z]; exact kd_ne (by omega)
            · rw [z]; exact kd_ne (by omega)
          rw [sI_ne r6]) (fun _ _ _ => rfl) (fun _ _ => rfl)
        refine PW.cv1 (RELV (rc := rk t) (rm := rm) q2 (by omega) hrm (show (sI M (6, 0) 8 (nI (k + nop L + 1))).2.2 (6, 0) 1 = (5, q) from p2) p1' hl hag) (by omega) (by omega) ?_
        rintro M1 N1 ⟨l1, k1, r3, r4, r5, r6, r7, r8⟩
        have hlen := r3.len
        have ll := len_e (drp (rk t) L)
        have ldr : lev (drp (rk t) L) = lev L := drp_lev (by omega) L
        have eq1 : M1.2.2 (6, 0) 1 = (5, q) := by rw [r7.2.2.2.2]; exact p2
        have z6 : ∀ j, j ≠ 10 → M1.1 (6, 0) j = if j = 8 then nI (k + nop L + 1) else M.1 (6, 0) j := fun j hj => by rw [r7.2.2.2.1 j hj, sI_rr]
        have z60 : ∀ j, j ≠ 22 → j ≠ 43 → j ≠ 44 → N1.1 (60, 0) j = N.1 (60, 0) j := r8.2.2.1
        refine PW.m (fun κ d hd post z => w175 (by omega) hv r3 h4 (vX11_signs_217 (by omega) N1 _ z)) ?_
        rcases ckM (N := N1) c8 (by rw [z60 46 (by omega) (by omega) (by omega)]; exact p7.2) with ⟨_, w2⟩ | ⟨w1, _⟩
        · rw [w2]
          refine PW.mf (PW.mNT (show ¬ (1 : Int32) = 0 by decide) ?_)
          dsimp only
          obtain ⟨v1, v2⟩ := hsC_e (M := M1) (n := (drp (rk t) L).length) t (by omega) r3.1.1
          obtain ⟨y1, y2⟩ := hsM_e (N := sI N1 (60, 0) 46 (nI (k + nop L + 1))) (n := (drp (rk t) L).length) t (by omega) (by rw [sI_60, if_neg (by omega)]; exact r3.1.2.1)
          refine PW.cg v1 (PW.ch fun M18 e18 => PW.ch fun M20 e20 => PW.ch fun x21 e21 => PW.ch fun M22 e22 => PW.mg y1 (PW.mh fun N5 f5 => PW.mh fun N7 f7 => PW.mh fun x9 f9 => PW.mh fun x10 f10 => PW.mh fun N11 f11 => ?_))
          have e18' := e18.trans v2
          have f5' := f5.trans y2
          rw [rk_m N7 hv] at f9
          have xx : x10 = x21 := by
            rw [f10, e21, f9]
            have le3 : (3 : Int32) ≤ nI (rk t) ↔ 3 ≤ rk t := nI_le' (a := 3) (by omega) (by omega)
            by_cases c2 : 2 < rk t
            · rw [if_pos (lt2.mpr c2), if_pos (le3.mpr c2)]
            · rw [if_neg (fun y => c2 (lt2.mp y)), if_neg (fun y => c2 (le3.mp y))]
          rw [xx] at f11
          have g22 : ∀ j, M22.1 (6, 0) j = if j = 14 then x21 else if j = 13 then 1 else if j = 10 then nI ((drp (rk t) L).length + 1) else M1.1 (6, 0) j := fun j => by rw [e22, sI_rr, e20, sI_rr, e18', hsC_6]
          have o22 : ∀ r, r ≠ (6, 0) → M22.1 r = (hsC M1 (drp (rk t) L).length t).1 r := fun r hr => by rw [e22, sI_ne hr, e20, sI_ne hr, e18']
          have g60 : ∀ j, N11.1 (60, 0) j = if j = 48 then x21 else if j = 47 then 1 else if j = 43 then nI ((drp (rk t) L).length + 1) else if j = 46 then nI (k1 + nop (drp (rk t) L) + 1) else N1.1 (60, 0) j := fun j => by rw [f11, sI_60, f7, sI_60, f5', hsM_60, sI_60, r5]
          have o60 : ∀ r, r ≠ (60, 0) → N11.1 r = (hsM N1 (drp (rk t) L).length t).1 r := fun r hr => by
            rw [f11, sI_ne hr, f7, sI_ne hr, f5']
            by_cases c102 : r = (102, 0)
            · rw [c102]
              have n1 : ((102, 0) : eg_R) ≠ (60, 0) := by decide
              unfold hsM
              rw [sI_ne n1, sI_ne n1]
              funext j
              rw [sI_rr, sI_rr, sI_ne n1]
            · rw [hsM_o _ _ _ hr c102, hsM_o _ _ _ hr c102, sI_ne hr]
          have tail : ∀ (Mf : eg_H) (b' : Nat), (∀ j, Mf.1 (6, 0) j = if j = 12 then nI b' else M22.1 (6, 0) j) → (∀ r, r ≠ (6, 0) → Mf.1 r = M22.1 r) → Mf.2 = M22.2 → b' < 512 → b'.testBit (lev L) = hc (t :: drp (rk t) L) → okB b' (drp (rk t) L) → (¬ x21 = 0 → hc (t :: drp (rk t) L) = false) → PW 9 4 (fun κ d post => ((1 : Int32) = 0 → post 0 Mf) ∧ (¬ (1 : Int32) = 0 → eCV κ gC mtX9_advance d [vR (9, 0)] Mf (fun M2 => post 1 M2))) (fun κ d post => eCV κ gM mtX11_token d [vR (60, 0)] N11 (fun Z => post 1 Z)) (XR q n a at0 M N) := by
            intro Mf b' q6 qo q22 bb bt bo hy
            have M2e : M22.2 = M1.2 := by rw [e22, e20, e18']; rfl
            have xs := x_sign (q := q) (a := a) (k1 := k1) (b' := b') (t := t) (o := lev L) (M1 := M1) (N1 := N1) (Mf := Mf) (Nf := N11) (D := drp (rk t) L) (l1 := l1) (Y' := x21) hv t15 t34 eq1 r3 r4 ldr ⟨by rw [z6 11 (by omega), if_neg (by omega)]; exact p3.1, by rw [z60 45 (by omega) (by omega) (by omega)]; exact p3.2⟩ (by rw [z6 8 (by omega), if_pos rfl, r5]) (by omega) (fun j => by rw [q6, g22]) (fun r hr => by rw [qo r hr, o22 r hr]) (q22.trans M2e) g60 o60 bb bt bo hy
            have oM : ∀ r, r ≠ (6, 0) → r ≠ (36, 0) → Mf.1 r = M1.1 r := fun r x y => by rw [qo r x, o22 r x, hsC_o _ _ _ x y]
            have oN : ∀ r, r ≠ (60, 0) → r ≠ (102, 0) → N11.1 r = N1.1 r := fun r x y => by rw [o60 r x, hsM_o _ _ _ x y]
            have m9 : ∀ r, r = (9, 0) ∨ r = (50, 0) → Mf.1 r = M.1 r := fun r hr => by
              rcases hr with e | e
              · rw [e, oM _ (by decide) (by decide), r7.1 _ (by decide) (kd_ne (by omega)) (kd_ne (by omega)), sI_ne (by decide)]
              · rw [e, oM _ (by decide) (by decide), r7.1 _ (by decide) (kd_ne (by omega)) (kd_ne (by omega)), sI_ne (by decide)]
            refine KcS.ok (Nat.le_refl _) (ht.cong (m9 _ (Or.inl rfl)) (m9 _ (Or.inr rfl)) (fun j x y => ?_) ?_ ?_) (by rw [m9 _ (Or.inl rfl), ek]; exact fun y => absurd ((nIq ht40 39 (by omega)).mp y) (by have := sgb_i.mp sb; omega)) xs ?_ ?_
            · rw [g60, if_neg (by omega), if_neg (by omega), if_neg (by omega), if_neg (by omega), z60 j (by omega) (by omega) (by omega)]
            · rw [oN _ (by decide) (by decide), r8.1 _ (by decide) (by decide)]
            · rw [oN _ (by decide) (by decide), r8.1 _ (by decide) (by decide)]
            · have ak := p1.2.1.2.2.1
              refine (xC.s6 (j := 8) (by omega)).tr ((r7.x ak).tr ⟨fun r _ b c _ _ => oM r b c, fun i _ => by rw [oM _ (kd_ne (by omega)) (kd_ne (by omega))], fun i _ => by rw [oM _ (kd_ne (by omega)) (kd_ne (by omega))], fun i hi => ?_, q22.trans M2e⟩)
              rw [q6, if_neg (by omega), g22, if_neg (by omega), if_neg (by omega), if_neg (by omega)]
            · have ak := p1.2.1.2.2.1
              have N2e : N11.2 = N1.2 := by rw [f11, f7, f5']; rfl
              refine (r8.x ak).tr ⟨fun r x y => oN r x (fun e => by rw [e] at y; dsimp only at y; omega), fun i _ => by rw [oN _ (by decide) (by decide), oN _ (by decide) (by decide), oN _ (by decide) (by decide)]; exact ⟨rfl, rfl, rfl⟩, fun i hi => ?_, N2e⟩
              rw [g60, if_neg (by omega), if_neg (by omega), if_neg (by omega), if_neg (by omega)]
          have m12 : M22.1 (6, 0) 12 = nI b := by rw [g22, if_neg (by omega), if_neg (by omega), if_neg (by omega), z6 12 (by omega), if_neg (by omega)]; exact b1
          have m11 : M22.1 (6, 0) 11 = nI (lev L) := by rw [g22, if_neg (by omega), if_neg (by omega), if_neg (by omega), z6 11 (by omega), if_neg (by omega)]; exact p3.1
          have hcd : hc (t :: drp (rk t) L) = if 5 ≤ rk t then hc (drp (rk t) L) else rk t == 4 := rfl
          have bd := drp_ok (r := rk t) b4
          by_cases c4 : rk t = 4
          · refine PW.cNF (k4.mpr c4) ?_
            rw [m12, m11, (bits0 b b2 (lev L) (by omega)).2.1.1]
            refine PW.ch fun M26 e26 => ?_
            refine tail M26 _ (fun j => by rw [e26, sI_rr]) (fun r hr => by rw [e26, sI_ne hr]) (by rw [e26]; rfl) (bits0 b b2 (lev L) (by omega)).2.1.2 ?_ (okB_c (fun i hi => ?_) bd) (fun y => absurd ?_ y)
            · rw [bits2 b b2 _ (by omega) _ (by omega), beq_self_eq_true, hcd, c4]
              exact Bool.or_true _
            · rw [ldr] at hi
              rw [bits2 b b2 _ (by omega) _ (by omega), beq_false_of_ne (by omega)]
              exact Bool.or_false _
            · rw [e21, if_pos (lt2.mpr (by omega))]
          · refine PW.cNT (fun y => c4 (k4.mp y)) ?_
            by_cases c2 : 2 < rk t
            · refine PW.cT (lt2.mpr c2) ?_
              refine tail M22 b (fun j => ?_) (fun _ _ => rfl) rfl b2 ?_ bd (fun y => absurd ?_ y)
              · by_cases cj : j = 12
                · rw [if_pos cj, cj, m12]
                · rw [if_neg cj]
              · rw [hcd, if_pos (by omega), drp_hc (by omega)]; exact b3
              · rw [e21, if_pos (lt2.mpr c2)]
            · refine PW.cF (fun y => c2 (lt2.mp y)) ?_
              rw [m12, m11, (bits0 b b2 (lev L) (by omega)).1.1]
              refine PW.ch fun M25 e25 => ?_
              have hf : hc (t :: drp (rk t) L) = false := by
                rw [hcd, if_neg (by omega)]
                exact beq_false_of_ne c4
              refine tail M25 _ (fun j => by rw [e25, sI_rr]) (fun r hr => by rw [e25, sI_ne hr]) (by rw [e25]; rfl) (bits0 b b2 (lev L) (by omega)).1.2 ?_ (okB_c (fun i hi => ?_) bd) (fun _ => hf)
              · rw [bits1 b b2 _ (by omega) _ (by omega), beq_self_eq_true, hf]
                exact Bool.and_false _
              · rw [ldr] at hi
                rw [bits1 b b2 _ (by omega) _ (by omega), beq_false_of_ne (by omega)]
                exact Bool.and_true _
        · omega
      · rw [u2]
        refine PW.cf (PW.cr (fun y => y rfl) rfl ?_)
        obtain ⟨M1, N1, l1, k1, _, r2, r3, r4, r5, r6, r7, r8⟩ := REL (a := a) (rc := rk t) (rm := rm) q2 (by omega) hrm L l k M N p2 p1 hl hag
        refine PW.mv (em := 1) (N1 := N1) (fun κ d hd => eg_S.of rfl (Nat.le_of_ble_eq_true rfl) (r2 κ d hd)) (by omega) ?_
        refine PW.m (fun κ d hd post z => w175 (by omega) hv r3 h4 (vX11_signs_217 (by omega) N1 _ z)) ?_
        rcases ckM (N := N1) c8 (by rw [r8.2.2.1 46 (by omega) (by omega) (by omega)]; exact p7.2) with ⟨w1, _⟩ | ⟨_, w2⟩
        · omega
        · rw [w2]
          refine PW.mf (PW.mr (fun y => y rfl) rfl ?_)
          exact KcS.no (PW.e (Or.inr ⟨rfl, FL.pre (wC.rf q M) (r8.x (Nat.le_refl k)).w (FL_mk q (ht.rm r8) 2 (by decide))⟩))
  · rw [if_neg sb]
    refine PW.mr (fun y => y rfl) rfl ?_
    rcases sg2 sb with z | z
    · exact PW.cT (by rw [z]; rfl) (KcS.rf (XR_f ht (by decide)))
    · exact PW.cF (by rw [z]; decide) (PW.cT (by rw [z]; rfl) (KcS.rf (XR_f ht (by decide))))
