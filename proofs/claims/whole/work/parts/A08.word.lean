/-! WORDS OF THE LANGUAGE -/
def cWs : List (List Int32) := [[115, 116, 97, 116, 105, 111, 110], [112, 97, 110], [99, 111, 108, 100], [103, 117, 101, 115, 116], [119, 97, 110, 116, 115], [112, 97, 115, 115], [97, 103, 97, 105, 110], [99, 108, 111, 115, 101], [108, 97, 119], [109, 97, 121], [104, 101, 97, 112], [108, 101, 97, 118, 101], [101, 97, 116, 115], [111, 114], [97, 110, 100], [110, 111, 116], [119, 97, 110, 116], [114, 111, 111, 109], [104, 101, 114, 101], [97, 103, 101], [108, 105, 110, 101], [108, 97, 116, 101], [115, 105, 122, 101], [116, 97, 107, 101, 110]]
def mWs : List (List Int32) := [[115, 116, 97, 116, 105, 111, 110], [103, 117, 101, 115, 116], [112, 97, 115, 115], [97, 103, 97, 105, 110], [99, 108, 111, 115, 101], [108, 97, 119], [109, 97, 121], [112, 97, 110], [99, 111, 108, 100], [119, 97, 110, 116, 115], [104, 101, 97, 112], [108, 101, 97, 118, 101], [101, 97, 116, 115], [97, 110, 100], [111, 114], [110, 111, 116], [119, 97, 110, 116], [114, 111, 111, 109], [104, 101, 114, 101], [97, 103, 101], [108, 105, 110, 101], [108, 97, 116, 101], [115, 105, 122, 101], [116, 97, 107, 101, 110]]
def prm (w : Nat) : Nat := ([0, 7, 8, 1, 9, 2, 3, 4, 5, 6, 10, 11, 12, 14, 13, 15, 16, 17, 18, 19, 20, 21, 22, 23] : List Nat).getD w 0
def fstL (ls : List Int32) : List (List Int32) → Nat → Int32
  | [], _ => -1
  | w :: ws, k => if w = ls then nI k else fstL ls ws (k + 1)
theorem fstL_none {ls : List Int32} : ∀ (ws : List (List Int32)) (k : Nat), ls ∉ ws → fstL ls ws k = -1
  | [], _, _ => rfl
  | w :: ws, k, h => by
    show (if w = ls then nI k else fstL ls ws (k + 1)) = -1
    rw [if_neg (fun e => h (by rw [e]; exact List.mem_cons_self)), fstL_none ws (k + 1) (fun q => h (List.mem_cons_of_mem _ q))]
theorem words_in : ∀ ls ∈ cWs, ∃ w ∈ List.range 24, fstL ls cWs 0 = nI w ∧ fstL ls mWs 0 = nI (prm w) := by decide +kernel
theorem words_sub : ∀ ls ∈ mWs, ls ∈ cWs := by decide +kernel
theorem words_R (ls : List Int32) : (fstL ls cWs 0 = -1 ∧ fstL ls mWs 0 = -1) ∨ ∃ w, w < 24 ∧ fstL ls cWs 0 = nI w ∧ fstL ls mWs 0 = nI (prm w) := by
  by_cases h : ls ∈ cWs
  · obtain ⟨w, hw, e⟩ := words_in ls h
    exact Or.inr ⟨w, List.mem_range.mp hw, e⟩
  · exact Or.inl ⟨fstL_none _ _ h, fstL_none _ _ (fun q => h (words_sub ls q))⟩
theorem words_32c : ∀ w ∈ cWs, ∀ c ∈ w, ¬ c = 32 := by decide +kernel
theorem words_32m : ∀ w ∈ mWs, ∀ c ∈ w, ¬ c = 32 := by decide +kernel
def flW (ws : List (List Int32)) : List Int32 := ws.flatMap (fun w => w ++ [32])
theorem wb_e : eg_wb = flW cWs := by decide +kernel
theorem wd_e (i : Nat) : wdM i = (flW mWs).getD i 0 := by
  unfold wdM
  exact congrArg (fun l : List Int32 => l.getD i 0) (by decide +kernel)
theorem flW_len : (flW mWs).length = 121 ∧ (flW cWs).length = 121 := by decide +kernel
def lsF (L : Nat → Int32) (n : Nat) : List Int32 := (List.range n).map L
theorem lsF_iff (L : Nat → Int32) (n : Nat) (w : List Int32) : w = lsF L n ↔ w.length = n ∧ ∀ j, j < w.length → L j = w.getD j 0 := by
  unfold lsF
  constructor
  · intro e
    subst e
    have hl : ((List.range n).map L).length = n := by rw [List.length_map, List.length_range]
    refine ⟨hl, fun j hj => ?_⟩
    rw [hl] at hj
    rw [List.getD_eq_getElem?_getD, List.getElem?_map, List.getElem?_range hj]
    rfl
  · rintro ⟨e, h⟩
    subst e
    apply List.ext_getElem?
    intro j
    by_cases hj : j < w.length
    · have := h j hj
      rw [List.getD_eq_getElem?_getD, List.getElem?_eq_getElem hj] at this
      rw [List.getElem?_map, List.getElem?_range hj, List.getElem?_eq_getElem hj]
      show some _ = some (L j)
      rw [this]
      rfl
    · rw [List.getElem?_eq_none (by omega), List.getElem?_eq_none (by rw [List.length_map, List.length_range]; omega)]
/-- the class's way along the words -/
def scn (L : Nat → Int32) (n : Nat) : List Int32 → Nat → Nat → Bool → Int32
  | [], _, _, _ => -1
  | c :: cs, w, i, s => if c = 32 then (if s = true ∧ i = n then nI w else scn L n cs (w + 1) 0 true) else scn L n cs w (i + 1) (s && decide (i < n) && decide (L i = c))
theorem scn_w (L : Nat → Int32) (n : Nat) (rest : List Int32) (k : Nat) : ∀ (w : List Int32) (i : Nat) (s : Bool), (∀ c ∈ w, ¬ c = 32) → ((s = true ∧ i + w.length = n ∧ ∀ j, j < w.length → L (i + j) = w.getD j 0) → scn L n (w ++ 32 :: rest) k i s = nI k) ∧ (¬ (s = true ∧ i + w.length = n ∧ ∀ j, j < w.length → L (i + j) = w.getD j 0) → scn L n (w ++ 32 :: rest) k i s = scn L n rest (k + 1) 0 true)
  | [], i, s, _ => by
    have e : scn L n ([] ++ 32 :: rest) k i s = if s = true ∧ i = n then nI k else scn L n rest (k + 1) 0 true := by
      show (if (32 : Int32) = 32 then _ else _) = _
      rw [if_pos rfl]
    rw [e]
    refine ⟨fun h => if_pos ⟨h.1, by have := h.2.1; simpa using this⟩, fun h => if_neg (fun q => h ⟨q.1, by simpa using q.2, fun j hj => absurd hj (Nat.not_lt_zero _)⟩)⟩
  | c :: cs, i, s, hc => by
    have e : scn L n ((c :: cs) ++ 32 :: rest) k i s = scn L n (cs ++ 32 :: rest) k (i + 1) (s && decide (i < n) && decide (L i = c)) := by
      show (if c = 32 then _ else scn L n (cs ++ 32 :: rest) k (i + 1) (s && decide (i < n) && decide (L i = c))) = _
      rw [if_neg (hc c List.mem_cons_self)]
    obtain ⟨i1, i2⟩ := scn_w L n rest k cs (i + 1) (s && decide (i < n) && decide (L i = c)) (fun x hx => hc x (List.mem_cons_of_mem _ hx))
    rw [e]
    have hl : (c :: cs).length = cs.length + 1 := List.length_cons
    refine ⟨fun h => i1 ?_, fun h => i2 (fun q => h ?_)⟩
    · obtain ⟨h1, h2, h3⟩ := h
      rw [hl] at h2 h3
      have h0 : L i = c := h3 0 (by omega)
      refine ⟨by rw [h1, h0]; simp; omega, by omega, fun j hj => ?_⟩
      have := h3 (j + 1) (by omega)
      rw [show i + 1 + j = i + (j + 1) by omega, this]
      rfl
    · obtain ⟨h1, h2, h3⟩ := q
      simp only [Bool.and_eq_true, decide_eq_true_eq] at h1
      refine ⟨h1.1.1, by rw [hl]; omega, fun j hj => ?_⟩
      rw [hl] at hj
      cases j with
      | zero => exact h1.2
      | succ j =>
        have := h3 j (by omega)
        rw [show i + (j + 1) = i + 1 + j by omega, this]
        rfl
theorem scn_all (L : Nat → Int32) (n : Nat) : ∀ (ws : List (List Int32)) (k : Nat), (∀ w ∈ ws, ∀ c ∈ w, ¬ c = 32) → scn L n (flW ws) k 0 true = fstL (lsF L n) ws k
  | [], _, _ => rfl
  | w :: ws, k, h => by
    have e : flW (w :: ws) = w ++ 32 :: flW ws := by
      show (w ++ [32]) ++ flW ws = _
      rw [List.append_assoc]
      rfl
    obtain ⟨i1, i2⟩ := scn_w L n (flW ws) k w 0 true (h w List.mem_cons_self)
    have ih := scn_all L n ws (k + 1) (fun x hx => h x (List.mem_cons_of_mem _ hx))
    show _ = if w = lsF L n then nI k else fstL (lsF L n) ws (k + 1)
    rw [e]
    by_cases c : w = lsF L n
    · rw [if_pos c]
      obtain ⟨c1, c2⟩ := (lsF_iff L n w).mp c
      exact i1 ⟨rfl, by omega, fun j hj => by rw [Nat.zero_add]; exact c2 j hj⟩
    · rw [if_neg c, i2 (fun q => c ((lsF_iff L n w).mpr ⟨by omega, fun j hj => by have := q.2.2 j hj; rwa [Nat.zero_add] at this⟩)), ih]
/-! the model looks a word up -/
theorem sX11_wordAt {κ : eg_K} {d : Nat} (M : eg_H) {a b : Nat} (hab : a ≤ b) (hb : b ≤ 800) (hw : ∀ i, i < 121 → M.1 (64, 0) i = wdM i) : eg_S κ gM mtX11_wordAt d [vR (60, 0), vI (nI a), vI (nI b)] M (eQI κ gM (fun r M1 => r = fstL (lsF (fun i => M.1 (61, 0) (a + i)) (b - a)) mWs 0 ∧ M1 = M)) := by
  have key : ∀ (ws : List (List Int32)) (k f : Nat), k < 100 → f + (flW ws).length = 121 → (∀ j, j < (flW ws).length → wdM (f + j) = (flW ws).getD j 0) → (∀ w ∈ ws, ∀ c ∈ w, ¬ c = 32) → k + ws.length ≤ 24 → eg_W κ gM mtX11_wordAt d (eQI κ gM (fun r M1 => r = fstL (lsF (fun i => M.1 (61, 0) (a + i)) (b - a)) ws k ∧ M1 = M)) 5 [(0, vR (60, 0)), (1, vI (nI a)), (2, vI (nI b)), (3, vI (nI k)), (4, vI (nI f))] [] M := by
    intro ws
    induction ws with
    | nil =>
      intro k f hk hf hd hc hl
      have hf' : f = 121 := by simpa [flW] using hf
      subst hf'
      exact vX11_wordAt_5 M _ _ _ _ ⟨fun _ => ⟨rfl, rfl⟩, fun c => absurd (by decide) c⟩
    | cons w ws ih =>
      intro k f hk hf hd hc hl
      have e : flW (w :: ws) = w ++ 32 :: flW ws := by
        show (w ++ [32]) ++ flW ws = _
        rw [List.append_assoc]
        rfl
      have hlen : (flW (w :: ws)).length = w.length + 1 + (flW ws).length := by rw [e, List.length_append, List.length_cons]; omega
      have hll : (w :: ws).length = ws.length + 1 := List.length_cons
      have hw1 : ∀ j, j < w.length → M.1 (64, 0) (f + j) = w.getD j 0 := fun j hj => by
        rw [hw _ (by omega), hd j (by omega), e, List.getD_eq_getElem?_getD, List.getElem?_append_left hj, List.getD_eq_getElem?_getD]
      have hw2 : M.1 (64, 0) (f + w.length) = 32 := by
        rw [hw _ (by omega), hd _ (by omega), e, List.getD_eq_getElem?_getD, List.getElem?_append_right (Nat.le_refl _), Nat.sub_self]
        rfl
      have hn32 : ∀ j, j < w.length → ¬ w.getD j 0 = 32 := fun j hj => by
        rw [List.getD_eq_getElem?_getD, List.getElem?_eq_getElem hj]
        exact hc w List.mem_cons_self _ (List.getElem_mem hj)
      have nx := ih (k + 1) (f + (w.length + 1)) (by omega) (by omega) (fun j hj => by
        rw [show f + (w.length + 1) + j = f + (w.length + 1 + j) by omega, hd _ (by omega), e, List.getD_eq_getElem?_getD, List.getElem?_append_right (by omega), show w.length + 1 + j - w.length = j + 1 by omega, List.getElem?_cons_succ, List.getD_eq_getElem?_getD]) (fun x hx => hc x (List.mem_cons_of_mem _ hx)) (by omega)
      have hF : fstL (lsF (fun i => M.1 (61, 0) (a + i)) (b - a)) (w :: ws) k = if w = lsF (fun i => M.1 (61, 0) (a + i)) (b - a) then nI k else fstL (lsF (fun i => M.1 (61, 0) (a + i)) (b - a)) ws (k + 1) := rfl
      rw [hF]
      -- behind the comparing
      have k104 : ∀ fl : Int32, ((¬ fl = 0) → w = lsF (fun i => M.1 (61, 0) (a + i)) (b - a)) → (fl = 0 → ¬ w = lsF (fun i => M.1 (61, 0) (a + i)) (b - a)) → eg_W κ gM mtX11_wordAt d (eQI κ gM (fun r M1 => r = (if w = lsF (fun i => M.1 (61, 0) (a + i)) (b - a) then nI k else fstL (lsF (fun i => M.1 (61, 0) (a + i)) (b - a)) ws (k + 1)) ∧ M1 = M)) 104 [(0, vR (60, 0)), (1, vI (nI a)), (2, vI (nI b)), (3, vI (nI k)), (4, vI (nI f)), (5, vI (nI w.length)), (6, vI fl)] [] M := by
        intro fl h1 h2
        refine vX11_wordAt_104 M _ _ _ _ _ _ ⟨fun c x2 e2 x3 e3 => ?_, fun c => ?_⟩
        · rw [if_neg (h2 c), e2, e3, nI_1, nI_1, nI_add]
          exact nx
        · rw [if_pos (h1 c)]
          exact ⟨rfl, rfl⟩
      have k57 : ∀ (m i : Nat) (fl : Int32), i + m = w.length → ((¬ fl = 0) → w.length = b - a ∧ ∀ j, j < i → M.1 (61, 0) (a + j) = w.getD j 0) → (fl = 0 → ¬ w = lsF (fun i => M.1 (61, 0) (a + i)) (b - a)) → eg_W κ gM mtX11_wordAt d (eQI κ gM (fun r M1 => r = (if w = lsF (fun i => M.1 (61, 0) (a + i)) (b - a) then nI k else fstL (lsF (fun i => M.1 (61, 0) (a + i)) (b - a)) ws (k + 1)) ∧ M1 = M)) 57 [(0, vR (60, 0)), (1, vI (nI a)), (2, vI (nI b)), (3, vI (nI k)), (4, vI (nI f)), (5, vI (nI w.length)), (6, vI fl), (7, vI (nI i))] [] M := by
        intro m
        induction m with
        | zero =>
          intro i fl hi h1 h2
          have ei : i = w.length := by omega
          subst ei
          exact vX11_wordAt_57 M _ _ _ _ _ _ _ ⟨fun _ => k104 fl (fun q => (lsF_iff _ _ _).mpr (h1 q)) h2, fun c => absurd (nI_le (Nat.le_refl _) (by omega)) c⟩
        | succ m ihm =>
          intro i fl hi h1 h2
          refine vX11_wordAt_57 M _ _ _ _ _ _ _ ⟨fun c => absurd c (nI_ge (by omega) (by omega)), fun _ => ⟨fun c => k104 fl (fun q => absurd c q) h2, fun c => ?_⟩⟩
          obtain ⟨g1, g2⟩ := h1 c
          rw [nI_add, nI_add, nI_t (by omega), nI_t (by omega), hw1 i (by omega)]
          refine ⟨nI_in' (by omega) (by omega), nI_in' (by omega) (by omega), fun x5 e5 x6 e6 => ?_⟩
          rw [e6, nI_1]
          by_cases q : w.getD i 0 = M.1 (61, 0) (a + i)
          · rw [if_neg (fun z => z q)] at e5
            rw [e5]
            refine ihm (i + 1) 1 (by omega) (fun _ => ⟨g1, fun j hj => ?_⟩) (fun z => absurd z (by decide))
            by_cases ej : j = i
            · rw [ej]; exact q.symm
            · exact g2 j (by omega)
          · rw [if_pos q] at e5
            rw [e5]
            exact ihm (i + 1) 0 (by omega) (fun z => absurd rfl z) (fun _ z => q (((lsF_iff _ _ _).mp z).2 i (by omega)).symm)
      have k18 : ∀ (m i : Nat), i + m = w.length → eg_W κ gM mtX11_wordAt d (eQI κ gM (fun r M1 => r = (if w = lsF (fun i => M.1 (61, 0) (a + i)) (b - a) then nI k else fstL (lsF (fun i => M.1 (61, 0) (a + i)) (b - a)) ws (k + 1)) ∧ M1 = M)) 18 [(0, vR (60, 0)), (1, vI (nI a)), (2, vI (nI b)), (3, vI (nI k)), (4, vI (nI f)), (5, vI (nI i))] [] M := by
        intro m
        induction m with
        | zero =>
          intro i hi
          have ei : i = w.length := by omega
          subst ei
          refine vX11_wordAt_18 M _ _ _ _ _ ?_
          rw [nI_add, nI_t (by omega), hw2, nI_subn hab (by omega)]
          refine ⟨nI_in' (by omega) (by omega), fun _ x3 e3 => ?_, fun c => absurd rfl c⟩
          by_cases q : nI w.length = nI (b - a)
          · rw [if_neg (fun z => z q)] at e3
            rw [e3]
            exact k57 w.length 0 1 (by omega) (fun _ => ⟨(nI_eq' (by omega) (by omega)).mp q, fun j hj => absurd hj (Nat.not_lt_zero _)⟩) (fun z => absurd z (by decide))
          · rw [if_pos q] at e3
            rw [e3]
            exact k57 w.length 0 0 (by omega) (fun z => absurd rfl z) (fun _ z => q (by rw [((lsF_iff _ _ _).mp z).1]))
        | succ m ihm =>
          intro i hi
          refine vX11_wordAt_18 M _ _ _ _ _ ?_
          rw [nI_add, nI_t (by omega), hw1 i (by omega)]
          refine ⟨nI_in' (by omega) (by omega), fun c => absurd c (hn32 i (by omega)), fun _ x6 e6 => ?_⟩
          rw [e6, nI_1]
          exact ihm (i + 1) (by omega)
      exact vX11_wordAt_5 M _ _ _ _ ⟨fun c => absurd ((nI_le' (a := 121) (by omega) (by omega)).mp c) (by omega), fun _ => k18 w.length 0 (by omega)⟩
  refine eg_S.of rfl (Nat.le_of_ble_eq_true rfl) (vX11_wordAt_0 M _ _ (key mWs 0 0 (by omega) (by rw [flW_len.1]) (fun j _ => by rw [Nat.zero_add, wd_e]) words_32m (by decide)))
/-! letters packed -/
theorem shl_c (x a b c : Int32) (h : (a.toBitVec.smod 32).toNat + (b.toBitVec.smod 32).toNat = (c.toBitVec.smod 32).toNat) : x <<< a <<< b = x <<< c := by
  apply Int32.toBitVec_inj.mp
  rw [Int32.toBitVec_shiftLeft, Int32.toBitVec_shiftLeft, Int32.toBitVec_shiftLeft, BitVec.shiftLeft_eq', BitVec.shiftLeft_eq', BitVec.shiftLeft_eq', ← BitVec.shiftLeft_add, h]
def pkC (L : Nat → Int32) : Nat → Int32
  | 0 => 0
  | j + 1 => if j < 6 then pkC L j ||| ((L j - 97 + 1) <<< nI (5 * (5 - j))) else pkC L j
def pkM (L : Nat → Int32) (n : Nat) : Nat → Int32
  | 0 => 0
  | j + 1 => (pkM L n j <<< 5) ||| (if j < n then L j - 96 else 0)
theorem l96 (x : Int32) : x - 97 + 1 = x - 96 := by
  rw [Int32.sub_eq_add_neg, Int32.sub_eq_add_neg, Int32.add_assoc]
  rfl
theorem pk_R (L : Nat → Int32) {n : Nat} (h : n ≤ 6) : pkC L n = pkM L n 6 := by
  have s5 : ∀ x : Int32, x <<< (5 : Int32) <<< (5 : Int32) = x <<< (10 : Int32) := fun x => shl_c x 5 5 10 (by decide)
  have s10 : ∀ x : Int32, x <<< (10 : Int32) <<< (5 : Int32) = x <<< (15 : Int32) := fun x => shl_c x 10 5 15 (by decide)
  have s15 : ∀ x : Int32, x <<< (15 : Int32) <<< (5 : Int32) = x <<< (20 : Int32) := fun x => shl_c x 15 5 20 (by decide)
  have s20 : ∀ x : Int32, x <<< (20 : Int32) <<< (5 : Int32) = x <<< (25 : Int32) := fun x => shl_c x 20 5 25 (by decide)
  have n0 : ∀ x : Int32, x <<< nI 0 = x := fun x => Int32.shiftLeft_zero
  have n5 : nI 5 = 5 := rfl
  have n10 : nI 10 = 10 := rfl
  have n15 : nI 15 = 15 := rfl
  have n20 : nI 20 = 20 := rfl
  have n25 : nI 25 = 25 := rfl
  rcases (by omega : n = 0 ∨ n = 1 ∨ n = 2 ∨ n = 3 ∨ n = 4 ∨ n = 5 ∨ n = 6) with rfl | rfl | rfl | rfl | rfl | rfl | rfl <;> simp (disch := omega) only [pkC, pkM, if_pos, if_neg, l96, Int32.zero_or, Int32.or_zero, Int32.zero_shiftLeft, Int32.shiftLeft_or, s5, s10, s15, s20, n0, n5, n10, n15, n20, n25, Nat.reduceLT, Nat.reduceSub, Nat.reduceMul, if_true, if_false, reduceIte, Nat.zero_lt_succ]
theorem sX11_packed {κ : eg_K} {d : Nat} (M : eg_H) {a b : Nat} (hab : a ≤ b) (hb : b ≤ 800) : eg_S κ gM mtX11_packed d [vR (60, 0), vI (nI a), vI (nI b)] M (eQI κ gM (fun r M1 => r = pkM (fun i => M.1 (61, 0) (a + i)) (b - a) 6 ∧ M1 = M)) := by
  have key : ∀ (m j : Nat), j + m = 6 → eg_W κ gM mtX11_packed d (eQI κ gM (fun r M1 => r = pkM (fun i => M.1 (61, 0) (a + i)) (b - a) 6 ∧ M1 = M)) 5 [(0, vR (60, 0)), (1, vI (nI a)), (2, vI (nI b)), (3, vI (pkM (fun i => M.1 (61, 0) (a + i)) (b - a) j)), (4, vI (nI (a + j)))] [] M := by
    intro m
    induction m with
    | zero =>
      intro j hj
      have ej : j = 6 := by omega
      subst ej
      refine vX11_packed_5 M _ _ _ _ ?_
      rw [(nAl a).2.2.2.2.2.2.1]
      exact ⟨fun _ => ⟨rfl, rfl⟩, fun c => absurd (nI_le (Nat.le_refl _) (by omega)) c⟩
    | succ m ih =>
      intro j hj
      refine vX11_packed_5 M _ _ _ _ ?_
      rw [(nAl a).2.2.2.2.2.2.1, nI_t (by omega)]
      refine ⟨fun c => absurd c (nI_ge (by omega) (by omega)), fun _ => ⟨fun c => ?_, fun x3 e3 x4 e4 x5 e5 => ?_⟩⟩
      · have : ¬ b ≤ a + j := fun z => c (nI_le z (by omega))
        exact nI_in' (by omega) (by omega)
      · have ex : x4 = pkM (fun i => M.1 (61, 0) (a + i)) (b - a) (j + 1) := by
          rw [e4, e3]
          show _ = (pkM (fun i => M.1 (61, 0) (a + i)) (b - a) j <<< 5) ||| (if j < b - a then M.1 (61, 0) (a + j) - 96 else 0)
          rw [show ((5 : Int32) &&& 31) = 5 by decide]
          by_cases q : j < b - a
          · rw [if_pos q, if_neg (nI_ge (by omega) (by omega))]
          · rw [if_neg q, if_pos (nI_le (by omega) (by omega))]
        rw [e5, nI_1, ex]
        exact ih (j + 1) (by omega)
  exact eg_S.of rfl (Nat.le_of_ble_eq_true rfl) (vX11_packed_0 M _ _ (key 6 0 (by omega)))
