abbrev s0_N : Cond := Jvm.Cond.and given_1 narrow_1
def cget : Cond → List Bool → Option Cond
  | c, [] => some c
  | .and a b, d :: ds => if d then cget b ds else cget a ds
  | _, _ :: _ => none
theorem cget_b {a : Array Value} {s : State} : ∀ {ds : List Bool} {c w : Cond}, c.before a s = true → cget c ds = some w → w.before a s = true
  | [], c, w, h, e => by
    unfold cget at e
    cases e
    exact h
  | d :: ds, c, w, h, e => by
    cases c with
    | and x y =>
      have hxy := (show x.before a s = true ∧ y.before a s = true by rw [Cond.before_and, Bool.and_eq_true] at h; exact h)
      cases d with
      | false => exact cget_b hxy.1 e
      | true => exact cget_b hxy.2 e
    | _ => cases e
theorem s0_nar {a : Array Value} {s : State} (h : s0_N.before a s = true) : narrow_1.before a s = true := cget_b (ds := [true]) h rfl
theorem s0_el {a : Array Value} {s : State} (h : narrow_1.before a s = true) : ∀ j : Nat, j < 121 → (Cond.eq (.elem (.field (.string "EggTrays$Tokens" 47) "java/lang/String" "value" "[B") (.int (Int32.ofNat j))) (.int (eg_wb.getD j 0))).before a s = true
  | 0, _ => cget_b (ds := [false, true, true, false, false, false, true, true]) h rfl
  | 1, _ => cget_b (ds := [false, true, true, false, false, true, false, false]) h rfl
  | 2, _ => cget_b (ds := [false, true, true, false, false, true, false, true]) h rfl
  | 3, _ => cget_b (ds := [false, true, true, false, false, true, true, false]) h rfl
  | 4, _ => cget_b (ds := [false, true, true, false, false, true, true, true]) h rfl
  | 5, _ => cget_b (ds := [false, true, true, false, true, false, false, false]) h rfl
  | 6, _ => cget_b (ds := [false, true, true, false, true, false, false, true]) h rfl
  | 7, _ => cget_b (ds := [false, true, true, false, true, false, true, false]) h rfl
  | 8, _ => cget_b (ds := [false, true, true, false, true, false, true, true]) h rfl
  | 9, _ => cget_b (ds := [false, true, true, false, true, true, false, false]) h rfl
  | 10, _ => cget_b (ds := [false, true, true, false, true, true, false, true]) h rfl
  | 11, _ => cget_b (ds := [false, true, true, false, true, true, true, false]) h rfl
  | 12, _ => cget_b (ds := [false, true, true, false, true, true, true, true]) h rfl
  | 13, _ => cget_b (ds := [false, true, true, true, false, false, false, false]) h rfl
  | 14, _ => cget_b (ds := [false, true, true, true, false, false, false, true]) h rfl
  | 15, _ => cget_b (ds := [false, true, true, true, false, false, true, false]) h rfl
  | 16, _ => cget_b (ds := [false, true, true, true, false, false, true, true]) h rfl
  | 17, _ => cget_b (ds := [false, true, true, true, false, true, false, false]) h rfl
  | 18, _ => cget_b (ds := [false, true, true, true, false, true, false, true]) h rfl
  | 19, _ => cget_b (ds := [false, true, true, true, false, true, true, false]) h rfl
  | 20, _ => cget_b (ds := [false, true, true, true, false, true, true, true]) h rfl
  | 21, _ => cget_b (ds := [false, true, true, true, true, false, false, false]) h rfl
  | 22, _ => cget_b (ds := [false, true, true, true, true, false, false, true]) h rfl
  | 23, _ => cget_b (ds := [false, true, true, true, true, false, true, false]) h rfl
  | 24, _ => cget_b (ds := [false, true, true, true, true, false, true, true]) h rfl
  | 25, _ => cget_b (ds := [false, true, true, true, true, true, false, false]) h rfl
  | 26, _ => cget_b (ds := [false, true, true, true, true, true, false, true]) h rfl
  | 27, _ => cget_b (ds := [false, true, true, true, true, true, true, false]) h rfl
  | 28, _ => cget_b (ds := [false, true, true, true, true, true, true, true]) h rfl
  | 29, _ => cget_b (ds := [true, false, false, false, false, false, false, false]) h rfl
  | 30, _ => cget_b (ds := [true, false, false, false, false, false, false, true]) h rfl
  | 31, _ => cget_b (ds := [true, false, false, false, false, false, true, false]) h rfl
  | 32, _ => cget_b (ds := [true, false, false, false, false, false, true, true]) h rfl
  | 33, _ => cget_b (ds := [true, false, false, false, false, true, false, false]) h rfl
  | 34, _ => cget_b (ds := [true, false, false, false, false, true, false, true]) h rfl
  | 35, _ => cget_b (ds := [true, false, false, false, false, true, true, false]) h rfl
  | 36, _ => cget_b (ds := [true, false, false, false, false, true, true, true]) h rfl
  | 37, _ => cget_b (ds := [true, false, false, false, true, false, false, false]) h rfl
  | 38, _ => cget_b (ds := [true, false, false, false, true, false, false, true]) h rfl
  | 39, _ => cget_b (ds := [true, false, false, false, true, false, true, false]) h rfl
  | 40, _ => cget_b (ds := [true, false, false, false, true, false, true, true]) h rfl
  | 41, _ => cget_b (ds := [true, false, false, false, true, true, false, false]) h rfl
  | 42, _ => cget_b (ds := [true, false, false, false, true, true, false, true]) h rfl
  | 43, _ => cget_b (ds := [true, false, false, false, true, true, true, false]) h rfl
  | 44, _ => cget_b (ds := [true, false, false, false, true, true, true, true]) h rfl
  | 45, _ => cget_b (ds := [true, false, false, true, false, false, false, false]) h rfl
  | 46, _ => cget_b (ds := [true, false, false, true, false, false, false, true]) h rfl
  | 47, _ => cget_b (ds := [true, false, false, true, false, false, true, false]) h rfl
  | 48, _ => cget_b (ds := [true, false, false, true, false, false, true, true]) h rfl
  | 49, _ => cget_b (ds := [true, false, false, true, false, true, false, false]) h rfl
  | 50, _ => cget_b (ds := [true, false, false, true, false, true, false, true]) h rfl
  | 51, _ => cget_b (ds := [true, false, false, true, false, true, true, false]) h rfl
  | 52, _ => cget_b (ds := [true, false, false, true, false, true, true, true]) h rfl
  | 53, _ => cget_b (ds := [true, false, false, true, true, false, false, false]) h rfl
  | 54, _ => cget_b (ds := [true, false, false, true, true, false, false, true]) h rfl
  | 55, _ => cget_b (ds := [true, false, false, true, true, false, true, false]) h rfl
  | 56, _ => cget_b (ds := [true, false, false, true, true, false, true, true]) h rfl
  | 57, _ => cget_b (ds := [true, false, false, true, true, true, false, false]) h rfl
  | 58, _ => cget_b (ds := [true, false, false, true, true, true, false, true]) h rfl
  | 59, _ => cget_b (ds := [true, false, false, true, true, true, true, false]) h rfl
  | 60, _ => cget_b (ds := [true, false, false, true, true, true, true, true]) h rfl
  | 61, _ => cget_b (ds := [true, false, true, false, false, false, false, false]) h rfl
  | 62, _ => cget_b (ds := [true, false, true, false, false, false, false, true]) h rfl
  | 63, _ => cget_b (ds := [true, false, true, false, false, false, true, false]) h rfl
  | 64, _ => cget_b (ds := [true, false, true, false, false, false, true, true]) h rfl
  | 65, _ => cget_b (ds := [true, false, true, false, false, true, false, false]) h rfl
  | 66, _ => cget_b (ds := [true, false, true, false, false, true, false, true]) h rfl
  | 67, _ => cget_b (ds := [true, false, true, false, false, true, true, false]) h rfl
  | 68, _ => cget_b (ds := [true, false, true, false, false, true, true, true]) h rfl
  | 69, _ => cget_b (ds := [true, false, true, false, true, false, false, false]) h rfl
  | 70, _ => cget_b (ds := [true, false, true, false, true, false, false, true]) h rfl
  | 71, _ => cget_b (ds := [true, false, true, false, true, false, true, false]) h rfl
  | 72, _ => cget_b (ds := [true, false, true, false, true, false, true, true]) h rfl
  | 73, _ => cget_b (ds := [true, false, true, false, true, true, false, false]) h rfl
  | 74, _ => cget_b (ds := [true, false, true, false, true, true, false, true]) h rfl
  | 75, _ => cget_b (ds := [true, false, true, false, true, true, true, false]) h rfl
  | 76, _ => cget_b (ds := [true, false, true, false, true, true, true, true]) h rfl
  | 77, _ => cget_b (ds := [true, false, true, true, false, false, false, false]) h rfl
  | 78, _ => cget_b (ds := [true, false, true, true, false, false, false, true]) h rfl
  | 79, _ => cget_b (ds := [true, false, true, true, false, false, true, false]) h rfl
  | 80, _ => cget_b (ds := [true, false, true, true, false, false, true, true]) h rfl
  | 81, _ => cget_b (ds := [true, false, true, true, false, true, false, false]) h rfl
  | 82, _ => cget_b (ds := [true, false, true, true, false, true, false, true]) h rfl
  | 83, _ => cget_b (ds := [true, false, true, true, false, true, true, false]) h rfl
  | 84, _ => cget_b (ds := [true, false, true, true, false, true, true, true]) h rfl
  | 85, _ => cget_b (ds := [true, false, true, true, true, false, false, false]) h rfl
  | 86, _ => cget_b (ds := [true, false, true, true, true, false, false, true]) h rfl
  | 87, _ => cget_b (ds := [true, false, true, true, true, false, true, false]) h rfl
  | 88, _ => cget_b (ds := [true, false, true, true, true, false, true, true]) h rfl
  | 89, _ => cget_b (ds := [true, false, true, true, true, true, false, false]) h rfl
  | 90, _ => cget_b (ds := [true, false, true, true, true, true, false, true]) h rfl
  | 91, _ => cget_b (ds := [true, false, true, true, true, true, true, false]) h rfl
  | 92, _ => cget_b (ds := [true, false, true, true, true, true, true, true]) h rfl
  | 93, _ => cget_b (ds := [true, true, false, false, false, false, false, false]) h rfl
  | 94, _ => cget_b (ds := [true, true, false, false, false, false, false, true]) h rfl
  | 95, _ => cget_b (ds := [true, true, false, false, false, false, true, false]) h rfl
  | 96, _ => cget_b (ds := [true, true, false, false, false, false, true, true]) h rfl
  | 97, _ => cget_b (ds := [true, true, false, false, false, true, false, false]) h rfl
  | 98, _ => cget_b (ds := [true, true, false, false, false, true, false, true]) h rfl
  | 99, _ => cget_b (ds := [true, true, false, false, false, true, true, false]) h rfl
  | 100, _ => cget_b (ds := [true, true, false, false, false, true, true, true]) h rfl
  | 101, _ => cget_b (ds := [true, true, false, false, true, false, false, false]) h rfl
  | 102, _ => cget_b (ds := [true, true, false, false, true, false, false, true]) h rfl
  | 103, _ => cget_b (ds := [true, true, false, false, true, false, true, false]) h rfl
  | 104, _ => cget_b (ds := [true, true, false, false, true, false, true, true]) h rfl
  | 105, _ => cget_b (ds := [true, true, false, false, true, true, false, false]) h rfl
  | 106, _ => cget_b (ds := [true, true, false, false, true, true, false, true]) h rfl
  | 107, _ => cget_b (ds := [true, true, false, false, true, true, true, false]) h rfl
  | 108, _ => cget_b (ds := [true, true, false, false, true, true, true, true]) h rfl
  | 109, _ => cget_b (ds := [true, true, false, true, false, false, false, false]) h rfl
  | 110, _ => cget_b (ds := [true, true, false, true, false, false, false, true]) h rfl
  | 111, _ => cget_b (ds := [true, true, false, true, false, false, true, false]) h rfl
  | 112, _ => cget_b (ds := [true, true, false, true, false, false, true, true]) h rfl
  | 113, _ => cget_b (ds := [true, true, false, true, false, true, false, false]) h rfl
  | 114, _ => cget_b (ds := [true, true, false, true, false, true, false, true]) h rfl
  | 115, _ => cget_b (ds := [true, true, false, true, false, true, true, false]) h rfl
  | 116, _ => cget_b (ds := [true, true, false, true, false, true, true, true]) h rfl
  | 117, _ => cget_b (ds := [true, true, false, true, true, false, false, false]) h rfl
  | 118, _ => cget_b (ds := [true, true, false, true, true, false, false, true]) h rfl
  | 119, _ => cget_b (ds := [true, true, false, true, true, false, true, false]) h rfl
  | 120, _ => cget_b (ds := [true, true, false, true, true, false, true, true]) h rfl
  | j + 121, h => absurd h (by omega)
theorem s0_ex0 {a : Array Value} {s : State} (h : narrow_1.before a s = true) : (Cond.exactly (Term.string "EggTrays$Tokens" (47 : Nat)) "java/lang/String").before a s = true := cget_b (ds := [false, true, false, true, true, true, true, true]) h rfl
theorem s0_co0 {a : Array Value} {s : State} (h : narrow_1.before a s = true) : (Cond.eq (Term.field (Term.string "EggTrays$Tokens" (47 : Nat)) "java/lang/String" "coder" "B") (Term.int (0 : Int32))).before a s = true := cget_b (ds := [false, true, true, false, false, false, false, false]) h rfl
theorem s0_ar0 {a : Array Value} {s : State} (h : narrow_1.before a s = true) : (Cond.arrayOf (Term.field (Term.string "EggTrays$Tokens" (47 : Nat)) "java/lang/String" "value" "[B") FieldType.byte).before a s = true := cget_b (ds := [false, true, true, false, false, false, false, true]) h rfl
theorem s0_le0 {a : Array Value} {s : State} (h : narrow_1.before a s = true) : (Cond.eq (Term.length (Term.field (Term.string "EggTrays$Tokens" (47 : Nat)) "java/lang/String" "value" "[B")) (Term.int (121 : Int32))).before a s = true := cget_b (ds := [false, true, true, false, false, false, true, false]) h rfl
theorem s0_ex1 {a : Array Value} {s : State} (h : narrow_1.before a s = true) : (Cond.exactly (Term.string "EggTrays" (138 : Nat)) "java/lang/String").before a s = true := cget_b (ds := [true, true, false, true, true, true, false, false]) h rfl
theorem s0_ex2 {a : Array Value} {s : State} (h : narrow_1.before a s = true) : (Cond.exactly (Term.string "EggTrays" (185 : Nat)) "java/lang/String").before a s = true := cget_b (ds := [true, true, true, false, true, true, true, false]) h rfl
theorem s0_cs {a : Array Value} {s : State} (h : narrow_1.before a s = true) : (Cond.eq (Term.static "java/lang/String" "COMPACT_STRINGS" "Z") (Term.int (1 : Int32))).before a s = true := cget_b (ds := [false, false, false, false, false, false, true, false]) h rfl
theorem s0_us {a : Array Value} {s : State} (h : narrow_1.before a s = true) : (Cond.isRef (Term.static "java/lang/Throwable" "UNASSIGNED_STACK" "[Ljava/lang/StackTraceElement;")).before a s = true := cget_b (ds := [false, false, false, false, false, true, true, true]) h rfl
theorem s0_ss {a : Array Value} {s : State} (h : narrow_1.before a s = true) : (Cond.isRef (Term.static "java/lang/Throwable" "SUPPRESSED_SENTINEL" "Ljava/util/List;")).before a s = true := cget_b (ds := [false, false, false, false, true, false, false, false]) h rfl
theorem s0_sf {a : Array Value} {s : State} (h : narrow_1.before a s = true) : (Cond.isRef (Term.static "jdk/internal/util/Preconditions" "SIOOBE_FORMATTER" "Ljava/util/function/BiFunction;")).before a s = true := cget_b (ds := [false, false, false, false, false, false, true, true]) h rfl
theorem s0_nc {a : Array Value} {s : State} (h : narrow_1.before a s = true) : (Cond.not (Cond.castable "java/util/NoSuchElementException" "java/lang/IndexOutOfBoundsException")).before a s = true := cget_b (ds := [false, false, false, true, false, true, false, true]) h rfl
theorem s0_Z {s : State} {a : Array Value} (hts : ∀ w ∈ lw_tbl, w.before a s = true) (hgv : narrow_1.before a s = true) : ∃ tx wv : Nat → Nat, ∀ (l : Launch) (dC : Nat → ClassId) (dI : Nat → Nat → Nat) (dA : Nat → ClassId) (b : Nat), eg_Z (eK l dC dI dA b tx wv) (fun q => s.heap.size ≤ q) s s.heap := by
  have hA : ∀ q : Nat, q < s.heap.size → ¬ (fun q : Nat => s.heap.size ≤ q) q := fun q h => Nat.not_le.mpr h
  have hle : ∀ i : Nat, i < 1 → (Cond.eq (.length (.field (.string "EggTrays$Tokens" 47) "java/lang/String" "value" "[B")) (.int (Int32.ofNat (([121] : List Nat).getD i 0)))).before a s = true := fun i hi => by
    obtain rfl : i = 0 := by omega
    exact s0_le0 hgv
  have hel : ∀ i : Nat, i < 1 → ∀ j : Nat, j < ([121] : List Nat).getD i 0 → (Cond.eq (.elem (.field (.string "EggTrays$Tokens" 47) "java/lang/String" "value" "[B") (.int (Int32.ofNat j))) (.int ((([eg_wb] : List (List Int32)).getD i []).getD j 0))).before a s = true := fun i hi j hj => by
    obtain rfl : i = 0 := by omega
    exact s0_el hgv j hj
  have hln : ∀ i : Nat, i < 1 → ([121] : List Nat).getD i 0 < 2 ^ 31 := fun i hi => by
    obtain rfl : i = 0 := by omega
    decide
  obtain ⟨adK, adV, hS, hE⟩ := vk_Sof (args := a) (s := s) (N := 1) (tm := fun _ => .string "EggTrays$Tokens" 47) (len := [121]) (byt := [eg_wb]) (A := fun q => s.heap.size ≤ q) hln (fun _ _ => s0_ex0 hgv) (fun _ _ => s0_co0 hgv) (fun _ _ => s0_ar0 hgv) hle hel (fun i j hi hj h => absurd (show i = j by omega) h) hA
  obtain ⟨a1, _, _, _, e1, -⟩ := Cond.exactly_spec (args := a) (first := s) (o := none) (s := s) (idx := []) (t := .string "EggTrays" 138) (cls := "java/lang/String") (s0_ex1 hgv)
  obtain ⟨a2, _, _, _, e2, -⟩ := Cond.exactly_spec (args := a) (first := s) (o := none) (s := s) (idx := []) (t := .string "EggTrays" 185) (cls := "java/lang/String") (s0_ex2 hgv)
  refine ⟨fun i => if i = 0 then adK 0 else if i = 1 then a1 else a2, adV, fun l dC dI dA b => ⟨⟨?_, ?_, ?_⟩, ⟨fun i hi => ?_, fun i j hi hj _ => by omega⟩, ?_, ?_, ?_, ?_⟩⟩
  · exact vk_R.of (hts _ (lt_3 (i := 103) (by decide +kernel))) (hE 0 (by decide))
  · exact vk_R.of (hts _ (lt_5 (i := 229) (by decide +kernel))) e1
  · exact vk_R.of (hts _ (lt_6 (i := 25) (by decide +kernel))) e2
  · obtain rfl : i = 0 := by omega
    exact hS.1 0 (by decide)
  · exact va_Zof (hts _ (lt_3 (i := 113) (by decide +kernel))) (hts _ (lt_1 (i := 13) (by decide +kernel))) (va_eqt (s0_cs hgv)) hA
  · exact va_Zqof (hts _ (lt_5 (i := 216) (by decide +kernel))) (hts _ (lt_1 (i := 18) (by decide +kernel))) (s0_us hgv) hA
  · exact va_Zqof (hts _ (lt_5 (i := 218) (by decide +kernel))) (hts _ (lt_1 (i := 18) (by decide +kernel))) (s0_ss hgv) hA
  · exact va_Zqof (hts _ (lt_3 (i := 129) (by decide +kernel))) (hts _ (lt_1 (i := 15) (by decide +kernel))) (s0_sf hgv) hA
