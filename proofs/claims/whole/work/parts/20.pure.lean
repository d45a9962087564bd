/-! WHAT A RUN IS BY: stations, persons; a station's numbers (0 seconds, 1 places, 2 portions in a pan, 0 without, 3 lag, 4 from, 5 cold, 0 never); a person's (0 comes, 1 size, 2 + k wants at k); 0 pass, 1 again, 2 close; the laws -/
abbrev eg_E : Type := Nat × Nat × (Nat → Nat → Int32) × (Nat → Nat → Int32) × (Nat → Int32) × (Nat → (Nat → Int64) → Option Int64)
abbrev eN (E : eg_E) : Nat := E.1
abbrev eP (E : eg_E) : Nat := E.2.1
abbrev eD (E : eg_E) : Nat → Nat → Int32 := E.2.2.1
abbrev eC (E : eg_E) : Nat → Nat → Int32 := E.2.2.2.1
abbrev eO (E : eg_E) : Nat → Int32 := E.2.2.2.2.1
abbrev eL (E : eg_E) : Nat → (Nat → Int64) → Option Int64 := E.2.2.2.2.2
/-! the seconds of an array of 366 (0 the second, 1 how many in the line, 2 .. who; 20 + 20 g the person g; 320 + 8 s the pan s; 360 + p the row) -/
def nm0 : Nat → Int64 := fun _ => 0
def fillF (E : eg_E) (s : Nat) (Y : Nat → Int32) : Nat → Int32 :=
  if Y (320 + 8 * s + 2) < 0 ∨ ¬ Y (320 + 8 * s + 2) ≤ Y 0 then Y
  else upd (upd (upd (upd Y (320 + 8 * s) (Y (320 + 8 * s) + eD E s 2)) (320 + 8 * s + 1) 0) (320 + 8 * s + 2) (-1)) (320 + 8 * s + 6) (Y (320 + 8 * s + 6) + 1)
def admF (E : eg_E) (g : Nat) (Y : Nat → Int32) : Nat → Int32 :=
  if (Y (20 + 20 * g) = 0 ∨ Y (20 + 20 * g) = 2) ∧ Y (20 + 20 * g + 11) = Y 0 then comeF (eC E g 1) Y g else Y
def lawD (E : eg_E) (l : Nat) (nm : Nat → Int64) (w : Int64) : Int64 := (eL E l nm).getD w
/-- names at a station -/
def nmA (E : eg_E) (Y : Nat → Int32) (g s : Nat) : Nat → Int64 := nmY nm0 Y (eC E g 1) g (Y (20 + 20 * g + 14 + s)).toInt64 (if eD E s 2 = 0 then 999 else (Y (320 + 8 * s)).toInt64) (if eD E s 2 = 0 then 0 else (Y (320 + 8 * s + 1)).toInt64)
def clamp (v most : Int64) : Int64 := if 0 ≤ lg_cmp v 0 then (if lg_cmp v most ≤ 0 then v else most) else 0
/-- a person leaves the line at its place i -/
def sitF (E : eg_E) (i : Nat) (Y : Nat → Int32) : Nat → Int32 :=
  let g := (Y (2 + i)).toNatClampNeg
  let plate := eC E g 1 - Y (20 + 20 * g + 2)
  let wants := sm (fun k => Y (34 + 20 * g + k)) 5
  let v := lawD E 2 (nmY nm0 Y (eC E g 1) g wants.toInt64 0 0) plate.toInt64
  let h := (clamp v plate.toInt64).toInt32
  let again : Int32 := if wants ≤ 0 then 0 else if eO E 1 ≤ 0 then 0 else if plate ≤ 0 then 0 else 1
  ool (upd (upd (upd (upd (upd (upd Y (20 + 20 * g + 6) (Y (20 + 20 * g + 6) + h)) (20 + 20 * g + 7) (Y (20 + 20 * g + 7) + (plate - h))) (20 + 20 * g) (if again = 0 then 3 else 2)) (20 + 20 * g + 11) (Y 0 + eO E 1)) (20 + 20 * g + 1) (-1)) (20 + 20 * g + 2) (eC E g 1)) i
/-- so many portions come on the plate -/
def heapH (E : eg_E) (Y : Nat → Int32) (g s : Nat) : Int32 :=
  (clamp (lawD E 0 (nmA E Y g s) (Y (20 + 20 * g + 14 + s)).toInt64) (if eD E s 2 = 0 then (Y (20 + 20 * g + 2)).toInt64 else if 0 ≤ lg_cmp (Y (320 + 8 * s)).toInt64 (Y (20 + 20 * g + 2)).toInt64 then (Y (20 + 20 * g + 2)).toInt64 else (Y (320 + 8 * s)).toInt64)).toInt32
def heapF (E : eg_E) (g s : Nat) (Y : Nat → Int32) : Nat → Int32 :=
  let h := heapH E Y g s
  let w := Y (20 + 20 * g + 14 + s)
  upd (upd (upd (upd (upd (upd Y (20 + 20 * g + 2) (Y (20 + 20 * g + 2) - h)) (20 + 20 * g + 5) (Y (20 + 20 * g + 5) + h)) (20 + 20 * g + 14 + s) (if w ≤ h then 0 else w - h)) (320 + 8 * s + 3) (Y (320 + 8 * s + 3) + h)) (320 + 8 * s + 4) (Y (320 + 8 * s + 4) + (if eD E s 5 = 0 then 0 else if Y (320 + 8 * s + 1) < eD E s 5 then 0 else h))) (320 + 8 * s) (Y (320 + 8 * s) - (if eD E s 2 = 0 then 0 else h))
def skipF (g s : Nat) (Y : Nat → Int32) : Nat → Int32 := upd (upd Y (20 + 20 * g + 14 + s) 0) (20 + 20 * g + 8) (Y (20 + 20 * g + 8) + 1)
/-- to the place p -/
def goToF (E : eg_E) (g p : Nat) (Y : Nat → Int32) : Nat → Int32 :=
  let s := (Y (360 + p)).toNatClampNeg
  let Y1 := upd (upd Y (20 + 20 * g + 1) (nI p)) (20 + 20 * g + 10) 0
  if ¬ eD E s 2 = 0 ∧ Y1 (320 + 8 * s) = 0 then skipF g s Y1
  else if ¬ eD E s 1 ≤ sm (tkF Y1 (nI p)) (Y1 1).toNatClampNeg then upd (heapF E g s Y1) (20 + 20 * g + 3) (eD E s 0)
  else if lg_cmp (lawD E 1 (nmA E Y1 g s) 0) 0 = 0 then upd (upd Y1 (20 + 20 * g + 10) 1) (20 + 20 * g + 4) (Y1 (20 + 20 * g + 4) + 1)
  else skipF g s Y1
/-- the i-th in the line: whether gone, and the array -/
def goF (E : eg_E) (i : Nat) (Y : Nat → Int32) : Bool × (Nat → Int32) :=
  let g := (Y (2 + i)).toNatClampNeg
  let p := nxF Y (eN E) g
  let a := Y (20 + 20 * (Y (1 + i)).toNatClampNeg + 1)
  if eO E 0 = 0 ∧ 0 < i ∧ (p < 0 ∨ ¬ p ≤ a) then
    (false, upd (upd Y (20 + 20 * g + 1) (if a ≤ Y (20 + 20 * g + 1) then Y (20 + 20 * g + 1) else a)) (20 + 20 * g + 4) (Y (20 + 20 * g + 4) + 1))
  else if p < 0 then (true, sitF E i Y)
  else (false, goToF E g p.toNatClampNeg Y)
/-- along the line from i on, n steps -/
def walkF (E : eg_E) : Nat → Nat → (Nat → Int32) → (Nat → Int32)
  | 0, _, Y => Y
  | n + 1, i, Y =>
    if i < (Y 1).toNatClampNeg then
      if Y (20 + 20 * (Y (2 + i)).toNatClampNeg + 3) = 0 then
        (if (goF E i Y).1 then walkF E n i (goF E i Y).2 else walkF E n (i + 1) (goF E i Y).2)
      else walkF E n (i + 1) Y
    else Y
def tkoF (k : Nat) (Y : Nat → Int32) : Nat → Int32 :=
  upd Y (20 + 20 * (Y (2 + k)).toNatClampNeg + 3) (Y (20 + 20 * (Y (2 + k)).toNatClampNeg + 3) - (if Y (20 + 20 * (Y (2 + k)).toNatClampNeg + 3) ≤ 0 then 0 else 1))
def pansF (E : eg_E) (s : Nat) (Y : Nat → Int32) : Nat → Int32 :=
  if eD E s 2 = 0 then Y else
    let Y1 := if ¬ eD E s 4 < Y (320 + 8 * s) ∧ ¬ 0 ≤ Y (320 + 8 * s + 2) ∧ ¬ eO E 2 ≤ Y 0 then upd Y (320 + 8 * s + 2) (Y 0 + eD E s 3) else Y
    upd (upd Y1 (320 + 8 * s + 1) (Y1 (320 + 8 * s + 1) + 1)) (320 + 8 * s + 5) (Y1 (320 + 8 * s + 5) + (if Y1 (320 + 8 * s) = 0 then 1 else 0))
def secF (E : eg_E) (Y : Nat → Int32) : Nat → Int32 :=
  let Y1 := itr (admF E) (eP E) (itr (fillF E) (eN E) Y)
  let Y2 := walkF E (Y1 1).toNatClampNeg 0 Y1
  let Y3 := itr tkoF (Y2 1).toNatClampNeg Y2
  let Y4 := itr (pansF E) (eN E) Y3
  upd Y4 0 (Y4 0 + 1)
