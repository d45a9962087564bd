def knC : List (Nat × Nat) := [(0, 30), (1, 10), (2, 60), (3, 2), (4, 20), (5, 2), (6, 1), (7, 4), (8, 1), (9, 1), (10, 1), (20, 30), (22, 60), (23, 2), (24, 2), (25, 2), (26, 2), (27, 2), (30, 2), (31, 2), (32, 2), (33, 2), (34, 2), (35, 2), (36, 1), (40, 4), (41, 4), (42, 4), (43, 4), (44, 1), (45, 1), (46, 1), (47, 1), (48, 1), (50, 1), (51, 1), (52, 1), (53, 1)]
def rfC : List eg_R := knC.flatMap (fun q => (List.range q.2).map (fun j => (q.1, j)))
def shC (r : eg_R) : Nat × Nat := match r.1 with
  | 0 => (0, 0)
  | 1 => (0, 1)
  | 2 => (0, 2)
  | 3 => (0, 3)
  | 4 => (0, 4)
  | 5 => (0, 5)
  | 6 => (0, 6)
  | 7 => (0, 7)
  | 8 => (0, 8)
  | 9 => (0, 9)
  | 10 => (0, 10)
  | 20 => (1, 5)
  | 22 => (1, 5)
  | 23 => (1, 64)
  | 24 => (1, 7)
  | 25 => (1, 7)
  | 26 => (4, 8)
  | 27 => (4, 64)
  | 30 => (5, 5)
  | 31 => (6, 15)
  | 32 => (1, 4)
  | 33 => (1, 4)
  | 34 => (1, 4)
  | 35 => (1, 3)
  | 36 => (1, 72)
  | 40 => (1, 5)
  | 41 => (7, 5)
  | 42 => (8, 15)
  | 43 => (1, 15)
  | 44 => (1, 40)
  | 45 => (1, 40)
  | 46 => (1, 40)
  | 47 => (1, 40)
  | 48 => (3, 40)
  | 50 => (2, 800)
  | 51 => (1, 60)
  | 52 => (1, 5)
  | 53 => (1, 5)
  | _ => (0, 99)
def ptC (r : eg_R) (j : Nat) : eg_R := match r.1 with
  | 0 => (match j with
    | 3 => (20, r.2)
    | _ => (99, 0))
  | 2 => (match j with
    | 3 => (22, r.2)
    | _ => (99, 0))
  | 3 => (match j with
    | 0 => (23, r.2)
    | 1 => (24, r.2)
    | 2 => (25, r.2)
    | 5 => (26, r.2)
    | 6 => (27, r.2)
    | _ => (99, 0))
  | 5 => (match j with
    | 1 => (30, r.2)
    | 3 => (31, r.2)
    | 8 => (32, r.2)
    | 9 => (33, r.2)
    | 10 => (34, r.2)
    | 11 => (35, r.2)
    | 12 => (3, r.2)
    | _ => (99, 0))
  | 6 => (match j with
    | 0 => (9, 0)
    | 9 => (36, 0)
    | _ => (99, 0))
  | 7 => (match j with
    | 2 => (40, r.2)
    | 3 => (41, r.2)
    | 4 => (42, r.2)
    | 5 => (43, r.2)
    | _ => (99, 0))
  | 8 => (match j with
    | 2 => (44, 0)
    | 3 => (45, 0)
    | 4 => (46, 0)
    | 5 => (47, 0)
    | 6 => (48, 0)
    | _ => (99, 0))
  | 9 => (match j with
    | 0 => (50, 0)
    | _ => (99, 0))
  | 10 => (match j with
    | 0 => (50, 0)
    | 2 => (6, 0)
    | 5 => (7, 0)
    | 6 => (7, 1)
    | 7 => (7, 2)
    | 9 => (7, 3)
    | 10 => (51, 0)
    | 12 => (8, 0)
    | 13 => (52, 0)
    | 14 => (53, 0)
    | _ => (99, 0))
  | 30 => (1, 5 * r.2 + j)
  | 31 => (0, 15 * r.2 + j)
  | 41 => (4, 5 * r.2 + j)
  | 42 => (2, 15 * r.2 + j)
  | _ => (99, 0)
def gC : eg_G := (rfC, shC, ptC)
theorem inC {k j n : Nat} (h : (k, n) ∈ knC) (hj : j < n) : (k, j) ∈ gC.1 := by
  show (k, j) ∈ rfC
  unfold rfC
  exact List.mem_flatMap.mpr ⟨(k, n), h, List.mem_map.mpr ⟨j, List.mem_range.mpr hj, rfl⟩⟩
theorem obC_0 {j : Nat} (h : j < 30) : eg_Ob gC ((0, j) : eg_R) 0 := ⟨inC (n := 30) (by decide) h, rfl⟩
theorem obC_1 {j : Nat} (h : j < 10) : eg_Ob gC ((1, j) : eg_R) 1 := ⟨inC (n := 10) (by decide) h, rfl⟩
theorem obC_2 {j : Nat} (h : j < 60) : eg_Ob gC ((2, j) : eg_R) 2 := ⟨inC (n := 60) (by decide) h, rfl⟩
theorem obC_3 {j : Nat} (h : j < 2) : eg_Ob gC ((3, j) : eg_R) 3 := ⟨inC (n := 2) (by decide) h, rfl⟩
theorem obC_4 {j : Nat} (h : j < 20) : eg_Ob gC ((4, j) : eg_R) 4 := ⟨inC (n := 20) (by decide) h, rfl⟩
theorem obC_5 {j : Nat} (h : j < 2) : eg_Ob gC ((5, j) : eg_R) 5 := ⟨inC (n := 2) (by decide) h, rfl⟩
theorem obC_6 {j : Nat} (h : j < 1) : eg_Ob gC ((6, j) : eg_R) 6 := ⟨inC (n := 1) (by decide) h, rfl⟩
theorem obC_7 {j : Nat} (h : j < 4) : eg_Ob gC ((7, j) : eg_R) 7 := ⟨inC (n := 4) (by decide) h, rfl⟩
theorem obC_8 {j : Nat} (h : j < 1) : eg_Ob gC ((8, j) : eg_R) 8 := ⟨inC (n := 1) (by decide) h, rfl⟩
theorem obC_9 {j : Nat} (h : j < 1) : eg_Ob gC ((9, j) : eg_R) 9 := ⟨inC (n := 1) (by decide) h, rfl⟩
theorem obC_10 {j : Nat} (h : j < 1) : eg_Ob gC ((10, j) : eg_R) 10 := ⟨inC (n := 1) (by decide) h, rfl⟩
theorem arC_20 {j : Nat} {i : Int32} (h : j < 30) (g : vp_in i 5) : eg_Ar gC ((20, j) : eg_R) 0 i := ⟨inC (n := 30) (by decide) h, rfl, g⟩
theorem anC_20 {j : Nat} (h : j < 30) : ((20, j) : eg_R) ∈ gC.1 ∧ gC.2.1 ((20, j) : eg_R) = (1, 5) := ⟨inC (n := 30) (by decide) h, rfl⟩
theorem arC_22 {j : Nat} {i : Int32} (h : j < 60) (g : vp_in i 5) : eg_Ar gC ((22, j) : eg_R) 0 i := ⟨inC (n := 60) (by decide) h, rfl, g⟩
theorem anC_22 {j : Nat} (h : j < 60) : ((22, j) : eg_R) ∈ gC.1 ∧ gC.2.1 ((22, j) : eg_R) = (1, 5) := ⟨inC (n := 60) (by decide) h, rfl⟩
theorem arC_23 {j : Nat} {i : Int32} (h : j < 2) (g : vp_in i 64) : eg_Ar gC ((23, j) : eg_R) 0 i := ⟨inC (n := 2) (by decide) h, rfl, g⟩
theorem anC_23 {j : Nat} (h : j < 2) : ((23, j) : eg_R) ∈ gC.1 ∧ gC.2.1 ((23, j) : eg_R) = (1, 64) := ⟨inC (n := 2) (by decide) h, rfl⟩
theorem arC_24 {j : Nat} {i : Int32} (h : j < 2) (g : vp_in i 7) : eg_Ar gC ((24, j) : eg_R) 0 i := ⟨inC (n := 2) (by decide) h, rfl, g⟩
theorem anC_24 {j : Nat} (h : j < 2) : ((24, j) : eg_R) ∈ gC.1 ∧ gC.2.1 ((24, j) : eg_R) = (1, 7) := ⟨inC (n := 2) (by decide) h, rfl⟩
theorem arC_25 {j : Nat} {i : Int32} (h : j < 2) (g : vp_in i 7) : eg_Ar gC ((25, j) : eg_R) 0 i := ⟨inC (n := 2) (by decide) h, rfl, g⟩
theorem anC_25 {j : Nat} (h : j < 2) : ((25, j) : eg_R) ∈ gC.1 ∧ gC.2.1 ((25, j) : eg_R) = (1, 7) := ⟨inC (n := 2) (by decide) h, rfl⟩
theorem arC_26 {j : Nat} {i : Int32} (h : j < 2) (g : vp_in i 8) : eg_Ar gC ((26, j) : eg_R) 3 i := ⟨inC (n := 2) (by decide) h, rfl, g⟩
theorem arC_27 {j : Nat} {i : Int32} (h : j < 2) (g : vp_in i 64) : eg_Ar gC ((27, j) : eg_R) 3 i := ⟨inC (n := 2) (by decide) h, rfl, g⟩
theorem arC_30 {j : Nat} {i : Int32} (h : j < 2) (g : vp_in i 5) : eg_Ar gC ((30, j) : eg_R) 4 i := ⟨inC (n := 2) (by decide) h, rfl, g⟩
theorem arC_31 {j : Nat} {i : Int32} (h : j < 2) (g : vp_in i 15) : eg_Ar gC ((31, j) : eg_R) 5 i := ⟨inC (n := 2) (by decide) h, rfl, g⟩
theorem arC_32 {j : Nat} {i : Int32} (h : j < 2) (g : vp_in i 4) : eg_Ar gC ((32, j) : eg_R) 0 i := ⟨inC (n := 2) (by decide) h, rfl, g⟩
theorem anC_32 {j : Nat} (h : j < 2) : ((32, j) : eg_R) ∈ gC.1 ∧ gC.2.1 ((32, j) : eg_R) = (1, 4) := ⟨inC (n := 2) (by decide) h, rfl⟩
theorem arC_33 {j : Nat} {i : Int32} (h : j < 2) (g : vp_in i 4) : eg_Ar gC ((33, j) : eg_R) 0 i := ⟨inC (n := 2) (by decide) h, rfl, g⟩
theorem anC_33 {j : Nat} (h : j < 2) : ((33, j) : eg_R) ∈ gC.1 ∧ gC.2.1 ((33, j) : eg_R) = (1, 4) := ⟨inC (n := 2) (by decide) h, rfl⟩
theorem arC_34 {j : Nat} {i : Int32} (h : j < 2) (g : vp_in i 4) : eg_Ar gC ((34, j) : eg_R) 0 i := ⟨inC (n := 2) (by decide) h, rfl, g⟩
theorem anC_34 {j : Nat} (h : j < 2) : ((34, j) : eg_R) ∈ gC.1 ∧ gC.2.1 ((34, j) : eg_R) = (1, 4) := ⟨inC (n := 2) (by decide) h, rfl⟩
theorem arC_35 {j : Nat} {i : Int32} (h : j < 2) (g : vp_in i 3) : eg_Ar gC ((35, j) : eg_R) 0 i := ⟨inC (n := 2) (by decide) h, rfl, g⟩
theorem anC_35 {j : Nat} (h : j < 2) : ((35, j) : eg_R) ∈ gC.1 ∧ gC.2.1 ((35, j) : eg_R) = (1, 3) := ⟨inC (n := 2) (by decide) h, rfl⟩
theorem arC_36 {j : Nat} {i : Int32} (h : j < 1) (g : vp_in i 72) : eg_Ar gC ((36, j) : eg_R) 0 i := ⟨inC (n := 1) (by decide) h, rfl, g⟩
theorem anC_36 {j : Nat} (h : j < 1) : ((36, j) : eg_R) ∈ gC.1 ∧ gC.2.1 ((36, j) : eg_R) = (1, 72) := ⟨inC (n := 1) (by decide) h, rfl⟩
theorem arC_40 {j : Nat} {i : Int32} (h : j < 4) (g : vp_in i 5) : eg_Ar gC ((40, j) : eg_R) 0 i := ⟨inC (n := 4) (by decide) h, rfl, g⟩
theorem anC_40 {j : Nat} (h : j < 4) : ((40, j) : eg_R) ∈ gC.1 ∧ gC.2.1 ((40, j) : eg_R) = (1, 5) := ⟨inC (n := 4) (by decide) h, rfl⟩
theorem arC_41 {j : Nat} {i : Int32} (h : j < 4) (g : vp_in i 5) : eg_Ar gC ((41, j) : eg_R) 6 i := ⟨inC (n := 4) (by decide) h, rfl, g⟩
theorem arC_42 {j : Nat} {i : Int32} (h : j < 4) (g : vp_in i 15) : eg_Ar gC ((42, j) : eg_R) 7 i := ⟨inC (n := 4) (by decide) h, rfl, g⟩
theorem arC_43 {j : Nat} {i : Int32} (h : j < 4) (g : vp_in i 15) : eg_Ar gC ((43, j) : eg_R) 0 i := ⟨inC (n := 4) (by decide) h, rfl, g⟩
theorem anC_43 {j : Nat} (h : j < 4) : ((43, j) : eg_R) ∈ gC.1 ∧ gC.2.1 ((43, j) : eg_R) = (1, 15) := ⟨inC (n := 4) (by decide) h, rfl⟩
theorem arC_44 {j : Nat} {i : Int32} (h : j < 1) (g : vp_in i 40) : eg_Ar gC ((44, j) : eg_R) 0 i := ⟨inC (n := 1) (by decide) h, rfl, g⟩
theorem anC_44 {j : Nat} (h : j < 1) : ((44, j) : eg_R) ∈ gC.1 ∧ gC.2.1 ((44, j) : eg_R) = (1, 40) := ⟨inC (n := 1) (by decide) h, rfl⟩
theorem arC_45 {j : Nat} {i : Int32} (h : j < 1) (g : vp_in i 40) : eg_Ar gC ((45, j) : eg_R) 0 i := ⟨inC (n := 1) (by decide) h, rfl, g⟩
theorem anC_45 {j : Nat} (h : j < 1) : ((45, j) : eg_R) ∈ gC.1 ∧ gC.2.1 ((45, j) : eg_R) = (1, 40) := ⟨inC (n := 1) (by decide) h, rfl⟩
theorem arC_46 {j : Nat} {i : Int32} (h : j < 1) (g : vp_in i 40) : eg_Ar gC ((46, j) : eg_R) 0 i := ⟨inC (n := 1) (by decide) h, rfl, g⟩
theorem anC_46 {j : Nat} (h : j < 1) : ((46, j) : eg_R) ∈ gC.1 ∧ gC.2.1 ((46, j) : eg_R) = (1, 40) := ⟨inC (n := 1) (by decide) h, rfl⟩
theorem arC_47 {j : Nat} {i : Int32} (h : j < 1) (g : vp_in i 40) : eg_Ar gC ((47, j) : eg_R) 0 i := ⟨inC (n := 1) (by decide) h, rfl, g⟩
theorem anC_47 {j : Nat} (h : j < 1) : ((47, j) : eg_R) ∈ gC.1 ∧ gC.2.1 ((47, j) : eg_R) = (1, 40) := ⟨inC (n := 1) (by decide) h, rfl⟩
theorem arC_48 {j : Nat} {i : Int32} (h : j < 1) (g : vp_in i 40) : eg_Ar gC ((48, j) : eg_R) 2 i := ⟨inC (n := 1) (by decide) h, rfl, g⟩
theorem arC_50 {j : Nat} {i : Int32} (h : j < 1) (g : vp_in i 800) : eg_Ar gC ((50, j) : eg_R) 1 i := ⟨inC (n := 1) (by decide) h, rfl, g⟩
theorem anC_50 {j : Nat} (h : j < 1) : ((50, j) : eg_R) ∈ gC.1 ∧ gC.2.1 ((50, j) : eg_R) = (2, 800) := ⟨inC (n := 1) (by decide) h, rfl⟩
theorem arC_51 {j : Nat} {i : Int32} (h : j < 1) (g : vp_in i 60) : eg_Ar gC ((51, j) : eg_R) 0 i := ⟨inC (n := 1) (by decide) h, rfl, g⟩
theorem anC_51 {j : Nat} (h : j < 1) : ((51, j) : eg_R) ∈ gC.1 ∧ gC.2.1 ((51, j) : eg_R) = (1, 60) := ⟨inC (n := 1) (by decide) h, rfl⟩
theorem arC_52 {j : Nat} {i : Int32} (h : j < 1) (g : vp_in i 5) : eg_Ar gC ((52, j) : eg_R) 0 i := ⟨inC (n := 1) (by decide) h, rfl, g⟩
theorem anC_52 {j : Nat} (h : j < 1) : ((52, j) : eg_R) ∈ gC.1 ∧ gC.2.1 ((52, j) : eg_R) = (1, 5) := ⟨inC (n := 1) (by decide) h, rfl⟩
theorem arC_53 {j : Nat} {i : Int32} (h : j < 1) (g : vp_in i 5) : eg_Ar gC ((53, j) : eg_R) 0 i := ⟨inC (n := 1) (by decide) h, rfl, g⟩
theorem anC_53 {j : Nat} (h : j < 1) : ((53, j) : eg_R) ∈ gC.1 ∧ gC.2.1 ((53, j) : eg_R) = (1, 5) := ⟨inC (n := 1) (by decide) h, rfl⟩
theorem ndC : rfC.Nodup := by decide +kernel
def knM : List (Nat × Nat) := [(60, 1), (61, 1), (64, 1), (88, 1), (89, 1), (90, 1), (91, 1), (92, 1), (93, 1), (94, 1), (95, 1), (96, 1), (97, 1), (98, 1), (99, 1), (100, 1), (101, 1), (102, 1), (103, 1), (110, 1), (111, 1), (112, 1), (125, 1), (126, 1), (127, 1), (128, 1), (131, 1), (132, 1), (133, 1), (136, 1), (137, 1), (138, 1), (139, 1), (140, 1), (142, 1)]
def rfM : List eg_R := knM.flatMap (fun q => (List.range q.2).map (fun j => (q.1, j)))
def shM (r : eg_R) : Nat × Nat := match r.1 with
  | 60 => (0, 11)
  | 61 => (1, 800)
  | 64 => (1, 121)
  | 88 => (1, 10)
  | 89 => (1, 60)
  | 90 => (1, 18)
  | 91 => (1, 24)
  | 92 => (1, 24)
  | 93 => (1, 120)
  | 94 => (1, 8)
  | 95 => (1, 8)
  | 96 => (1, 14)
  | 97 => (1, 14)
  | 98 => (3, 6)
  | 99 => (1, 128)
  | 100 => (1, 128)
  | 101 => (1, 128)
  | 102 => (1, 96)
  | 103 => (1, 96)
  | 110 => (1, 366)
  | 111 => (1, 366)
  | 112 => (1, 5)
  | 125 => (1, 15)
  | 126 => (1, 5)
  | 127 => (4, 8)
  | 128 => (4, 64)
  | 131 => (1, 7320)
  | 132 => (1, 5)
  | 133 => (1, 5)
  | 136 => (1, 40)
  | 137 => (1, 40)
  | 138 => (1, 40)
  | 139 => (1, 40)
  | 140 => (3, 40)
  | 142 => (1, 366)
  | _ => (0, 99)
def ptM (r : eg_R) (j : Nat) : eg_R := match r.1 with
  | 60 => (match j with
    | 0 => (61, 0)
    | 3 => (64, 0)
    | 27 => (88, 0)
    | 28 => (89, 0)
    | 29 => (90, 0)
    | 30 => (91, 0)
    | 31 => (92, 0)
    | 32 => (93, 0)
    | 33 => (94, 0)
    | 34 => (95, 0)
    | 35 => (96, 0)
    | 36 => (97, 0)
    | 37 => (98, 0)
    | 38 => (99, 0)
    | 39 => (100, 0)
    | 40 => (101, 0)
    | 41 => (102, 0)
    | 42 => (103, 0)
    | 49 => (110, 0)
    | 50 => (111, 0)
    | 51 => (112, 0)
    | 64 => (125, 0)
    | 65 => (126, 0)
    | 66 => (127, 0)
    | 67 => (128, 0)
    | 70 => (131, 0)
    | 71 => (132, 0)
    | 72 => (133, 0)
    | 75 => (136, 0)
    | 76 => (137, 0)
    | 77 => (138, 0)
    | 78 => (139, 0)
    | 79 => (140, 0)
    | 81 => (142, 0)
    | _ => (99, 0))
  | _ => (99, 0)
def gM : eg_G := (rfM, shM, ptM)
theorem inM {k j n : Nat} (h : (k, n) ∈ knM) (hj : j < n) : (k, j) ∈ gM.1 := by
  show (k, j) ∈ rfM
  unfold rfM
  exact List.mem_flatMap.mpr ⟨(k, n), h, List.mem_map.mpr ⟨j, List.mem_range.mpr hj, rfl⟩⟩
theorem obM_60 {j : Nat} (h : j < 1) : eg_Ob gM ((60, j) : eg_R) 11 := ⟨inM (n := 1) (by decide) h, rfl⟩
theorem arM_61 {j : Nat} {i : Int32} (h : j < 1) (g : vp_in i 800) : eg_Ar gM ((61, j) : eg_R) 0 i := ⟨inM (n := 1) (by decide) h, rfl, g⟩
theorem anM_61 {j : Nat} (h : j < 1) : ((61, j) : eg_R) ∈ gM.1 ∧ gM.2.1 ((61, j) : eg_R) = (1, 800) := ⟨inM (n := 1) (by decide) h, rfl⟩
theorem arM_64 {j : Nat} {i : Int32} (h : j < 1) (g : vp_in i 121) : eg_Ar gM ((64, j) : eg_R) 0 i := ⟨inM (n := 1) (by decide) h, rfl, g⟩
theorem anM_64 {j : Nat} (h : j < 1) : ((64, j) : eg_R) ∈ gM.1 ∧ gM.2.1 ((64, j) : eg_R) = (1, 121) := ⟨inM (n := 1) (by decide) h, rfl⟩
theorem arM_88 {j : Nat} {i : Int32} (h : j < 1) (g : vp_in i 10) : eg_Ar gM ((88, j) : eg_R) 0 i := ⟨inM (n := 1) (by decide) h, rfl, g⟩
theorem anM_88 {j : Nat} (h : j < 1) : ((88, j) : eg_R) ∈ gM.1 ∧ gM.2.1 ((88, j) : eg_R) = (1, 10) := ⟨inM (n := 1) (by decide) h, rfl⟩
theorem arM_89 {j : Nat} {i : Int32} (h : j < 1) (g : vp_in i 60) : eg_Ar gM ((89, j) : eg_R) 0 i := ⟨inM (n := 1) (by decide) h, rfl, g⟩
theorem anM_89 {j : Nat} (h : j < 1) : ((89, j) : eg_R) ∈ gM.1 ∧ gM.2.1 ((89, j) : eg_R) = (1, 60) := ⟨inM (n := 1) (by decide) h, rfl⟩
theorem arM_90 {j : Nat} {i : Int32} (h : j < 1) (g : vp_in i 18) : eg_Ar gM ((90, j) : eg_R) 0 i := ⟨inM (n := 1) (by decide) h, rfl, g⟩
theorem anM_90 {j : Nat} (h : j < 1) : ((90, j) : eg_R) ∈ gM.1 ∧ gM.2.1 ((90, j) : eg_R) = (1, 18) := ⟨inM (n := 1) (by decide) h, rfl⟩
theorem arM_91 {j : Nat} {i : Int32} (h : j < 1) (g : vp_in i 24) : eg_Ar gM ((91, j) : eg_R) 0 i := ⟨inM (n := 1) (by decide) h, rfl, g⟩
theorem anM_91 {j : Nat} (h : j < 1) : ((91, j) : eg_R) ∈ gM.1 ∧ gM.2.1 ((91, j) : eg_R) = (1, 24) := ⟨inM (n := 1) (by decide) h, rfl⟩
theorem arM_92 {j : Nat} {i : Int32} (h : j < 1) (g : vp_in i 24) : eg_Ar gM ((92, j) : eg_R) 0 i := ⟨inM (n := 1) (by decide) h, rfl, g⟩
theorem anM_92 {j : Nat} (h : j < 1) : ((92, j) : eg_R) ∈ gM.1 ∧ gM.2.1 ((92, j) : eg_R) = (1, 24) := ⟨inM (n := 1) (by decide) h, rfl⟩
theorem arM_93 {j : Nat} {i : Int32} (h : j < 1) (g : vp_in i 120) : eg_Ar gM ((93, j) : eg_R) 0 i := ⟨inM (n := 1) (by decide) h, rfl, g⟩
theorem anM_93 {j : Nat} (h : j < 1) : ((93, j) : eg_R) ∈ gM.1 ∧ gM.2.1 ((93, j) : eg_R) = (1, 120) := ⟨inM (n := 1) (by decide) h, rfl⟩
theorem arM_94 {j : Nat} {i : Int32} (h : j < 1) (g : vp_in i 8) : eg_Ar gM ((94, j) : eg_R) 0 i := ⟨inM (n := 1) (by decide) h, rfl, g⟩
theorem anM_94 {j : Nat} (h : j < 1) : ((94, j) : eg_R) ∈ gM.1 ∧ gM.2.1 ((94, j) : eg_R) = (1, 8) := ⟨inM (n := 1) (by decide) h, rfl⟩
theorem arM_95 {j : Nat} {i : Int32} (h : j < 1) (g : vp_in i 8) : eg_Ar gM ((95, j) : eg_R) 0 i := ⟨inM (n := 1) (by decide) h, rfl, g⟩
theorem anM_95 {j : Nat} (h : j < 1) : ((95, j) : eg_R) ∈ gM.1 ∧ gM.2.1 ((95, j) : eg_R) = (1, 8) := ⟨inM (n := 1) (by decide) h, rfl⟩
theorem arM_96 {j : Nat} {i : Int32} (h : j < 1) (g : vp_in i 14) : eg_Ar gM ((96, j) : eg_R) 0 i := ⟨inM (n := 1) (by decide) h, rfl, g⟩
theorem anM_96 {j : Nat} (h : j < 1) : ((96, j) : eg_R) ∈ gM.1 ∧ gM.2.1 ((96, j) : eg_R) = (1, 14) := ⟨inM (n := 1) (by decide) h, rfl⟩
theorem arM_97 {j : Nat} {i : Int32} (h : j < 1) (g : vp_in i 14) : eg_Ar gM ((97, j) : eg_R) 0 i := ⟨inM (n := 1) (by decide) h, rfl, g⟩
theorem anM_97 {j : Nat} (h : j < 1) : ((97, j) : eg_R) ∈ gM.1 ∧ gM.2.1 ((97, j) : eg_R) = (1, 14) := ⟨inM (n := 1) (by decide) h, rfl⟩
theorem arM_98 {j : Nat} {i : Int32} (h : j < 1) (g : vp_in i 6) : eg_Ar gM ((98, j) : eg_R) 2 i := ⟨inM (n := 1) (by decide) h, rfl, g⟩
theorem arM_99 {j : Nat} {i : Int32} (h : j < 1) (g : vp_in i 128) : eg_Ar gM ((99, j) : eg_R) 0 i := ⟨inM (n := 1) (by decide) h, rfl, g⟩
theorem anM_99 {j : Nat} (h : j < 1) : ((99, j) : eg_R) ∈ gM.1 ∧ gM.2.1 ((99, j) : eg_R) = (1, 128) := ⟨inM (n := 1) (by decide) h, rfl⟩
theorem arM_100 {j : Nat} {i : Int32} (h : j < 1) (g : vp_in i 128) : eg_Ar gM ((100, j) : eg_R) 0 i := ⟨inM (n := 1) (by decide) h, rfl, g⟩
theorem anM_100 {j : Nat} (h : j < 1) : ((100, j) : eg_R) ∈ gM.1 ∧ gM.2.1 ((100, j) : eg_R) = (1, 128) := ⟨inM (n := 1) (by decide) h, rfl⟩
theorem arM_101 {j : Nat} {i : Int32} (h : j < 1) (g : vp_in i 128) : eg_Ar gM ((101, j) : eg_R) 0 i := ⟨inM (n := 1) (by decide) h, rfl, g⟩
theorem anM_101 {j : Nat} (h : j < 1) : ((101, j) : eg_R) ∈ gM.1 ∧ gM.2.1 ((101, j) : eg_R) = (1, 128) := ⟨inM (n := 1) (by decide) h, rfl⟩
theorem arM_102 {j : Nat} {i : Int32} (h : j < 1) (g : vp_in i 96) : eg_Ar gM ((102, j) : eg_R) 0 i := ⟨inM (n := 1) (by decide) h, rfl, g⟩
theorem anM_102 {j : Nat} (h : j < 1) : ((102, j) : eg_R) ∈ gM.1 ∧ gM.2.1 ((102, j) : eg_R) = (1, 96) := ⟨inM (n := 1) (by decide) h, rfl⟩
theorem arM_103 {j : Nat} {i : Int32} (h : j < 1) (g : vp_in i 96) : eg_Ar gM ((103, j) : eg_R) 0 i := ⟨inM (n := 1) (by decide) h, rfl, g⟩
theorem anM_103 {j : Nat} (h : j < 1) : ((103, j) : eg_R) ∈ gM.1 ∧ gM.2.1 ((103, j) : eg_R) = (1, 96) := ⟨inM (n := 1) (by decide) h, rfl⟩
theorem arM_110 {j : Nat} {i : Int32} (h : j < 1) (g : vp_in i 366) : eg_Ar gM ((110, j) : eg_R) 0 i := ⟨inM (n := 1) (by decide) h, rfl, g⟩
theorem anM_110 {j : Nat} (h : j < 1) : ((110, j) : eg_R) ∈ gM.1 ∧ gM.2.1 ((110, j) : eg_R) = (1, 366) := ⟨inM (n := 1) (by decide) h, rfl⟩
theorem arM_111 {j : Nat} {i : Int32} (h : j < 1) (g : vp_in i 366) : eg_Ar gM ((111, j) : eg_R) 0 i := ⟨inM (n := 1) (by decide) h, rfl, g⟩
theorem anM_111 {j : Nat} (h : j < 1) : ((111, j) : eg_R) ∈ gM.1 ∧ gM.2.1 ((111, j) : eg_R) = (1, 366) := ⟨inM (n := 1) (by decide) h, rfl⟩
theorem arM_112 {j : Nat} {i : Int32} (h : j < 1) (g : vp_in i 5) : eg_Ar gM ((112, j) : eg_R) 0 i := ⟨inM (n := 1) (by decide) h, rfl, g⟩
theorem anM_112 {j : Nat} (h : j < 1) : ((112, j) : eg_R) ∈ gM.1 ∧ gM.2.1 ((112, j) : eg_R) = (1, 5) := ⟨inM (n := 1) (by decide) h, rfl⟩
theorem arM_125 {j : Nat} {i : Int32} (h : j < 1) (g : vp_in i 15) : eg_Ar gM ((125, j) : eg_R) 0 i := ⟨inM (n := 1) (by decide) h, rfl, g⟩
theorem anM_125 {j : Nat} (h : j < 1) : ((125, j) : eg_R) ∈ gM.1 ∧ gM.2.1 ((125, j) : eg_R) = (1, 15) := ⟨inM (n := 1) (by decide) h, rfl⟩
theorem arM_126 {j : Nat} {i : Int32} (h : j < 1) (g : vp_in i 5) : eg_Ar gM ((126, j) : eg_R) 0 i := ⟨inM (n := 1) (by decide) h, rfl, g⟩
theorem anM_126 {j : Nat} (h : j < 1) : ((126, j) : eg_R) ∈ gM.1 ∧ gM.2.1 ((126, j) : eg_R) = (1, 5) := ⟨inM (n := 1) (by decide) h, rfl⟩
theorem arM_127 {j : Nat} {i : Int32} (h : j < 1) (g : vp_in i 8) : eg_Ar gM ((127, j) : eg_R) 3 i := ⟨inM (n := 1) (by decide) h, rfl, g⟩
theorem arM_128 {j : Nat} {i : Int32} (h : j < 1) (g : vp_in i 64) : eg_Ar gM ((128, j) : eg_R) 3 i := ⟨inM (n := 1) (by decide) h, rfl, g⟩
theorem arM_131 {j : Nat} {i : Int32} (h : j < 1) (g : vp_in i 7320) : eg_Ar gM ((131, j) : eg_R) 0 i := ⟨inM (n := 1) (by decide) h, rfl, g⟩
theorem anM_131 {j : Nat} (h : j < 1) : ((131, j) : eg_R) ∈ gM.1 ∧ gM.2.1 ((131, j) : eg_R) = (1, 7320) := ⟨inM (n := 1) (by decide) h, rfl⟩
theorem arM_132 {j : Nat} {i : Int32} (h : j < 1) (g : vp_in i 5) : eg_Ar gM ((132, j) : eg_R) 0 i := ⟨inM (n := 1) (by decide) h, rfl, g⟩
theorem anM_132 {j : Nat} (h : j < 1) : ((132, j) : eg_R) ∈ gM.1 ∧ gM.2.1 ((132, j) : eg_R) = (1, 5) := ⟨inM (n := 1) (by decide) h, rfl⟩
theorem arM_133 {j : Nat} {i : Int32} (h : j < 1) (g : vp_in i 5) : eg_Ar gM ((133, j) : eg_R) 0 i := ⟨inM (n := 1) (by decide) h, rfl, g⟩
theorem anM_133 {j : Nat} (h : j < 1) : ((133, j) : eg_R) ∈ gM.1 ∧ gM.2.1 ((133, j) : eg_R) = (1, 5) := ⟨inM (n := 1) (by decide) h, rfl⟩
theorem arM_136 {j : Nat} {i : Int32} (h : j < 1) (g : vp_in i 40) : eg_Ar gM ((136, j) : eg_R) 0 i := ⟨inM (n := 1) (by decide) h, rfl, g⟩
theorem anM_136 {j : Nat} (h : j < 1) : ((136, j) : eg_R) ∈ gM.1 ∧ gM.2.1 ((136, j) : eg_R) = (1, 40) := ⟨inM (n := 1) (by decide) h, rfl⟩
theorem arM_137 {j : Nat} {i : Int32} (h : j < 1) (g : vp_in i 40) : eg_Ar gM ((137, j) : eg_R) 0 i := ⟨inM (n := 1) (by decide) h, rfl, g⟩
theorem anM_137 {j : Nat} (h : j < 1) : ((137, j) : eg_R) ∈ gM.1 ∧ gM.2.1 ((137, j) : eg_R) = (1, 40) := ⟨inM (n := 1) (by decide) h, rfl⟩
theorem arM_138 {j : Nat} {i : Int32} (h : j < 1) (g : vp_in i 40) : eg_Ar gM ((138, j) : eg_R) 0 i := ⟨inM (n := 1) (by decide) h, rfl, g⟩
theorem anM_138 {j : Nat} (h : j < 1) : ((138, j) : eg_R) ∈ gM.1 ∧ gM.2.1 ((138, j) : eg_R) = (1, 40) := ⟨inM (n := 1) (by decide) h, rfl⟩
theorem arM_139 {j : Nat} {i : Int32} (h : j < 1) (g : vp_in i 40) : eg_Ar gM ((139, j) : eg_R) 0 i := ⟨inM (n := 1) (by decide) h, rfl, g⟩
theorem anM_139 {j : Nat} (h : j < 1) : ((139, j) : eg_R) ∈ gM.1 ∧ gM.2.1 ((139, j) : eg_R) = (1, 40) := ⟨inM (n := 1) (by decide) h, rfl⟩
theorem arM_140 {j : Nat} {i : Int32} (h : j < 1) (g : vp_in i 40) : eg_Ar gM ((140, j) : eg_R) 2 i := ⟨inM (n := 1) (by decide) h, rfl, g⟩
theorem arM_142 {j : Nat} {i : Int32} (h : j < 1) (g : vp_in i 366) : eg_Ar gM ((142, j) : eg_R) 0 i := ⟨inM (n := 1) (by decide) h, rfl, g⟩
theorem anM_142 {j : Nat} (h : j < 1) : ((142, j) : eg_R) ∈ gM.1 ∧ gM.2.1 ((142, j) : eg_R) = (1, 366) := ⟨inM (n := 1) (by decide) h, rfl⟩
theorem ndM : rfM.Nodup := by decide +kernel
theorem z1 : 0 < 1 := by decide
theorem vp_lt {x : Int32} {n : Nat} (g : vp_in x n) : x.toNatClampNeg < n := Nat.not_le.mp fun q => g (Or.inr q)
theorem ixT15 {t : Nat} {x : Int32} (h : t < 4) (g : vp_in x 15) : 15 * t + x.toNatClampNeg < 60 := by have := vp_lt g; omega
theorem ixP15 {t : Nat} {x : Int32} (h : t < 2) (g : vp_in x 15) : 15 * t + x.toNatClampNeg < 30 := by have := vp_lt g; omega
theorem ixT5 {t : Nat} {x : Int32} (h : t < 4) (g : vp_in x 5) : 5 * t + x.toNatClampNeg < 20 := by have := vp_lt g; omega
theorem ixP5 {t : Nat} {x : Int32} (h : t < 2) (g : vp_in x 5) : 5 * t + x.toNatClampNeg < 10 := by have := vp_lt g; omega
theorem eg_arA {G : eg_G} {r : eg_R} {n : Nat} {i : Int32} (h : r ∈ G.1 ∧ G.2.1 r = (1, n)) (g : vp_in i n) : eg_Ar G r 0 i := ⟨h.1, by rw [h.2], by rw [h.2]; exact g⟩
theorem eg_ti {x v : Int32} (n : Int) (hv : v.toInt = n) (c : ¬ x = v) : x.toInt ≠ n := fun e => c (Int32.toInt_inj.mp (e.trans hv.symm))
theorem eg_zi {c : Prop} [Decidable c] {a b : Int32} (ha : a = 0 ∨ a = 1) (hb : b = 0 ∨ b = 1) : (if c then a else b) = 0 ∨ (if c then a else b) = 1 := by
  by_cases h : c
  · rw [if_pos h]; exact ha
  · rw [if_neg h]; exact hb
theorem eg_dd {d : Nat} (h : 1 ≤ d) : d - 1 + 1 ≤ d := by omega
section EGN
variable {κ : eg_K} {G : eg_G} {mt : eg_M} {d : Nat} {Qc : Array Value → State → Outcome → State → Prop} {pc : Nat} {ls : List (Nat × eg_V)} {st : List eg_V} {M : eg_H}
theorem en_putI {idx ci k : Nat} {r : eg_R} {x : Int32} (hd : decode mt.2.1 pc = .ok (.putfield idx, 3)) (hf : eg_FL mt.1.cls idx ci k) (hfin : ((eg_tb ci).2 k).2.2.2 = false) (h0 : eg_ty ci k = .int) (hr : eg_Ob G r ci) (kk : ∀ M1 : eg_H, M1 = sI M r k x → eg_W κ G mt d Qc (pc + 3) ls st M1) : eg_W κ G mt d Qc pc ls (vI x :: vR r :: st) M := eg_putI hd hf hfin h0 trivial hr (kk _ rfl)
theorem en_putZ {idx ci k : Nat} {r : eg_R} {x : Int32} (hd : decode mt.2.1 pc = .ok (.putfield idx, 3)) (hf : eg_FL mt.1.cls idx ci k) (hfin : ((eg_tb ci).2 k).2.2.2 = false) (h0 : eg_ty ci k = .boolean) (hy : x = 0 ∨ x = 1) (hr : eg_Ob G r ci) (kk : ∀ M1 : eg_H, M1 = sI M r k x → eg_W κ G mt d Qc (pc + 3) ls st M1) : eg_W κ G mt d Qc pc ls (vI x :: vR r :: st) M := eg_putZ hd hf hfin h0 hy hr (kk _ rfl)
theorem en_putD {idx ci k : Nat} {r x : eg_R} {Cn : String} (hd : decode mt.2.1 pc = .ok (.putfield idx, 3)) (hf : eg_FL mt.1.cls idx ci k) (hfin : ((eg_tb ci).2 k).2.2.2 = false) (h0 : eg_ty ci k = .object Cn) (hy : eg_dyn ci k = true) (hr : eg_Ob G r ci) (kk : ∀ M1 : eg_H, M1 = sR M r k x → eg_W κ G mt d Qc (pc + 3) ls st M1) (h6 : ci ≠ 6 ∨ x ≠ eg_nul := by first | exact Or.inl (by decide) | exact Or.inr (eg_n5 _)) : eg_W κ G mt d Qc pc ls (vR x :: vR r :: st) M := eg_putD hd hf hfin h0 hy hr (kk _ rfl) h6
theorem en_iastore {r : eg_R} {i : Int32} {x : Int32} (hd : decode mt.2.1 pc = .ok (.iastore, 1)) (hr : eg_Ar G r 0 i) (kk : ∀ M1 : eg_H, M1 = sI M r i.toNatClampNeg x → eg_W κ G mt d Qc (pc + 1) ls st M1) : eg_W κ G mt d Qc pc ls (vI x :: vI i :: vR r :: st) M := eg_iastore hd hr (kk _ rfl)
theorem en_bastore {r : eg_R} {i : Int32} {x : Int32} (hd : decode mt.2.1 pc = .ok (.bastore, 1)) (hr : eg_Ar G r 1 i) (kk : ∀ M1 : eg_H, M1 = sI M r i.toNatClampNeg (vp_nar .byte x) → eg_W κ G mt d Qc (pc + 1) ls st M1) : eg_W κ G mt d Qc pc ls (vI x :: vI i :: vR r :: st) M := eg_bastore hd hr (kk _ rfl)
theorem en_zastore {r : eg_R} {i : Int32} {x : Int32} (hd : decode mt.2.1 pc = .ok (.bastore, 1)) (hr : eg_Ar G r 2 i) (kk : ∀ M1 : eg_H, M1 = sI M r i.toNatClampNeg (vp_nar .boolean x) → eg_W κ G mt d Qc (pc + 1) ls st M1) : eg_W κ G mt d Qc pc ls (vI x :: vI i :: vR r :: st) M := eg_zastore hd hr (kk _ rfl)
theorem en_lastore {r : eg_R} {i : Int32} {x : Int64} (hd : decode mt.2.1 pc = .ok (.lastore, 1)) (hr : eg_Ar G r 3 i) (kk : ∀ M1 : eg_H, M1 = sL M r i.toNatClampNeg x → eg_W κ G mt d Qc (pc + 1) ls st M1) : eg_W κ G mt d Qc pc ls (vL x :: vI i :: vR r :: st) M := eg_lastore hd hr (kk _ rfl)
theorem en_copy {a b : eg_R} {idx n0 n1 : Nat} {sp dp k : Int32} (hd : decode mt.2.1 pc = .ok (.invokestatic idx, 3)) (hm : eg_CL mt.1.cls idx) (ha : a ∈ G.1 ∧ G.2.1 a = (1, n0)) (hb : b ∈ G.1 ∧ G.2.1 b = (1, n1)) (hg : ¬ sp < 0 ∧ ¬ dp < 0 ∧ ¬ k < 0 ∧ sp.toNatClampNeg + k.toNatClampNeg ≤ n0 ∧ dp.toNatClampNeg + k.toNatClampNeg ≤ n1) (hst : (st.map eg_cat).sum ≤ 8) (hdd : 1 ≤ d) (kk : ∀ M1 : eg_H, M1 = sC M a b sp.toNatClampNeg dp.toNatClampNeg k.toNatClampNeg → eg_W κ G mt d Qc (pc + 3) ls st M1) : eg_W κ G mt d Qc pc ls (vI k :: vI dp :: vR b :: vI sp :: vR a :: st) M := eg_copy hd hm ha hb hg.1 hg.2.1 hg.2.2.1 hg.2.2.2.1 hg.2.2.2.2 hst hdd (kk _ rfl)
theorem en_istore {i : Nat} {x : Int32} {f : Int32 → List (Nat × eg_V)} (hd : decode mt.2.1 pc = .ok (.istore i, 2)) (hn : i < mt.2.2.1) (h1 : (i, vI x) :: ls.filter (fun q => !(q.1 == i) && !(q.1 + 1 == i && eg_cat q.2 == 2)) = f x) (kk : ∀ z : Int32, z = x → eg_W κ G mt d Qc (pc + 2) (f z) st M) : eg_W κ G mt d Qc pc ls (vI x :: st) M := eg_istore hd hn h1 (kk _ rfl)
theorem en_istore_n {i : Nat} {n : Fin 4} {x : Int32} {f : Int32 → List (Nat × eg_V)} (hd : decode mt.2.1 pc = .ok (.istore_n n, 1)) (hi : (n : Nat) = i) (hn : i < mt.2.2.1) (h1 : (i, vI x) :: ls.filter (fun q => !(q.1 == i) && !(q.1 + 1 == i && eg_cat q.2 == 2)) = f x) (kk : ∀ z : Int32, z = x → eg_W κ G mt d Qc (pc + 1) (f z) st M) : eg_W κ G mt d Qc pc ls (vI x :: st) M := eg_istore_n hd hi hn h1 (kk _ rfl)
theorem en_lstore {i : Nat} {x : Int64} {f : Int64 → List (Nat × eg_V)} (hd : decode mt.2.1 pc = .ok (.lstore i, 2)) (hn : i + 1 < mt.2.2.1) (h1 : (i, vL x) :: ls.filter (fun q => !(q.1 == i) && (!(q.1 == i + 1) && !(q.1 + 1 == i && eg_cat q.2 == 2))) = f x) (kk : ∀ z : Int64, z = x → eg_W κ G mt d Qc (pc + 2) (f z) st M) : eg_W κ G mt d Qc pc ls (vL x :: st) M := eg_lstore hd hn h1 (kk _ rfl)
theorem en_lstore_n {i : Nat} {n : Fin 4} {x : Int64} {f : Int64 → List (Nat × eg_V)} (hd : decode mt.2.1 pc = .ok (.lstore_n n, 1)) (hi : (n : Nat) = i) (hn : i + 1 < mt.2.2.1) (h1 : (i, vL x) :: ls.filter (fun q => !(q.1 == i) && (!(q.1 == i + 1) && !(q.1 + 1 == i && eg_cat q.2 == 2))) = f x) (kk : ∀ z : Int64, z = x → eg_W κ G mt d Qc (pc + 1) (f z) st M) : eg_W κ G mt d Qc pc ls (vL x :: st) M := eg_lstore_n hd hi hn h1 (kk _ rfl)
theorem en_iinc {i : Nat} {n : Int} {x v : Int32} {f : Int32 → List (Nat × eg_V)} (j : Nat) (hd : decode mt.2.1 pc = .ok (.iinc i n, 3)) (hj : ls[j]? = some (i, vI x)) (hv : x + Int32.ofInt n = v) (hn : i < mt.2.2.1) (h1 : (i, vI v) :: ls.filter (fun q => !(q.1 == i) && !(q.1 + 1 == i && eg_cat q.2 == 2)) = f v) (kk : ∀ z : Int32, z = v → eg_W κ G mt d Qc (pc + 3) (f z) st M) : eg_W κ G mt d Qc pc ls st M := eg_iinc j hd hj hv hn h1 (kk _ rfl)
end EGN
/-! what a call asks: a contract of the callee, and what follows from it -/
def eCI (κ : eg_K) (G : eg_G) (mt : eg_M) (d : Nat) (av : List eg_V) (M : eg_H) (K : Int32 → eg_H → Prop) : Prop := ∃ post : Int32 → eg_H → Prop, eg_S κ G mt (d - 1) av M (eQI κ G post) ∧ ∀ x M1, post x M1 → K x M1
def eCL (κ : eg_K) (G : eg_G) (mt : eg_M) (d : Nat) (av : List eg_V) (M : eg_H) (K : Int64 → eg_H → Prop) : Prop := ∃ post : Int64 → eg_H → Prop, eg_S κ G mt (d - 1) av M (eQL κ G post) ∧ ∀ x M1, post x M1 → K x M1
def eCV (κ : eg_K) (G : eg_G) (mt : eg_M) (d : Nat) (av : List eg_V) (M : eg_H) (K : eg_H → Prop) : Prop := ∃ post : eg_H → Prop, eg_S κ G mt (d - 1) av M (eQV κ G post) ∧ ∀ M1, post M1 → K M1
theorem ic_m1 : Int32.ofInt (-1) = (-1 : Int32) := by decide
theorem ic_0 : Int32.ofInt (0) = (0 : Int32) := by decide
theorem ic_1 : Int32.ofInt (1) = (1 : Int32) := by decide
theorem ic_2 : Int32.ofInt (2) = (2 : Int32) := by decide
theorem ic_3 : Int32.ofInt (3) = (3 : Int32) := by decide
theorem ic_4 : Int32.ofInt (4) = (4 : Int32) := by decide
theorem ic_5 : Int32.ofInt (5) = (5 : Int32) := by decide
theorem bp_m2 : (Int8.ofInt (-2)).toInt32 = (-2 : Int32) := by decide
theorem bp_6 : (Int8.ofInt (6)).toInt32 = (6 : Int32) := by decide
theorem bp_7 : (Int8.ofInt (7)).toInt32 = (7 : Int32) := by decide
theorem bp_8 : (Int8.ofInt (8)).toInt32 = (8 : Int32) := by decide
theorem bp_9 : (Int8.ofInt (9)).toInt32 = (9 : Int32) := by decide
theorem bp_10 : (Int8.ofInt (10)).toInt32 = (10 : Int32) := by decide
theorem bp_11 : (Int8.ofInt (11)).toInt32 = (11 : Int32) := by decide
theorem bp_12 : (Int8.ofInt (12)).toInt32 = (12 : Int32) := by decide
theorem bp_13 : (Int8.ofInt (13)).toInt32 = (13 : Int32) := by decide
theorem bp_14 : (Int8.ofInt (14)).toInt32 = (14 : Int32) := by decide
theorem bp_15 : (Int8.ofInt (15)).toInt32 = (15 : Int32) := by decide
theorem bp_16 : (Int8.ofInt (16)).toInt32 = (16 : Int32) := by decide
theorem bp_17 : (Int8.ofInt (17)).toInt32 = (17 : Int32) := by decide
theorem bp_18 : (Int8.ofInt (18)).toInt32 = (18 : Int32) := by decide
theorem bp_19 : (Int8.ofInt (19)).toInt32 = (19 : Int32) := by decide
theorem bp_20 : (Int8.ofInt (20)).toInt32 = (20 : Int32) := by decide
theorem bp_21 : (Int8.ofInt (21)).toInt32 = (21 : Int32) := by decide
theorem bp_22 : (Int8.ofInt (22)).toInt32 = (22 : Int32) := by decide
theorem bp_23 : (Int8.ofInt (23)).toInt32 = (23 : Int32) := by decide
theorem bp_24 : (Int8.ofInt (24)).toInt32 = (24 : Int32) := by decide
theorem bp_25 : (Int8.ofInt (25)).toInt32 = (25 : Int32) := by decide
theorem bp_26 : (Int8.ofInt (26)).toInt32 = (26 : Int32) := by decide
theorem bp_27 : (Int8.ofInt (27)).toInt32 = (27 : Int32) := by decide
theorem bp_28 : (Int8.ofInt (28)).toInt32 = (28 : Int32) := by decide
theorem bp_29 : (Int8.ofInt (29)).toInt32 = (29 : Int32) := by decide
theorem bp_30 : (Int8.ofInt (30)).toInt32 = (30 : Int32) := by decide
theorem bp_31 : (Int8.ofInt (31)).toInt32 = (31 : Int32) := by decide
theorem bp_32 : (Int8.ofInt (32)).toInt32 = (32 : Int32) := by decide
theorem bp_33 : (Int8.ofInt (33)).toInt32 = (33 : Int32) := by decide
theorem bp_34 : (Int8.ofInt (34)).toInt32 = (34 : Int32) := by decide
theorem bp_35 : (Int8.ofInt (35)).toInt32 = (35 : Int32) := by decide
theorem bp_36 : (Int8.ofInt (36)).toInt32 = (36 : Int32) := by decide
theorem bp_37 : (Int8.ofInt (37)).toInt32 = (37 : Int32) := by decide
theorem bp_38 : (Int8.ofInt (38)).toInt32 = (38 : Int32) := by decide
theorem bp_39 : (Int8.ofInt (39)).toInt32 = (39 : Int32) := by decide
theorem bp_40 : (Int8.ofInt (40)).toInt32 = (40 : Int32) := by decide
theorem bp_41 : (Int8.ofInt (41)).toInt32 = (41 : Int32) := by decide
theorem bp_42 : (Int8.ofInt (42)).toInt32 = (42 : Int32) := by decide
theorem bp_43 : (Int8.ofInt (43)).toInt32 = (43 : Int32) := by decide
theorem bp_44 : (Int8.ofInt (44)).toInt32 = (44 : Int32) := by decide
theorem bp_45 : (Int8.ofInt (45)).toInt32 = (45 : Int32) := by decide
theorem bp_46 : (Int8.ofInt (46)).toInt32 = (46 : Int32) := by decide
theorem bp_47 : (Int8.ofInt (47)).toInt32 = (47 : Int32) := by decide
theorem bp_48 : (Int8.ofInt (48)).toInt32 = (48 : Int32) := by decide
theorem bp_49 : (Int8.ofInt (49)).toInt32 = (49 : Int32) := by decide
theorem bp_50 : (Int8.ofInt (50)).toInt32 = (50 : Int32) := by decide
theorem bp_51 : (Int8.ofInt (51)).toInt32 = (51 : Int32) := by decide
theorem bp_52 : (Int8.ofInt (52)).toInt32 = (52 : Int32) := by decide
theorem bp_53 : (Int8.ofInt (53)).toInt32 = (53 : Int32) := by decide
theorem bp_54 : (Int8.ofInt (54)).toInt32 = (54 : Int32) := by decide
theorem bp_55 : (Int8.ofInt (55)).toInt32 = (55 : Int32) := by decide
theorem bp_56 : (Int8.ofInt (56)).toInt32 = (56 : Int32) := by decide
theorem bp_57 : (Int8.ofInt (57)).toInt32 = (57 : Int32) := by decide
theorem bp_58 : (Int8.ofInt (58)).toInt32 = (58 : Int32) := by decide
theorem bp_59 : (Int8.ofInt (59)).toInt32 = (59 : Int32) := by decide
theorem bp_60 : (Int8.ofInt (60)).toInt32 = (60 : Int32) := by decide
theorem bp_61 : (Int8.ofInt (61)).toInt32 = (61 : Int32) := by decide
theorem bp_62 : (Int8.ofInt (62)).toInt32 = (62 : Int32) := by decide
theorem bp_63 : (Int8.ofInt (63)).toInt32 = (63 : Int32) := by decide
theorem bp_64 : (Int8.ofInt (64)).toInt32 = (64 : Int32) := by decide
theorem bp_65 : (Int8.ofInt (65)).toInt32 = (65 : Int32) := by decide
theorem bp_66 : (Int8.ofInt (66)).toInt32 = (66 : Int32) := by decide
theorem bp_67 : (Int8.ofInt (67)).toInt32 = (67 : Int32) := by decide
theorem bp_68 : (Int8.ofInt (68)).toInt32 = (68 : Int32) := by decide
theorem bp_69 : (Int8.ofInt (69)).toInt32 = (69 : Int32) := by decide
theorem bp_70 : (Int8.ofInt (70)).toInt32 = (70 : Int32) := by decide
theorem bp_71 : (Int8.ofInt (71)).toInt32 = (71 : Int32) := by decide
theorem bp_72 : (Int8.ofInt (72)).toInt32 = (72 : Int32) := by decide
theorem bp_73 : (Int8.ofInt (73)).toInt32 = (73 : Int32) := by decide
theorem bp_74 : (Int8.ofInt (74)).toInt32 = (74 : Int32) := by decide
theorem bp_75 : (Int8.ofInt (75)).toInt32 = (75 : Int32) := by decide
theorem bp_76 : (Int8.ofInt (76)).toInt32 = (76 : Int32) := by decide
theorem bp_77 : (Int8.ofInt (77)).toInt32 = (77 : Int32) := by decide
theorem bp_78 : (Int8.ofInt (78)).toInt32 = (78 : Int32) := by decide
theorem bp_79 : (Int8.ofInt (79)).toInt32 = (79 : Int32) := by decide
theorem bp_80 : (Int8.ofInt (80)).toInt32 = (80 : Int32) := by decide
theorem bp_81 : (Int8.ofInt (81)).toInt32 = (81 : Int32) := by decide
theorem bp_82 : (Int8.ofInt (82)).toInt32 = (82 : Int32) := by decide
theorem bp_83 : (Int8.ofInt (83)).toInt32 = (83 : Int32) := by decide
theorem bp_84 : (Int8.ofInt (84)).toInt32 = (84 : Int32) := by decide
theorem bp_85 : (Int8.ofInt (85)).toInt32 = (85 : Int32) := by decide
theorem bp_86 : (Int8.ofInt (86)).toInt32 = (86 : Int32) := by decide
theorem bp_87 : (Int8.ofInt (87)).toInt32 = (87 : Int32) := by decide
theorem bp_88 : (Int8.ofInt (88)).toInt32 = (88 : Int32) := by decide
theorem bp_89 : (Int8.ofInt (89)).toInt32 = (89 : Int32) := by decide
theorem bp_90 : (Int8.ofInt (90)).toInt32 = (90 : Int32) := by decide
theorem bp_91 : (Int8.ofInt (91)).toInt32 = (91 : Int32) := by decide
theorem bp_92 : (Int8.ofInt (92)).toInt32 = (92 : Int32) := by decide
theorem bp_93 : (Int8.ofInt (93)).toInt32 = (93 : Int32) := by decide
theorem bp_94 : (Int8.ofInt (94)).toInt32 = (94 : Int32) := by decide
theorem bp_95 : (Int8.ofInt (95)).toInt32 = (95 : Int32) := by decide
theorem bp_96 : (Int8.ofInt (96)).toInt32 = (96 : Int32) := by decide
theorem bp_97 : (Int8.ofInt (97)).toInt32 = (97 : Int32) := by decide
theorem bp_98 : (Int8.ofInt (98)).toInt32 = (98 : Int32) := by decide
theorem bp_99 : (Int8.ofInt (99)).toInt32 = (99 : Int32) := by decide
theorem bp_100 : (Int8.ofInt (100)).toInt32 = (100 : Int32) := by decide
theorem bp_101 : (Int8.ofInt (101)).toInt32 = (101 : Int32) := by decide
theorem bp_102 : (Int8.ofInt (102)).toInt32 = (102 : Int32) := by decide
theorem bp_103 : (Int8.ofInt (103)).toInt32 = (103 : Int32) := by decide
theorem bp_104 : (Int8.ofInt (104)).toInt32 = (104 : Int32) := by decide
theorem bp_105 : (Int8.ofInt (105)).toInt32 = (105 : Int32) := by decide
theorem bp_106 : (Int8.ofInt (106)).toInt32 = (106 : Int32) := by decide
theorem bp_107 : (Int8.ofInt (107)).toInt32 = (107 : Int32) := by decide
theorem bp_108 : (Int8.ofInt (108)).toInt32 = (108 : Int32) := by decide
theorem bp_109 : (Int8.ofInt (109)).toInt32 = (109 : Int32) := by decide
theorem bp_110 : (Int8.ofInt (110)).toInt32 = (110 : Int32) := by decide
theorem bp_111 : (Int8.ofInt (111)).toInt32 = (111 : Int32) := by decide
theorem bp_112 : (Int8.ofInt (112)).toInt32 = (112 : Int32) := by decide
theorem bp_113 : (Int8.ofInt (113)).toInt32 = (113 : Int32) := by decide
theorem bp_114 : (Int8.ofInt (114)).toInt32 = (114 : Int32) := by decide
theorem bp_115 : (Int8.ofInt (115)).toInt32 = (115 : Int32) := by decide
theorem bp_116 : (Int8.ofInt (116)).toInt32 = (116 : Int32) := by decide
theorem bp_117 : (Int8.ofInt (117)).toInt32 = (117 : Int32) := by decide
theorem bp_118 : (Int8.ofInt (118)).toInt32 = (118 : Int32) := by decide
theorem bp_119 : (Int8.ofInt (119)).toInt32 = (119 : Int32) := by decide
theorem bp_120 : (Int8.ofInt (120)).toInt32 = (120 : Int32) := by decide
theorem bp_121 : (Int8.ofInt (121)).toInt32 = (121 : Int32) := by decide
theorem bp_122 : (Int8.ofInt (122)).toInt32 = (122 : Int32) := by decide
theorem sp_128 : (Int16.ofInt (128)).toInt32 = (128 : Int32) := by decide
theorem sp_240 : (Int16.ofInt (240)).toInt32 = (240 : Int32) := by decide
theorem sp_255 : (Int16.ofInt (255)).toInt32 = (255 : Int32) := by decide
theorem sp_320 : (Int16.ofInt (320)).toInt32 = (320 : Int32) := by decide
theorem sp_360 : (Int16.ofInt (360)).toInt32 = (360 : Int32) := by decide
theorem sp_366 : (Int16.ofInt (366)).toInt32 = (366 : Int32) := by decide
theorem sp_600 : (Int16.ofInt (600)).toInt32 = (600 : Int32) := by decide
theorem sp_800 : (Int16.ofInt (800)).toInt32 = (800 : Int32) := by decide
theorem sp_900 : (Int16.ofInt (900)).toInt32 = (900 : Int32) := by decide
theorem sp_999 : (Int16.ofInt (999)).toInt32 = (999 : Int32) := by decide
theorem sp_1800 : (Int16.ofInt (1800)).toInt32 = (1800 : Int32) := by decide
theorem sp_3599 : (Int16.ofInt (3599)).toInt32 = (3599 : Int32) := by decide
theorem sp_3600 : (Int16.ofInt (3600)).toInt32 = (3600 : Int32) := by decide
theorem sp_6954 : (Int16.ofInt (6954)).toInt32 = (6954 : Int32) := by decide
theorem sp_7320 : (Int16.ofInt (7320)).toInt32 = (7320 : Int32) := by decide
theorem sp_9999 : (Int16.ofInt (9999)).toInt32 = (9999 : Int32) := by decide
theorem sp_10000 : (Int16.ofInt (10000)).toInt32 = (10000 : Int32) := by decide
theorem lc_0 : Int64.ofNat (0 : Fin 2) = (0 : Int64) := by decide
theorem lc_1 : Int64.ofNat (1 : Fin 2) = (1 : Int64) := by decide
