set_option maxRecDepth 20000 in
theorem eg_u0 : u_ws RX0 TX0 4 = ([347, 349, 351, 353] : List Nat).filterMap (fun i => lw_tbl[i]?) := by decide +kernel
set_option maxRecDepth 20000 in
theorem eg_ug0 : (u_ws RX0 TX0 4).all goodWord = true := by decide +kernel
set_option maxRecDepth 20000 in
theorem eg_u1 : u_ws RX1 TX1 7 = ([312, 314, 316, 318, 320, 322, 324] : List Nat).filterMap (fun i => lw_tbl[i]?) := by decide +kernel
set_option maxRecDepth 20000 in
theorem eg_ug1 : (u_ws RX1 TX1 7).all goodWord = true := by decide +kernel
set_option maxRecDepth 20000 in
theorem eg_u2 : u_ws RX2 TX2 13 = ([562, 564, 566, 568, 570, 572, 574, 576, 578, 580, 582, 584, 586] : List Nat).filterMap (fun i => lw_tbl[i]?) := by decide +kernel
set_option maxRecDepth 20000 in
theorem eg_ug2 : (u_ws RX2 TX2 13).all goodWord = true := by decide +kernel
set_option maxRecDepth 20000 in
theorem eg_u3 : u_ws RX3 TX3 7 = ([264, 266, 268, 270, 272, 274, 276] : List Nat).filterMap (fun i => lw_tbl[i]?) := by decide +kernel
set_option maxRecDepth 20000 in
theorem eg_ug3 : (u_ws RX3 TX3 7).all goodWord = true := by decide +kernel
set_option maxRecDepth 20000 in
theorem eg_u4 : u_ws RX4 TX4 7 = ([507, 509, 511, 513, 515, 517, 519] : List Nat).filterMap (fun i => lw_tbl[i]?) := by decide +kernel
set_option maxRecDepth 20000 in
theorem eg_ug4 : (u_ws RX4 TX4 7).all goodWord = true := by decide +kernel
set_option maxRecDepth 20000 in
theorem eg_u5 : u_ws RX5 TX5 13 = ([401, 403, 405, 407, 409, 411, 413, 415, 417, 419, 421, 423, 425] : List Nat).filterMap (fun i => lw_tbl[i]?) := by decide +kernel
set_option maxRecDepth 20000 in
theorem eg_ug5 : (u_ws RX5 TX5 13).all goodWord = true := by decide +kernel
set_option maxRecDepth 20000 in
theorem eg_u6 : u_ws RX6 TX6 15 = ([207, 209, 211, 213, 215, 217, 219, 221, 223, 225, 227, 229, 231, 233, 235] : List Nat).filterMap (fun i => lw_tbl[i]?) := by decide +kernel
set_option maxRecDepth 20000 in
theorem eg_ug6 : (u_ws RX6 TX6 15).all goodWord = true := by decide +kernel
set_option maxRecDepth 20000 in
theorem eg_u7 : u_ws RX7 TX7 8 = ([604, 606, 608, 610, 612, 614, 616, 618] : List Nat).filterMap (fun i => lw_tbl[i]?) := by decide +kernel
set_option maxRecDepth 20000 in
theorem eg_ug7 : (u_ws RX7 TX7 8).all goodWord = true := by decide +kernel
set_option maxRecDepth 20000 in
theorem eg_u8 : u_ws RX8 TX8 7 = ([443, 445, 447, 449, 451, 453, 455] : List Nat).filterMap (fun i => lw_tbl[i]?) := by decide +kernel
set_option maxRecDepth 20000 in
theorem eg_ug8 : (u_ws RX8 TX8 7).all goodWord = true := by decide +kernel
set_option maxRecDepth 20000 in
theorem eg_u9 : u_ws RX9 TX9 7 = ([169, 171, 173, 175, 177, 179, 181] : List Nat).filterMap (fun i => lw_tbl[i]?) := by decide +kernel
set_option maxRecDepth 20000 in
theorem eg_ug9 : (u_ws RX9 TX9 7).all goodWord = true := by decide +kernel
set_option maxRecDepth 20000 in
theorem eg_u10 : u_ws RX10 TX10 15 = ([636, 638, 640, 642, 644, 646, 648, 650, 652, 654, 656, 658, 660, 662, 664] : List Nat).filterMap (fun i => lw_tbl[i]?) := by decide +kernel
set_option maxRecDepth 20000 in
theorem eg_ug10 : (u_ws RX10 TX10 15).all goodWord = true := by decide +kernel
set_option maxRecDepth 20000 in
theorem eg_u11 : u_ws RX11 TX11 82 = ([1481, 1483, 1485, 1487, 1489, 1491, 1493, 1495, 1497, 1499, 1501, 1503, 1505, 1507, 1509, 1511, 1513, 1515, 1517, 1519, 1521, 1523, 1525, 1527, 1529, 1531, 1533, 1535, 1537, 1539, 1541, 1543, 1545, 1547, 1549, 1551, 1553, 1555, 1557, 1559, 1561, 1563, 1565, 1567, 1569, 1571, 1573, 1575, 1577, 1579, 1581, 1583, 1585, 1587, 1589, 1591, 1593, 1595, 1597, 1599, 1601, 1603, 1605, 1607, 1609, 1611, 1613, 1615, 1617, 1619, 1621, 1623, 1625, 1627, 1629, 1631, 1633, 1635, 1637, 1639, 1641, 1643] : List Nat).filterMap (fun i => lw_tbl[i]?) := by decide +kernel
set_option maxRecDepth 20000 in
theorem eg_ug11 : (u_ws RX11 TX11 82).all goodWord = true := by decide +kernel
theorem eg_ui {ws : List Cond} (ps : List Nat) (hp : ws = ps.filterMap (fun i => lw_tbl[i]?)) (h : ws.all goodWord = true) : ∀ w ∈ ws, w ∈ eg_T := by
  intro w hw
  have h1 := List.all_eq_true.mp h w hw
  rw [hp] at hw
  obtain ⟨i, -, hi⟩ := List.mem_filterMap.mp hw
  exact eg_T_of hi h1
theorem eg_uin (ci : Nat) (h : ci < 12) : ∀ w ∈ u_ws (eg_tb ci).1 (eg_tb ci).2 (eg_nf ci), w ∈ eg_T := eg_12 (P := fun ci => ∀ w ∈ u_ws (eg_tb ci).1 (eg_tb ci).2 (eg_nf ci), w ∈ eg_T) (eg_ui _ eg_u0 eg_ug0) (eg_ui _ eg_u1 eg_ug1) (eg_ui _ eg_u2 eg_ug2) (eg_ui _ eg_u3 eg_ug3) (eg_ui _ eg_u4 eg_ug4) (eg_ui _ eg_u5 eg_ug5) (eg_ui _ eg_u6 eg_ug6) (eg_ui _ eg_u7 eg_ug7) (eg_ui _ eg_u8 eg_ug8) (eg_ui _ eg_u9 eg_ug9) (eg_ui _ eg_u10 eg_ug10) (eg_ui _ eg_u11 eg_ug11) ci h
section EGF
variable {κ : eg_K} {G : eg_G} {mt : eg_M} {d : Nat} {Qc : Array Value → State → Outcome → State → Prop} {pc : Nat} {ls : List (Nat × eg_V)} {st : List eg_V} {M : eg_H}
theorem eg_getI {idx ci k : Nat} {r : eg_R} (hd : decode mt.2.1 pc = .ok (.getfield idx, 3)) (hf : eg_FL mt.1.cls idx ci k) (h0 : eg_fk (eg_ty ci k) = 0) (hy : True) (hr : eg_Ob G r ci) (kk : eg_W κ G mt d Qc (pc + 3) ls (vI (M.1 r k) :: st) M) : eg_W κ G mt d Qc pc ls (vR r :: st) M := by
  intro p e s m args below meth c H locs la C hl hP hS
  obtain ⟨q, hq⟩ := List.getElem?_of_mem hr.1
  refine va_get (D := kD κ) (C := (eg_tb ci).1) (T := (eg_tb ci).2) (N := eg_nf ci) (ci := ci) (own := mt.1.cls) (ref := ((eg_tb ci).2 k).1) (v := .int (M.1 r k)) (fs := (List.range (eg_nf ci)).map (eg_fv κ G M r ci)) C.1 C.2.1 C.2.2.2.2.2.1 (fun w hw => List.mem_cons_of_mem _ (eg_uin ci hf.1 w hw)) C.2.2.2.2.1 C.2.2.2.2.2.2.2.1 hP q (by rw [eg_at hq, eg_cel_ob hr.2]) (eg_cl ci hf.1) k hf.2.1 (C.2.2.2.2.2.1 _ (List.mem_cons_of_mem _ hf.2.2)) (fun _ h9 => h9) (eg_fs_get hf.2.1 (by simp [eg_fv, h0, hy])) hd ?_
  exact kk p e s m args below meth c H locs la C hl hP hS
theorem eg_getR {idx ci k : Nat} {r : eg_R} (hd : decode mt.2.1 pc = .ok (.getfield idx, 3)) (hf : eg_FL mt.1.cls idx ci k) (h0 : eg_fk (eg_ty ci k) = 2) (hy : eg_dyn ci k = false) (hr : eg_Ob G r ci) (kk : eg_W κ G mt d Qc (pc + 3) ls (vR (G.2.2 r k) :: st) M) : eg_W κ G mt d Qc pc ls (vR r :: st) M := by
  intro p e s m args below meth c H locs la C hl hP hS
  obtain ⟨q, hq⟩ := List.getElem?_of_mem hr.1
  refine va_get (D := kD κ) (C := (eg_tb ci).1) (T := (eg_tb ci).2) (N := eg_nf ci) (ci := ci) (own := mt.1.cls) (ref := ((eg_tb ci).2 k).1) (v := .ref (kad κ (G.2.2 r k))) (fs := (List.range (eg_nf ci)).map (eg_fv κ G M r ci)) C.1 C.2.1 C.2.2.2.2.2.1 (fun w hw => List.mem_cons_of_mem _ (eg_uin ci hf.1 w hw)) C.2.2.2.2.1 C.2.2.2.2.2.2.2.1 hP q (by rw [eg_at hq, eg_cel_ob hr.2]) (eg_cl ci hf.1) k hf.2.1 (C.2.2.2.2.2.1 _ (List.mem_cons_of_mem _ hf.2.2)) (fun _ h9 => h9) (eg_fs_get hf.2.1 (by simp [eg_fv, h0, hy])) hd ?_
  exact kk p e s m args below meth c H locs la C hl hP hS
theorem eg_getD {idx ci k : Nat} {r : eg_R} (hd : decode mt.2.1 pc = .ok (.getfield idx, 3)) (hf : eg_FL mt.1.cls idx ci k) (h0 : eg_fk (eg_ty ci k) = 2) (hy : eg_dyn ci k = true) (hr : eg_Ob G r ci) (kk : eg_W κ G mt d Qc (pc + 3) ls (vR (M.2.2 r k) :: st) M) (h6 : ci ≠ 6 ∨ M.2.2 r k ≠ eg_nul := by exact Or.inl (by decide)) : eg_W κ G mt d Qc pc ls (vR r :: st) M := by
  intro p e s m args below meth c H locs la C hl hP hS
  obtain ⟨q, hq⟩ := List.getElem?_of_mem hr.1
  refine va_get (D := kD κ) (C := (eg_tb ci).1) (T := (eg_tb ci).2) (N := eg_nf ci) (ci := ci) (own := mt.1.cls) (ref := ((eg_tb ci).2 k).1) (v := .ref (kad κ (M.2.2 r k))) (fs := (List.range (eg_nf ci)).map (eg_fv κ G M r ci)) C.1 C.2.1 C.2.2.2.2.2.1 (fun w hw => List.mem_cons_of_mem _ (eg_uin ci hf.1 w hw)) C.2.2.2.2.1 C.2.2.2.2.2.2.2.1 hP q (by rw [eg_at hq, eg_cel_ob hr.2]) (eg_cl ci hf.1) k hf.2.1 (C.2.2.2.2.2.1 _ (List.mem_cons_of_mem _ hf.2.2)) (fun _ h9 => h9) (eg_fs_get hf.2.1 (by unfold eg_fv; rw [if_neg (by rw [h0]; decide), if_neg (by rw [h0]; decide), if_pos hy]; exact eg_nq_of h6)) hd ?_
  exact kk p e s m args below meth c H locs la C hl hP hS
theorem eg_putI {idx ci k : Nat} {r : eg_R} {x : Int32} (hd : decode mt.2.1 pc = .ok (.putfield idx, 3)) (hf : eg_FL mt.1.cls idx ci k) (hfin : ((eg_tb ci).2 k).2.2.2 = false) (h0 : eg_ty ci k = .int) (hy : True) (hr : eg_Ob G r ci) (kk : eg_W κ G mt d Qc (pc + 3) ls st (sI M r k x)) : eg_W κ G mt d Qc pc ls (vI x :: vR r :: st) M := by
  intro p e s m args below meth c H locs la C hl hP hS
  obtain ⟨q, hq⟩ := List.getElem?_of_mem hr.1
  have hok := C.2.2.2.2.2.2.2.2.1
  refine va_put (D := kD κ) (C := (eg_tb ci).1) (T := (eg_tb ci).2) (N := eg_nf ci) (ci := ci) (own := mt.1.cls) (ref := ((eg_tb ci).2 k).1) (ty := .int) (v := .int x) (fs := (List.range (eg_nf ci)).map (eg_fv κ G M r ci)) C.1 C.2.1 C.2.2.2.2.2.1 (fun w hw => List.mem_cons_of_mem _ (eg_uin ci hf.1 w hw)) (eg_ty ci) (eg_tyk ci hf.1) (eg_nmk ci hf.1) C.2.2.2.2.1 C.2.2.2.2.2.2.2.1 hP (eg_D hok M) hS q (by rw [eg_at hq, eg_cel_ob hr.2]) (eg_cl ci hf.1) k hf.2.1 (C.2.2.2.2.2.1 _ (List.mem_cons_of_mem _ hf.2.2)) (fun _ h9 => h9) hfin (by rw [eg_tyk ci hf.1 k hf.2.1, h0]) rfl rfl (by simpa using hf.2.1) hd (fun H1 locs1 hP1 hD1 hS1 => ?_)
  rw [eg_set (κ := κ) (M := M) (M1 := sI M r k x) hok.nd hq (fun z hz => eg_cel_congr (sI_ne hz) rfl rfl) (by
    rw [eg_cel_ob hr.2, eg_fs_set (k := k) (f := eg_fv κ G M r ci) (v := .int x)]
    · intro j hj
      simp [eg_fv, sI, hj]
    · simp [eg_fv, sI, h0, eg_fk, hy])] at hP1
  exact kk p e s m args below meth c H1 locs1 la C hl hP1 hS1
theorem eg_putZ {idx ci k : Nat} {r : eg_R} {x : Int32} (hd : decode mt.2.1 pc = .ok (.putfield idx, 3)) (hf : eg_FL mt.1.cls idx ci k) (hfin : ((eg_tb ci).2 k).2.2.2 = false) (h0 : eg_ty ci k = .boolean) (hy : x = 0 ∨ x = 1) (hr : eg_Ob G r ci) (kk : eg_W κ G mt d Qc (pc + 3) ls st (sI M r k x)) : eg_W κ G mt d Qc pc ls (vI x :: vR r :: st) M := by
  intro p e s m args below meth c H locs la C hl hP hS
  obtain ⟨q, hq⟩ := List.getElem?_of_mem hr.1
  have hok := C.2.2.2.2.2.2.2.2.1
  refine va_put (D := kD κ) (C := (eg_tb ci).1) (T := (eg_tb ci).2) (N := eg_nf ci) (ci := ci) (own := mt.1.cls) (ref := ((eg_tb ci).2 k).1) (ty := .boolean) (v := .int x) (fs := (List.range (eg_nf ci)).map (eg_fv κ G M r ci)) C.1 C.2.1 C.2.2.2.2.2.1 (fun w hw => List.mem_cons_of_mem _ (eg_uin ci hf.1 w hw)) (eg_ty ci) (eg_tyk ci hf.1) (eg_nmk ci hf.1) C.2.2.2.2.1 C.2.2.2.2.2.2.2.1 hP (eg_D hok M) hS q (by rw [eg_at hq, eg_cel_ob hr.2]) (eg_cl ci hf.1) k hf.2.1 (C.2.2.2.2.2.1 _ (List.mem_cons_of_mem _ hf.2.2)) (fun _ h9 => h9) hfin (by rw [eg_tyk ci hf.1 k hf.2.1, h0]) (eg_nz hy) (eg_fz hy) (by simpa using hf.2.1) hd (fun H1 locs1 hP1 hD1 hS1 => ?_)
  rw [eg_set (κ := κ) (M := M) (M1 := sI M r k x) hok.nd hq (fun z hz => eg_cel_congr (sI_ne hz) rfl rfl) (by
    rw [eg_cel_ob hr.2, eg_fs_set (k := k) (f := eg_fv κ G M r ci) (v := .int x)]
    · intro j hj
      simp [eg_fv, sI, hj]
    · simp [eg_fv, sI, h0, eg_fk, hy])] at hP1
  exact kk p e s m args below meth c H1 locs1 la C hl hP1 hS1
theorem eg_putD {idx ci k : Nat} {r : eg_R} {x : eg_R} {Cn : String} (hd : decode mt.2.1 pc = .ok (.putfield idx, 3)) (hf : eg_FL mt.1.cls idx ci k) (hfin : ((eg_tb ci).2 k).2.2.2 = false) (h0 : eg_ty ci k = .object Cn) (hy : eg_dyn ci k = true) (hr : eg_Ob G r ci) (kk : eg_W κ G mt d Qc (pc + 3) ls st (sR M r k x)) (h6 : ci ≠ 6 ∨ x ≠ eg_nul := by first | exact Or.inl (by decide) | exact Or.inr (eg_n5 _)) : eg_W κ G mt d Qc pc ls (vR x :: vR r :: st) M := by
  intro p e s m args below meth c H locs la C hl hP hS
  obtain ⟨q, hq⟩ := List.getElem?_of_mem hr.1
  have hok := C.2.2.2.2.2.2.2.2.1
  refine va_put (D := kD κ) (C := (eg_tb ci).1) (T := (eg_tb ci).2) (N := eg_nf ci) (ci := ci) (own := mt.1.cls) (ref := ((eg_tb ci).2 k).1) (ty := .object Cn) (v := .ref (kad κ x)) (fs := (List.range (eg_nf ci)).map (eg_fv κ G M r ci)) C.1 C.2.1 C.2.2.2.2.2.1 (fun w hw => List.mem_cons_of_mem _ (eg_uin ci hf.1 w hw)) (eg_ty ci) (eg_tyk ci hf.1) (eg_nmk ci hf.1) C.2.2.2.2.1 C.2.2.2.2.2.2.2.1 hP (eg_D hok M) hS q (by rw [eg_at hq, eg_cel_ob hr.2]) (eg_cl ci hf.1) k hf.2.1 (C.2.2.2.2.2.1 _ (List.mem_cons_of_mem _ hf.2.2)) (fun _ h9 => h9) hfin (by rw [eg_tyk ci hf.1 k hf.2.1, h0]) rfl rfl (by simpa using hf.2.1) hd (fun H1 locs1 hP1 hD1 hS1 => ?_)
  rw [eg_set (κ := κ) (M := M) (M1 := sR M r k x) hok.nd hq (fun z hz => eg_cel_congr rfl rfl (sR_ne hz)) (by
    rw [eg_cel_ob hr.2, eg_fs_set (k := k) (f := eg_fv κ G M r ci) (v := .ref (kad κ x))]
    · intro j hj
      simp [eg_fv, sR, hj]
    · unfold eg_fv
      rw [if_neg (by rw [h0]; show ¬ (2 : Nat) = 0; decide), if_neg (by rw [h0]; show ¬ (2 : Nat) = 1; decide), if_pos hy, show (sR M r k x).2.2 r k = x from if_pos ⟨rfl, rfl⟩]
      exact eg_nq_of h6)] at hP1
  exact kk p e s m args below meth c H1 locs1 la C hl hP1 hS1
theorem eg_iaload {r : eg_R} {i : Int32} (hd : decode mt.2.1 pc = .ok (.iaload, 1)) (hr : eg_Ar G r 0 i) (kk : eg_W κ G mt d Qc (pc + 1) ls (vI (M.1 r i.toNatClampNeg) :: st) M) : eg_W κ G mt d Qc pc ls (vI i :: vR r :: st) M := by
  intro p e s m args below meth c H locs la C hl hP hS
  obtain ⟨q, hq⟩ := List.getElem?_of_mem hr.1
  exact va_iald C.1 C.2.1 C.2.2.2.2.2.2.2.1 hP q 0 (cA := kA κ 0) (n := (G.2.1 r).2) (f := M.1 r) (by rw [eg_at hq, eg_cel_ar hr.2.1]; rfl) rfl hr.2.2 hd (kk p e s m args below meth c H locs la C hl hP hS)
theorem eg_baload {r : eg_R} {i : Int32} (hd : decode mt.2.1 pc = .ok (.baload, 1)) (hr : eg_Ar G r 1 i) (kk : eg_W κ G mt d Qc (pc + 1) ls (vI (M.1 r i.toNatClampNeg) :: st) M) : eg_W κ G mt d Qc pc ls (vI i :: vR r :: st) M := by
  intro p e s m args below meth c H locs la C hl hP hS
  obtain ⟨q, hq⟩ := List.getElem?_of_mem hr.1
  exact va_bald C.1 C.2.1 C.2.2.2.2.2.2.2.1 hP q 1 (cA := kA κ 1) (n := (G.2.1 r).2) (f := M.1 r) (by rw [eg_at hq, eg_cel_ar hr.2.1]; rfl) rfl hr.2.2 hd (kk p e s m args below meth c H locs la C hl hP hS)
theorem eg_zaload {r : eg_R} {i : Int32} (hd : decode mt.2.1 pc = .ok (.baload, 1)) (hr : eg_Ar G r 2 i) (kk : eg_W κ G mt d Qc (pc + 1) ls (vI (M.1 r i.toNatClampNeg) :: st) M) : eg_W κ G mt d Qc pc ls (vI i :: vR r :: st) M := by
  intro p e s m args below meth c H locs la C hl hP hS
  obtain ⟨q, hq⟩ := List.getElem?_of_mem hr.1
  exact va_zald C.1 C.2.1 C.2.2.2.2.2.2.2.1 hP q 2 (cA := kA κ 2) (n := (G.2.1 r).2) (f := M.1 r) (by rw [eg_at hq, eg_cel_ar hr.2.1]; rfl) rfl hr.2.2 hd (kk p e s m args below meth c H locs la C hl hP hS)
theorem eg_laload {r : eg_R} {i : Int32} (hd : decode mt.2.1 pc = .ok (.laload, 1)) (hr : eg_Ar G r 3 i) (kk : eg_W κ G mt d Qc (pc + 1) ls (vL (M.2.1 r i.toNatClampNeg) :: st) M) : eg_W κ G mt d Qc pc ls (vI i :: vR r :: st) M := by
  intro p e s m args below meth c H locs la C hl hP hS
  obtain ⟨q, hq⟩ := List.getElem?_of_mem hr.1
  exact va_lald C.1 C.2.1 C.2.2.2.2.2.2.2.1 hP q 3 (cA := kA κ 3) (n := (G.2.1 r).2) (f := M.2.1 r) (by rw [eg_at hq, eg_cel_ar hr.2.1]; rfl) rfl hr.2.2 hd (kk p e s m args below meth c H locs la C hl hP hS)
theorem eg_aaload4 {r : eg_R} {i : Int32} (hd : decode mt.2.1 pc = .ok (.aaload, 1)) (hr : eg_Ar G r 4 i) (kk : eg_W κ G mt d Qc (pc + 1) ls (vR (G.2.2 r i.toNatClampNeg) :: st) M) : eg_W κ G mt d Qc pc ls (vI i :: vR r :: st) M := by
  intro p e s m args below meth c H locs la C hl hP hS
  obtain ⟨q, hq⟩ := List.getElem?_of_mem hr.1
  exact va_aldq C.1 C.2.1 C.2.2.2.2.2.2.2.1 hP q 4 (cA := kA κ 4) (n := (G.2.1 r).2) (f := fun k => some (kad κ (G.2.2 r k))) (by rw [eg_at hq, eg_cel_ar hr.2.1]; rfl) rfl hr.2.2 hd (kk p e s m args below meth c H locs la C hl hP hS)
theorem eg_aaload5 {r : eg_R} {i : Int32} (hd : decode mt.2.1 pc = .ok (.aaload, 1)) (hr : eg_Ar G r 5 i) (kk : eg_W κ G mt d Qc (pc + 1) ls (vR (G.2.2 r i.toNatClampNeg) :: st) M) : eg_W κ G mt d Qc pc ls (vI i :: vR r :: st) M := by
  intro p e s m args below meth c H locs la C hl hP hS
  obtain ⟨q, hq⟩ := List.getElem?_of_mem hr.1
  exact va_aldq C.1 C.2.1 C.2.2.2.2.2.2.2.1 hP q 5 (cA := kA κ 5) (n := (G.2.1 r).2) (f := fun k => some (kad κ (G.2.2 r k))) (by rw [eg_at hq, eg_cel_ar hr.2.1]; rfl) rfl hr.2.2 hd (kk p e s m args below meth c H locs la C hl hP hS)
theorem eg_aaload6 {r : eg_R} {i : Int32} (hd : decode mt.2.1 pc = .ok (.aaload, 1)) (hr : eg_Ar G r 6 i) (kk : eg_W κ G mt d Qc (pc + 1) ls (vR (G.2.2 r i.toNatClampNeg) :: st) M) : eg_W κ G mt d Qc pc ls (vI i :: vR r :: st) M := by
  intro p e s m args below meth c H locs la C hl hP hS
  obtain ⟨q, hq⟩ := List.getElem?_of_mem hr.1
  exact va_aldq C.1 C.2.1 C.2.2.2.2.2.2.2.1 hP q 6 (cA := kA κ 6) (n := (G.2.1 r).2) (f := fun k => some (kad κ (G.2.2 r k))) (by rw [eg_at hq, eg_cel_ar hr.2.1]; rfl) rfl hr.2.2 hd (kk p e s m args below meth c H locs la C hl hP hS)
theorem eg_aaload7 {r : eg_R} {i : Int32} (hd : decode mt.2.1 pc = .ok (.aaload, 1)) (hr : eg_Ar G r 7 i) (kk : eg_W κ G mt d Qc (pc + 1) ls (vR (G.2.2 r i.toNatClampNeg) :: st) M) : eg_W κ G mt d Qc pc ls (vI i :: vR r :: st) M := by
  intro p e s m args below meth c H locs la C hl hP hS
  obtain ⟨q, hq⟩ := List.getElem?_of_mem hr.1
  exact va_aldq C.1 C.2.1 C.2.2.2.2.2.2.2.1 hP q 7 (cA := kA κ 7) (n := (G.2.1 r).2) (f := fun k => some (kad κ (G.2.2 r k))) (by rw [eg_at hq, eg_cel_ar hr.2.1]; rfl) rfl hr.2.2 hd (kk p e s m args below meth c H locs la C hl hP hS)
theorem eg_iastore {r : eg_R} {i : Int32} {x : Int32} (hd : decode mt.2.1 pc = .ok (.iastore, 1)) (hr : eg_Ar G r 0 i) (kk : eg_W κ G mt d Qc (pc + 1) ls st (sI M r i.toNatClampNeg x)) : eg_W κ G mt d Qc pc ls (vI x :: vI i :: vR r :: st) M := by
  intro p e s m args below meth c H locs la C hl hP hS
  obtain ⟨q, hq⟩ := List.getElem?_of_mem hr.1
  have hok := C.2.2.2.2.2.2.2.2.1
  refine va_iast C.1 C.2.1 C.2.2.2.2.2.2.2.1 hP (eg_D hok M) hS q 0 (cA := kA κ 0) (n := (G.2.1 r).2) (f := M.1 r) (by rw [eg_at hq, eg_cel_ar hr.2.1]; rfl) rfl hr.2.2 hd (fun H1 locs1 hP1 hD1 hS1 => ?_)
  rw [eg_set (κ := κ) (M := M) (M1 := sI M r i.toNatClampNeg x) hok.nd hq (fun z hz => eg_cel_congr (sI_ne hz) rfl rfl) (by
    rw [eg_cel_ar hr.2.1]
    unfold eg_arr
    rw [sI_upd]
    rfl)] at hP1
  exact kk p e s m args below meth c H1 locs1 la C hl hP1 hS1
theorem eg_bastore {r : eg_R} {i : Int32} {x : Int32} (hd : decode mt.2.1 pc = .ok (.bastore, 1)) (hr : eg_Ar G r 1 i) (kk : eg_W κ G mt d Qc (pc + 1) ls st (sI M r i.toNatClampNeg (vp_nar .byte x))) : eg_W κ G mt d Qc pc ls (vI x :: vI i :: vR r :: st) M := by
  intro p e s m args below meth c H locs la C hl hP hS
  obtain ⟨q, hq⟩ := List.getElem?_of_mem hr.1
  have hok := C.2.2.2.2.2.2.2.2.1
  refine va_bast C.1 C.2.1 C.2.2.2.2.2.2.2.1 hP (eg_D hok M) hS q 1 (cA := kA κ 1) (n := (G.2.1 r).2) (f := M.1 r) (by rw [eg_at hq, eg_cel_ar hr.2.1]; rfl) rfl hr.2.2 hd (fun H1 locs1 hP1 hD1 hS1 => ?_)
  rw [eg_set (κ := κ) (M := M) (M1 := sI M r i.toNatClampNeg (vp_nar .byte x)) hok.nd hq (fun z hz => eg_cel_congr (sI_ne hz) rfl rfl) (by
    rw [eg_cel_ar hr.2.1]
    unfold eg_arr
    rw [sI_upd]
    rfl)] at hP1
  exact kk p e s m args below meth c H1 locs1 la C hl hP1 hS1
theorem eg_zastore {r : eg_R} {i : Int32} {x : Int32} (hd : decode mt.2.1 pc = .ok (.bastore, 1)) (hr : eg_Ar G r 2 i) (kk : eg_W κ G mt d Qc (pc + 1) ls st (sI M r i.toNatClampNeg (vp_nar .boolean x))) : eg_W κ G mt d Qc pc ls (vI x :: vI i :: vR r :: st) M := by
  intro p e s m args below meth c H locs la C hl hP hS
  obtain ⟨q, hq⟩ := List.getElem?_of_mem hr.1
  have hok := C.2.2.2.2.2.2.2.2.1
  refine va_zast C.1 C.2.1 C.2.2.2.2.2.2.2.1 hP (eg_D hok M) hS q 2 (cA := kA κ 2) (n := (G.2.1 r).2) (f := M.1 r) (by rw [eg_at hq, eg_cel_ar hr.2.1]; rfl) rfl hr.2.2 hd (fun H1 locs1 hP1 hD1 hS1 => ?_)
  rw [eg_set (κ := κ) (M := M) (M1 := sI M r i.toNatClampNeg (vp_nar .boolean x)) hok.nd hq (fun z hz => eg_cel_congr (sI_ne hz) rfl rfl) (by
    rw [eg_cel_ar hr.2.1]
    unfold eg_arr
    rw [sI_upd]
    rfl)] at hP1
  exact kk p e s m args below meth c H1 locs1 la C hl hP1 hS1
theorem eg_lastore {r : eg_R} {i : Int32} {x : Int64} (hd : decode mt.2.1 pc = .ok (.lastore, 1)) (hr : eg_Ar G r 3 i) (kk : eg_W κ G mt d Qc (pc + 1) ls st (sL M r i.toNatClampNeg x)) : eg_W κ G mt d Qc pc ls (vL x :: vI i :: vR r :: st) M := by
  intro p e s m args below meth c H locs la C hl hP hS
  obtain ⟨q, hq⟩ := List.getElem?_of_mem hr.1
  have hok := C.2.2.2.2.2.2.2.2.1
  refine va_last C.1 C.2.1 C.2.2.2.2.2.2.2.1 hP (eg_D hok M) hS q 3 (cA := kA κ 3) (n := (G.2.1 r).2) (f := M.2.1 r) (by rw [eg_at hq, eg_cel_ar hr.2.1]; rfl) rfl hr.2.2 hd (fun H1 locs1 hP1 hD1 hS1 => ?_)
  rw [eg_set (κ := κ) (M := M) (M1 := sL M r i.toNatClampNeg x) hok.nd hq (fun z hz => eg_cel_congr rfl (sL_ne hz) rfl) (by
    rw [eg_cel_ar hr.2.1]
    unfold eg_arr
    rw [sL_upd]
    rfl)] at hP1
  exact kk p e s m args below meth c H1 locs1 la C hl hP1 hS1
theorem eg_alen {r : eg_R} {t n : Nat} (hd : decode mt.2.1 pc = .ok (.arraylength, 1)) (hr : r ∈ G.1 ∧ G.2.1 r = (t + 1, n)) (ht : t < 3) (kk : eg_W κ G mt d Qc (pc + 1) ls (vI (Int32.ofNat n) :: st) M) : eg_W κ G mt d Qc pc ls (vR r :: st) M := by
  intro p e s m args below meth c H locs la C hl hP hS
  obtain ⟨q, hq⟩ := List.getElem?_of_mem hr.1
  rcases (by omega : t = 0 ∨ t = 1 ∨ t = 2) with rfl | rfl | rfl
  · exact va_alen C.1 C.2.1 C.2.2.2.2.2.2.2.1 hP q 0 (cA := kA κ 0) (x := (n, .inl (M.1 r))) (by rw [eg_at hq, eg_cel_ar (t := 0) (by rw [hr.2]), hr.2]; rfl) (ty := .int) rfl rfl hd (kk p e s m args below meth c H locs la C hl hP hS)
  · exact va_alen C.1 C.2.1 C.2.2.2.2.2.2.2.1 hP q 1 (cA := kA κ 1) (x := (n, .inl (M.1 r))) (by rw [eg_at hq, eg_cel_ar (t := 1) (by rw [hr.2]), hr.2]; rfl) (ty := .byte) rfl rfl hd (kk p e s m args below meth c H locs la C hl hP hS)
  · exact va_alen C.1 C.2.1 C.2.2.2.2.2.2.2.1 hP q 2 (cA := kA κ 2) (x := (n, .inl (M.1 r))) (by rw [eg_at hq, eg_cel_ar (t := 2) (by rw [hr.2]), hr.2]; rfl) (ty := .boolean) rfl rfl hd (kk p e s m args below meth c H locs la C hl hP hS)
end EGF
