/-! LINKS: the tables' words of classes, fields and methods, by their places (by program: wip/whole/genlinks.py) -/
theorem ax_memi {ws : List Cond} (is : List Nat) (h : ws = is.filterMap (fun i => lw_tbl[i]?)) (g : ws.all goodWord = true) : ∀ w ∈ ws, w ∈ ax_tb := by
  intro w hw
  have h1 := List.all_eq_true.mp g w hw
  rw [h] at hw
  obtain ⟨i, -, hi⟩ := List.mem_filterMap.mp hw
  exact List.mem_filter.mpr ⟨List.mem_of_getElem? hi, h1⟩
def ax_TN (c sl : Nat) : String × String × String := match vwCl[c]? with
  | some r => ((r.2.1 sl).1, (r.2.1 sl).2.1, (r.2.1 sl).2.2.1)
  | none => if sl = 0 then ("java/lang/String", "value", "[B") else ("java/lang/String", "coder", "B")
def ax_fw (K : AK) (e : Nat × Nat × Nat) : Cond := .fieldLink K.2.1 e.1 (ax_TN e.2.1 e.2.2).1 (ax_TN e.2.1 e.2.2).2.1 (ax_TN e.2.1 e.2.2).2.2
def ax_tyk (t : Nat) (ty : FieldType) : Bool := match t, ty with
  | 0, .int => true
  | 6, .boolean => true
  | 1, .long => true
  | 4, .object _ => true
  | 4, .array _ => true
  | 5, .object _ => true
  | 2, _ => true
  | 3, _ => true
  | _, _ => false
set_option maxRecDepth 20000 in
theorem al_X0 : ∀ w ∈ u_ws RX0 TX0 3, w ∈ ax_tb := ax_memi [388, 390, 392] (by decide +kernel) (by decide +kernel)
theorem ay_X0 : ∀ k, k < 3 → ax_tyk (ax_fs 0 k).1 (tyX0 k) = true ∧ ((ax_fs 0 k).1 = 2 ∨ (ax_fs 0 k).1 = 3 ∨ (TX0 k).2.2.2 = false) := by decide +kernel
set_option maxRecDepth 20000 in
theorem al_X1 : ∀ w ∈ u_ws RX1 TX1 3, w ∈ ax_tb := ax_memi [329, 331, 333] (by decide +kernel) (by decide +kernel)
theorem ay_X1 : ∀ k, k < 3 → ax_tyk (ax_fs 1 k).1 (tyX1 k) = true ∧ ((ax_fs 1 k).1 = 2 ∨ (ax_fs 1 k).1 = 3 ∨ (TX1 k).2.2.2 = false) := by decide +kernel
set_option maxRecDepth 20000 in
theorem al_X2 : ∀ w ∈ u_ws RX2 TX2 1, w ∈ ax_tb := ax_memi [199] (by decide +kernel) (by decide +kernel)
theorem ay_X2 : ∀ k, k < 1 → ax_tyk (ax_fs 2 k).1 (tyX2 k) = true ∧ ((ax_fs 2 k).1 = 2 ∨ (ax_fs 2 k).1 = 3 ∨ (TX2 k).2.2.2 = false) := by decide +kernel
set_option maxRecDepth 20000 in
theorem al_X3 : ∀ w ∈ u_ws RX3 TX3 4, w ∈ ax_tb := ax_memi [212, 214, 216, 218] (by decide +kernel) (by decide +kernel)
theorem ay_X3 : ∀ k, k < 4 → ax_tyk (ax_fs 3 k).1 (tyX3 k) = true ∧ ((ax_fs 3 k).1 = 2 ∨ (ax_fs 3 k).1 = 3 ∨ (TX3 k).2.2.2 = false) := by decide +kernel
set_option maxRecDepth 20000 in
theorem al_X4 : ∀ w ∈ u_ws RX4 TX4 6, w ∈ ax_tb := ax_memi [349, 351, 353, 355, 357, 359] (by decide +kernel) (by decide +kernel)
theorem ay_X4 : ∀ k, k < 6 → ax_tyk (ax_fs 4 k).1 (tyX4 k) = true ∧ ((ax_fs 4 k).1 = 2 ∨ (ax_fs 4 k).1 = 3 ∨ (TX4 k).2.2.2 = false) := by decide +kernel
set_option maxRecDepth 20000 in
theorem al_X5 : ∀ w ∈ u_ws RX5 TX5 4, w ∈ ax_tb := ax_memi [371, 373, 375, 377] (by decide +kernel) (by decide +kernel)
theorem ay_X5 : ∀ k, k < 4 → ax_tyk (ax_fs 5 k).1 (tyX5 k) = true ∧ ((ax_fs 5 k).1 = 2 ∨ (ax_fs 5 k).1 = 3 ∨ (TX5 k).2.2.2 = false) := by decide +kernel
set_option maxRecDepth 20000 in
theorem al_X6 : ∀ w ∈ u_ws RX6 TX6 3, w ∈ ax_tb := ax_memi [169, 171, 173] (by decide +kernel) (by decide +kernel)
theorem ay_X6 : ∀ k, k < 3 → ax_tyk (ax_fs 6 k).1 (tyX6 k) = true ∧ ((ax_fs 6 k).1 = 2 ∨ (ax_fs 6 k).1 = 3 ∨ (TX6 k).2.2.2 = false) := by decide +kernel
set_option maxRecDepth 20000 in
theorem al_X7 : ∀ w ∈ u_ws RX7 TX7 3, w ∈ ax_tb := ax_memi [185, 187, 189] (by decide +kernel) (by decide +kernel)
theorem ay_X7 : ∀ k, k < 3 → ax_tyk (ax_fs 7 k).1 (tyX7 k) = true ∧ ((ax_fs 7 k).1 = 2 ∨ (ax_fs 7 k).1 = 3 ∨ (TX7 k).2.2.2 = false) := by decide +kernel
set_option maxRecDepth 20000 in
theorem al_X8 : ∀ w ∈ u_ws RX8 TX8 10, w ∈ ax_tb := ax_memi [238, 240, 242, 244, 246, 248, 250, 252, 254, 256] (by decide +kernel) (by decide +kernel)
theorem ay_X8 : ∀ k, k < 10 → ax_tyk (ax_fs 8 k).1 (tyX8 k) = true ∧ ((ax_fs 8 k).1 = 2 ∨ (ax_fs 8 k).1 = 3 ∨ (TX8 k).2.2.2 = false) := by decide +kernel
set_option maxRecDepth 20000 in
theorem al_X9 : ∀ w ∈ u_ws RX9 TX9 10, w ∈ ax_tb := ax_memi [298, 300, 302, 304, 306, 308, 310, 312, 314, 316] (by decide +kernel) (by decide +kernel)
theorem ay_X9 : ∀ k, k < 10 → ax_tyk (ax_fs 9 k).1 (tyX9 k) = true ∧ ((ax_fs 9 k).1 = 2 ∨ (ax_fs 9 k).1 = 3 ∨ (TX9 k).2.2.2 = false) := by decide +kernel
set_option maxRecDepth 20000 in
theorem al_X10 : ∀ w ∈ u_ws RX10 TX10 4, w ∈ ax_tb := ax_memi [146, 148, 150, 152] (by decide +kernel) (by decide +kernel)
theorem ay_X10 : ∀ k, k < 4 → ax_tyk (ax_fs 10 k).1 (tyX10 k) = true ∧ ((ax_fs 10 k).1 = 2 ∨ (ax_fs 10 k).1 = 3 ∨ (TX10 k).2.2.2 = false) := by decide +kernel
set_option maxRecDepth 20000 in
theorem al_X11 : ∀ w ∈ u_ws RX11 TX11 20, w ∈ ax_tb := ax_memi [415, 417, 419, 421, 423, 425, 427, 429, 431, 433, 435, 437, 439, 441, 443, 445, 447, 449, 451, 453] (by decide +kernel) (by decide +kernel)
theorem ay_X11 : ∀ k, k < 20 → ax_tyk (ax_fs 11 k).1 (tyX11 k) = true ∧ ((ax_fs 11 k).1 = 2 ∨ (ax_fs 11 k).1 = 3 ∨ (TX11 k).2.2.2 = false) := by decide +kernel
set_option maxRecDepth 20000 in
theorem al_X12 : ∀ w ∈ u_ws RX12 TX12 50, w ∈ ax_tb := ax_memi [1434, 1436, 1438, 1440, 1442, 1444, 1446, 1448, 1450, 1452, 1454, 1456, 1458, 1460, 1462, 1464, 1466, 1468, 1470, 1472, 1474, 1476, 1478, 1480, 1482, 1484, 1486, 1488, 1490, 1492, 1494, 1496, 1498, 1500, 1502, 1504, 1506, 1508, 1510, 1512, 1514, 1516, 1518, 1520, 1522, 1524, 1526, 1528, 1530, 1532] (by decide +kernel) (by decide +kernel)
theorem ay_X12 : ∀ k, k < 50 → ax_tyk (ax_fs 12 k).1 (tyX12 k) = true ∧ ((ax_fs 12 k).1 = 2 ∨ (ax_fs 12 k).1 = 3 ∨ (TX12 k).2.2.2 = false) := by decide +kernel
set_option maxRecDepth 20000 in
theorem af_X0 : ∀ w ∈ ka_X0.2.2.1.map (ax_fw ka_X0), w ∈ ax_tb := ax_memi [385, 386, 387] (by decide +kernel) (by decide +kernel)
set_option maxRecDepth 20000 in
theorem af_X1 : ∀ w ∈ ka_X1.2.2.1.map (ax_fw ka_X1), w ∈ ax_tb := ax_memi [325, 326, 327] (by decide +kernel) (by decide +kernel)
set_option maxRecDepth 20000 in
theorem af_X2 : ∀ w ∈ ka_X2.2.2.1.map (ax_fw ka_X2), w ∈ ax_tb := ax_memi [198, 293, 276, 271, 266] (by decide +kernel) (by decide +kernel)
set_option maxRecDepth 20000 in
theorem af_X3 : ∀ w ∈ ka_X3.2.2.1.map (ax_fw ka_X3), w ∈ ax_tb := ax_memi [208, 209, 210, 211] (by decide +kernel) (by decide +kernel)
set_option maxRecDepth 20000 in
theorem af_X4 : ∀ w ∈ ka_X4.2.2.1.map (ax_fw ka_X4), w ∈ ax_tb := ax_memi [343, 344, 345, 346, 347, 348] (by decide +kernel) (by decide +kernel)
set_option maxRecDepth 20000 in
theorem af_X5 : ∀ w ∈ ka_X5.2.2.1.map (ax_fw ka_X5), w ∈ ax_tb := ax_memi [367, 368, 369, 370] (by decide +kernel) (by decide +kernel)
set_option maxRecDepth 20000 in
theorem af_X6 : ∀ w ∈ ka_X6.2.2.1.map (ax_fw ka_X6), w ∈ ax_tb := ax_memi [166, 167, 168, 280, 284, 294, 268, 291, 278, 273, 287] (by decide +kernel) (by decide +kernel)
set_option maxRecDepth 20000 in
theorem af_X7 : ∀ w ∈ ka_X7.2.2.1.map (ax_fw ka_X7), w ∈ ax_tb := ax_memi [182, 183, 184] (by decide +kernel) (by decide +kernel)
set_option maxRecDepth 20000 in
theorem af_X8 : ∀ w ∈ ka_X8.2.2.1.map (ax_fw ka_X8), w ∈ ax_tb := ax_memi [228, 229, 230, 231, 232, 233, 234, 235, 236, 237, 281, 267, 272] (by decide +kernel) (by decide +kernel)
set_option maxRecDepth 20000 in
theorem af_X9 : ∀ w ∈ ka_X9.2.2.1.map (ax_fw ka_X9), w ∈ ax_tb := ax_memi [265, 270, 275, 279, 283, 286, 289, 292, 296, 297] (by decide +kernel) (by decide +kernel)
set_option maxRecDepth 20000 in
theorem af_X10 : ∀ w ∈ ka_X10.2.2.1.map (ax_fw ka_X10), w ∈ ax_tb := ax_memi [142, 143, 144, 145] (by decide +kernel) (by decide +kernel)
set_option maxRecDepth 20000 in
theorem af_X11 : ∀ w ∈ ka_X11.2.2.1.map (ax_fw ka_X11), w ∈ ax_tb := ax_memi [395, 396, 397, 398, 399, 400, 401, 402, 403, 404, 405, 406, 407, 408, 409, 410, 411, 412, 413, 414, 290, 328, 277, 285, 282, 269, 295, 288, 274] (by decide +kernel) (by decide +kernel)
set_option maxRecDepth 20000 in
theorem af_X12 : ∀ w ∈ ka_X12.2.2.1.map (ax_fw ka_X12), w ∈ ax_tb := ax_memi [1385, 1386, 1387, 1388, 1389, 1399, 1400, 1402, 1403, 1404, 1405, 1406, 1407, 1408, 1409, 1416, 1417, 1418, 1419, 1420, 1421, 1422, 1429, 1430, 1432, 1384, 1390, 1394, 1393, 1392, 1395, 1396, 1401, 1397, 1398, 1415, 1412, 1413, 1391, 1414, 1410, 1411, 1431, 1423, 1433, 1424, 1426, 1427, 1428, 1425] (by decide +kernel) (by decide +kernel)
set_option maxRecDepth 20000 in
theorem af_L : ∀ w ∈ ka_L.2.2.1.map (ax_fw ka_L), w ∈ ax_tb := ax_memi [] (by decide +kernel) (by decide +kernel)
set_option maxRecDepth 20000 in
theorem af_J0 : ∀ w ∈ ka_J0.2.2.1.map (ax_fw ka_J0), w ∈ ax_tb := ax_memi [2038, 2039] (by decide +kernel) (by decide +kernel)
set_option maxRecDepth 20000 in
theorem af_J1 : ∀ w ∈ ka_J1.2.2.1.map (ax_fw ka_J1), w ∈ ax_tb := ax_memi [] (by decide +kernel) (by decide +kernel)
set_option maxRecDepth 20000 in
theorem af_J9 : ∀ w ∈ ka_J9.2.2.1.map (ax_fw ka_J9), w ∈ ax_tb := ax_memi [] (by decide +kernel) (by decide +kernel)
set_option maxRecDepth 20000 in
theorem af_J6 : ∀ w ∈ ka_J6.2.2.1.map (ax_fw ka_J6), w ∈ ax_tb := ax_memi [] (by decide +kernel) (by decide +kernel)
set_option maxRecDepth 20000 in
theorem af_J3 : ∀ w ∈ ka_J3.2.2.1.map (ax_fw ka_J3), w ∈ ax_tb := ax_memi [] (by decide +kernel) (by decide +kernel)
theorem ax_T1 : ∀ K ∈ ax_KL, ∀ e ∈ K.2.2.1, ax_fw K e ∈ ax_tb := List.forall_mem_cons.mpr ⟨fun e h => af_X0 _ (List.mem_map.mpr ⟨e, h, rfl⟩), List.forall_mem_cons.mpr ⟨fun e h => af_X1 _ (List.mem_map.mpr ⟨e, h, rfl⟩), List.forall_mem_cons.mpr ⟨fun e h => af_X2 _ (List.mem_map.mpr ⟨e, h, rfl⟩), List.forall_mem_cons.mpr ⟨fun e h => af_X3 _ (List.mem_map.mpr ⟨e, h, rfl⟩), List.forall_mem_cons.mpr ⟨fun e h => af_X4 _ (List.mem_map.mpr ⟨e, h, rfl⟩), List.forall_mem_cons.mpr ⟨fun e h => af_X5 _ (List.mem_map.mpr ⟨e, h, rfl⟩), List.forall_mem_cons.mpr ⟨fun e h => af_X6 _ (List.mem_map.mpr ⟨e, h, rfl⟩), List.forall_mem_cons.mpr ⟨fun e h => af_X7 _ (List.mem_map.mpr ⟨e, h, rfl⟩), List.forall_mem_cons.mpr ⟨fun e h => af_X8 _ (List.mem_map.mpr ⟨e, h, rfl⟩), List.forall_mem_cons.mpr ⟨fun e h => af_X9 _ (List.mem_map.mpr ⟨e, h, rfl⟩), List.forall_mem_cons.mpr ⟨fun e h => af_X10 _ (List.mem_map.mpr ⟨e, h, rfl⟩), List.forall_mem_cons.mpr ⟨fun e h => af_X11 _ (List.mem_map.mpr ⟨e, h, rfl⟩), List.forall_mem_cons.mpr ⟨fun e h => af_X12 _ (List.mem_map.mpr ⟨e, h, rfl⟩), List.forall_mem_cons.mpr ⟨fun e h => af_L _ (List.mem_map.mpr ⟨e, h, rfl⟩), List.forall_mem_cons.mpr ⟨fun e h => af_J0 _ (List.mem_map.mpr ⟨e, h, rfl⟩), List.forall_mem_cons.mpr ⟨fun e h => af_J1 _ (List.mem_map.mpr ⟨e, h, rfl⟩), List.forall_mem_cons.mpr ⟨fun e h => af_J9 _ (List.mem_map.mpr ⟨e, h, rfl⟩), List.forall_mem_cons.mpr ⟨fun e h => af_J6 _ (List.mem_map.mpr ⟨e, h, rfl⟩), List.forall_mem_cons.mpr ⟨fun e h => af_J3 _ (List.mem_map.mpr ⟨e, h, rfl⟩), fun _ h => absurd h List.not_mem_nil⟩⟩⟩⟩⟩⟩⟩⟩⟩⟩⟩⟩⟩⟩⟩⟩⟩⟩⟩
theorem ax_T3 : ∀ K ∈ ax_KL, plainName K.2.1 = true ∨ K.1 = 16 := by decide +kernel
/-- a class of ours: its words, its types, its names -/
def ax_cls (c : Nat) (r : vw_C) (ty0 : Nat → FieldType) : Prop := (∀ w ∈ u_ws r.1 r.2.1 r.2.2, w ∈ ax_tb) ∧ r.2.2 = ax_nf c ∧ (∀ k, k < r.2.2 → parseFieldDescriptor (r.2.1 k).2.2.1 = some (ty0 k)) ∧ (∀ a, a < r.2.2 → ∀ b, b < r.2.2 → a ≠ b → (r.2.1 a).2.1 ≠ (r.2.1 b).2.1) ∧ ∀ k, k < r.2.2 → ax_tyk (ax_fs c k).1 (ty0 k) = true ∧ ((ax_fs c k).1 = 2 ∨ (ax_fs c k).1 = 3 ∨ (r.2.1 k).2.2.2 = false)
theorem ax_T2 : ∀ c, c < 13 → ∃ r ty0, vwCl[c]? = some r ∧ ax_cls c r ty0 := by
  intro c hc
  match c, hc with
  | 0, _ => exact ⟨(RX0, TX0, 3), tyX0, rfl, al_X0, rfl, tyX0_ok, nmX0, ay_X0⟩
  | 1, _ => exact ⟨(RX1, TX1, 3), tyX1, rfl, al_X1, rfl, tyX1_ok, nmX1, ay_X1⟩
  | 2, _ => exact ⟨(RX2, TX2, 1), tyX2, rfl, al_X2, rfl, tyX2_ok, nmX2, ay_X2⟩
  | 3, _ => exact ⟨(RX3, TX3, 4), tyX3, rfl, al_X3, rfl, tyX3_ok, nmX3, ay_X3⟩
  | 4, _ => exact ⟨(RX4, TX4, 6), tyX4, rfl, al_X4, rfl, tyX4_ok, nmX4, ay_X4⟩
  | 5, _ => exact ⟨(RX5, TX5, 4), tyX5, rfl, al_X5, rfl, tyX5_ok, nmX5, ay_X5⟩
  | 6, _ => exact ⟨(RX6, TX6, 3), tyX6, rfl, al_X6, rfl, tyX6_ok, nmX6, ay_X6⟩
  | 7, _ => exact ⟨(RX7, TX7, 3), tyX7, rfl, al_X7, rfl, tyX7_ok, nmX7, ay_X7⟩
  | 8, _ => exact ⟨(RX8, TX8, 10), tyX8, rfl, al_X8, rfl, tyX8_ok, nmX8, ay_X8⟩
  | 9, _ => exact ⟨(RX9, TX9, 10), tyX9, rfl, al_X9, rfl, tyX9_ok, nmX9, ay_X9⟩
  | 10, _ => exact ⟨(RX10, TX10, 4), tyX10, rfl, al_X10, rfl, tyX10_ok, nmX10, ay_X10⟩
  | 11, _ => exact ⟨(RX11, TX11, 20), tyX11, rfl, al_X11, rfl, tyX11_ok, nmX11, ay_X11⟩
  | 12, _ => exact ⟨(RX12, TX12, 50), tyX12, rfl, al_X12, rfl, tyX12_ok, nmX12, ay_X12⟩
  | c + 13, h => exact absurd h (by omega)
theorem ax_Y : Cond.native arraycopyName ∈ ax_tb ∧ Cond.static arraycopyName ∈ ax_tb ∧ Cond.initialized "java/lang/System" ∈ ax_tb := ⟨ax_memi (ws := [Cond.native arraycopyName]) [495] rfl (by decide +kernel) _ List.mem_cons_self, ax_memi (ws := [Cond.static arraycopyName]) [494] rfl (by decide +kernel) _ List.mem_cons_self, ax_memi (ws := [Cond.initialized "java/lang/System"]) [116] rfl (by decide +kernel) _ List.mem_cons_self⟩
def ao_X0_0 : List AM := [ma_X0_digitOf, ma_X0_kindOf, ma_X0_readFrom, ma_X0_readStep, ma_X0_steps]
set_option maxRecDepth 20000 in
theorem ac_X0_0 : ∀ w ∈ ao_X0_0.map (fun k => Cond.code k.2.1 k.2.2.1 k.2.2.2.1 k.2.2.2.2.1), w ∈ ax_tb := ax_memi [1049, 1045, 733, 738, 1040] rfl (by decide +kernel)
theorem ai_X0 : Cond.initialized RX0 ∈ ax_tb := ax_memi (ws := [Cond.initialized RX0]) [114] rfl (by decide +kernel) _ List.mem_cons_self
theorem ok_X0_digitOf : ax_ok ma_X0_digitOf := ⟨List.mem_of_getElem? (i := 0) rfl, rfl, fun h => absurd h (by decide), ac_X0_0 _ (List.mem_map.mpr ⟨ma_X0_digitOf, List.mem_of_getElem? (i := 0) rfl, rfl⟩), ai_X0, by decide⟩
theorem ok_X0_kindOf : ax_ok ma_X0_kindOf := ⟨List.mem_of_getElem? (i := 0) rfl, rfl, fun h => absurd h (by decide), ac_X0_0 _ (List.mem_map.mpr ⟨ma_X0_kindOf, List.mem_of_getElem? (i := 1) rfl, rfl⟩), ai_X0, by decide⟩
theorem ok_X0_readFrom : ax_ok ma_X0_readFrom := ⟨List.mem_of_getElem? (i := 0) rfl, rfl, fun h => absurd h (by decide), ac_X0_0 _ (List.mem_map.mpr ⟨ma_X0_readFrom, List.mem_of_getElem? (i := 2) rfl, rfl⟩), ai_X0, by decide⟩
theorem ok_X0_readStep : ax_ok ma_X0_readStep := ⟨List.mem_of_getElem? (i := 0) rfl, rfl, fun h => absurd h (by decide), ac_X0_0 _ (List.mem_map.mpr ⟨ma_X0_readStep, List.mem_of_getElem? (i := 3) rfl, rfl⟩), ai_X0, by decide⟩
theorem ok_X0_steps : ax_ok ma_X0_steps := ⟨List.mem_of_getElem? (i := 0) rfl, rfl, fun h => absurd h (by decide), ac_X0_0 _ (List.mem_map.mpr ⟨ma_X0_steps, List.mem_of_getElem? (i := 4) rfl, rfl⟩), ai_X0, by decide⟩
def ao_X1_0 : List AM := [ma_X1_draw, ma_X1_partOf, ma_X1_split, ma_X1_startFrom]
set_option maxRecDepth 20000 in
theorem ac_X1_0 : ∀ w ∈ ao_X1_0.map (fun k => Cond.code k.2.1 k.2.2.1 k.2.2.2.1 k.2.2.2.2.1), w ∈ ax_tb := ax_memi [997, 1230, 1220, 989] rfl (by decide +kernel)
theorem ai_X1 : Cond.initialized RX1 ∈ ax_tb := ax_memi (ws := [Cond.initialized RX1]) [111] rfl (by decide +kernel) _ List.mem_cons_self
theorem ok_X1_draw : ax_ok ma_X1_draw := ⟨List.mem_of_getElem? (i := 1) rfl, rfl, fun h => absurd h (by decide), ac_X1_0 _ (List.mem_map.mpr ⟨ma_X1_draw, List.mem_of_getElem? (i := 0) rfl, rfl⟩), ai_X1, by decide⟩
theorem ok_X1_partOf : ax_ok ma_X1_partOf := ⟨List.mem_of_getElem? (i := 1) rfl, rfl, fun h => absurd h (by decide), ac_X1_0 _ (List.mem_map.mpr ⟨ma_X1_partOf, List.mem_of_getElem? (i := 1) rfl, rfl⟩), ai_X1, by decide⟩
theorem ok_X1_split : ax_ok ma_X1_split := ⟨List.mem_of_getElem? (i := 1) rfl, rfl, fun h => absurd h (by decide), ac_X1_0 _ (List.mem_map.mpr ⟨ma_X1_split, List.mem_of_getElem? (i := 2) rfl, rfl⟩), ai_X1, by decide⟩
theorem ok_X1_startFrom : ax_ok ma_X1_startFrom := ⟨List.mem_of_getElem? (i := 1) rfl, rfl, fun h => absurd h (by decide), ac_X1_0 _ (List.mem_map.mpr ⟨ma_X1_startFrom, List.mem_of_getElem? (i := 3) rfl, rfl⟩), ai_X1, by decide⟩
def ao_X2_0 : List AM := [ma_X2_copyFrom, ma_X2_lengthOn, ma_X2_read, ma_X2_write]
set_option maxRecDepth 20000 in
theorem ac_X2_0 : ∀ w ∈ ao_X2_0.map (fun k => Cond.code k.2.1 k.2.2.1 k.2.2.2.1 k.2.2.2.2.1), w ∈ ax_tb := ax_memi [1296, 1023, 1028, 927] rfl (by decide +kernel)
theorem ai_X2 : Cond.initialized RX2 ∈ ax_tb := ax_memi (ws := [Cond.initialized RX2]) [107] rfl (by decide +kernel) _ List.mem_cons_self
theorem ok_X2_copyFrom : ax_ok ma_X2_copyFrom := ⟨List.mem_of_getElem? (i := 2) rfl, rfl, fun h => absurd h (by decide), ac_X2_0 _ (List.mem_map.mpr ⟨ma_X2_copyFrom, List.mem_of_getElem? (i := 0) rfl, rfl⟩), ai_X2, by decide⟩
theorem ok_X2_lengthOn : ax_ok ma_X2_lengthOn := ⟨List.mem_of_getElem? (i := 2) rfl, rfl, fun h => absurd h (by decide), ac_X2_0 _ (List.mem_map.mpr ⟨ma_X2_lengthOn, List.mem_of_getElem? (i := 1) rfl, rfl⟩), ai_X2, by decide⟩
theorem ok_X2_read : ax_ok ma_X2_read := ⟨List.mem_of_getElem? (i := 2) rfl, rfl, fun h => absurd h (by decide), ac_X2_0 _ (List.mem_map.mpr ⟨ma_X2_read, List.mem_of_getElem? (i := 2) rfl, rfl⟩), ai_X2, by decide⟩
theorem ok_X2_write : ax_ok ma_X2_write := ⟨List.mem_of_getElem? (i := 2) rfl, rfl, fun h => absurd h (by decide), ac_X2_0 _ (List.mem_map.mpr ⟨ma_X2_write, List.mem_of_getElem? (i := 3) rfl, rfl⟩), ai_X2, by decide⟩
def ao_X3_0 : List AM := [ma_X3_add, ma_X3_fits, ma_X3_forget, ma_X3_size]
set_option maxRecDepth 20000 in
theorem ac_X3_0 : ∀ w ∈ ao_X3_0.map (fun k => Cond.code k.2.1 k.2.2.1 k.2.2.2.1 k.2.2.2.2.1), w ∈ ax_tb := ax_memi [1135, 1155, 784, 1139] rfl (by decide +kernel)
theorem ai_X3 : Cond.initialized RX3 ∈ ax_tb := ax_memi (ws := [Cond.initialized RX3]) [108] rfl (by decide +kernel) _ List.mem_cons_self
theorem ok_X3_add : ax_ok ma_X3_add := ⟨List.mem_of_getElem? (i := 3) rfl, rfl, fun h => absurd h (by decide), ac_X3_0 _ (List.mem_map.mpr ⟨ma_X3_add, List.mem_of_getElem? (i := 0) rfl, rfl⟩), ai_X3, by decide⟩
theorem ok_X3_fits : ax_ok ma_X3_fits := ⟨List.mem_of_getElem? (i := 3) rfl, rfl, fun h => absurd h (by decide), ac_X3_0 _ (List.mem_map.mpr ⟨ma_X3_fits, List.mem_of_getElem? (i := 1) rfl, rfl⟩), ai_X3, by decide⟩
theorem ok_X3_forget : ax_ok ma_X3_forget := ⟨List.mem_of_getElem? (i := 3) rfl, rfl, fun h => absurd h (by decide), ac_X3_0 _ (List.mem_map.mpr ⟨ma_X3_forget, List.mem_of_getElem? (i := 2) rfl, rfl⟩), ai_X3, by decide⟩
theorem ok_X3_size : ax_ok ma_X3_size := ⟨List.mem_of_getElem? (i := 3) rfl, rfl, fun h => absurd h (by decide), ac_X3_0 _ (List.mem_map.mpr ⟨ma_X3_size, List.mem_of_getElem? (i := 3) rfl, rfl⟩), ai_X3, by decide⟩
def ao_X4_0 : List AM := [ma_X4_beats, ma_X4_callers, ma_X4_coins, ma_X4_hardBeats, ma_X4_isWhole, ma_X4_lodgerItem, ma_X4_lodgers, ma_X4_patienceOf, ma_X4_readCaller, ma_X4_readClause, ma_X4_readFrom, ma_X4_readItems, ma_X4_readLodger, ma_X4_readRules, ma_X4_ruleOf, ma_X4_traitOf, ma_X4_wantsOf]
set_option maxRecDepth 20000 in
theorem ac_X4_0 : ∀ w ∈ ao_X4_0.map (fun k => Cond.code k.2.1 k.2.2.1 k.2.2.2.1 k.2.2.2.2.1), w ∈ ax_tb := ax_memi [913, 788, 775, 884, 671, 820, 812, 824, 650, 503, 490, 527, 639, 511, 800, 675, 816] rfl (by decide +kernel)
theorem ai_X4 : Cond.initialized RX4 ∈ ax_tb := ax_memi (ws := [Cond.initialized RX4]) [112] rfl (by decide +kernel) _ List.mem_cons_self
theorem ok_X4_beats : ax_ok ma_X4_beats := ⟨List.mem_of_getElem? (i := 4) rfl, rfl, fun h => absurd h (by decide), ac_X4_0 _ (List.mem_map.mpr ⟨ma_X4_beats, List.mem_of_getElem? (i := 0) rfl, rfl⟩), ai_X4, by decide⟩
theorem ok_X4_callers : ax_ok ma_X4_callers := ⟨List.mem_of_getElem? (i := 4) rfl, rfl, fun h => absurd h (by decide), ac_X4_0 _ (List.mem_map.mpr ⟨ma_X4_callers, List.mem_of_getElem? (i := 1) rfl, rfl⟩), ai_X4, by decide⟩
theorem ok_X4_coins : ax_ok ma_X4_coins := ⟨List.mem_of_getElem? (i := 4) rfl, rfl, fun h => absurd h (by decide), ac_X4_0 _ (List.mem_map.mpr ⟨ma_X4_coins, List.mem_of_getElem? (i := 2) rfl, rfl⟩), ai_X4, by decide⟩
theorem ok_X4_hardBeats : ax_ok ma_X4_hardBeats := ⟨List.mem_of_getElem? (i := 4) rfl, rfl, fun h => absurd h (by decide), ac_X4_0 _ (List.mem_map.mpr ⟨ma_X4_hardBeats, List.mem_of_getElem? (i := 3) rfl, rfl⟩), ai_X4, by decide⟩
theorem ok_X4_isWhole : ax_ok ma_X4_isWhole := ⟨List.mem_of_getElem? (i := 4) rfl, rfl, fun h => absurd h (by decide), ac_X4_0 _ (List.mem_map.mpr ⟨ma_X4_isWhole, List.mem_of_getElem? (i := 4) rfl, rfl⟩), ai_X4, by decide⟩
theorem ok_X4_lodgerItem : ax_ok ma_X4_lodgerItem := ⟨List.mem_of_getElem? (i := 4) rfl, rfl, fun h => absurd h (by decide), ac_X4_0 _ (List.mem_map.mpr ⟨ma_X4_lodgerItem, List.mem_of_getElem? (i := 5) rfl, rfl⟩), ai_X4, by decide⟩
theorem ok_X4_lodgers : ax_ok ma_X4_lodgers := ⟨List.mem_of_getElem? (i := 4) rfl, rfl, fun h => absurd h (by decide), ac_X4_0 _ (List.mem_map.mpr ⟨ma_X4_lodgers, List.mem_of_getElem? (i := 6) rfl, rfl⟩), ai_X4, by decide⟩
theorem ok_X4_patienceOf : ax_ok ma_X4_patienceOf := ⟨List.mem_of_getElem? (i := 4) rfl, rfl, fun h => absurd h (by decide), ac_X4_0 _ (List.mem_map.mpr ⟨ma_X4_patienceOf, List.mem_of_getElem? (i := 7) rfl, rfl⟩), ai_X4, by decide⟩
theorem ok_X4_readCaller : ax_ok ma_X4_readCaller := ⟨List.mem_of_getElem? (i := 4) rfl, rfl, fun h => absurd h (by decide), ac_X4_0 _ (List.mem_map.mpr ⟨ma_X4_readCaller, List.mem_of_getElem? (i := 8) rfl, rfl⟩), ai_X4, by decide⟩
theorem ok_X4_readClause : ax_ok ma_X4_readClause := ⟨List.mem_of_getElem? (i := 4) rfl, rfl, fun h => absurd h (by decide), ac_X4_0 _ (List.mem_map.mpr ⟨ma_X4_readClause, List.mem_of_getElem? (i := 9) rfl, rfl⟩), ai_X4, by decide⟩
theorem ok_X4_readFrom : ax_ok ma_X4_readFrom := ⟨List.mem_of_getElem? (i := 4) rfl, rfl, fun h => absurd h (by decide), ac_X4_0 _ (List.mem_map.mpr ⟨ma_X4_readFrom, List.mem_of_getElem? (i := 10) rfl, rfl⟩), ai_X4, by decide⟩
theorem ok_X4_readItems : ax_ok ma_X4_readItems := ⟨List.mem_of_getElem? (i := 4) rfl, rfl, fun h => absurd h (by decide), ac_X4_0 _ (List.mem_map.mpr ⟨ma_X4_readItems, List.mem_of_getElem? (i := 11) rfl, rfl⟩), ai_X4, by decide⟩
theorem ok_X4_readLodger : ax_ok ma_X4_readLodger := ⟨List.mem_of_getElem? (i := 4) rfl, rfl, fun h => absurd h (by decide), ac_X4_0 _ (List.mem_map.mpr ⟨ma_X4_readLodger, List.mem_of_getElem? (i := 12) rfl, rfl⟩), ai_X4, by decide⟩
theorem ok_X4_readRules : ax_ok ma_X4_readRules := ⟨List.mem_of_getElem? (i := 4) rfl, rfl, fun h => absurd h (by decide), ac_X4_0 _ (List.mem_map.mpr ⟨ma_X4_readRules, List.mem_of_getElem? (i := 13) rfl, rfl⟩), ai_X4, by decide⟩
theorem ok_X4_ruleOf : ax_ok ma_X4_ruleOf := ⟨List.mem_of_getElem? (i := 4) rfl, rfl, fun h => absurd h (by decide), ac_X4_0 _ (List.mem_map.mpr ⟨ma_X4_ruleOf, List.mem_of_getElem? (i := 14) rfl, rfl⟩), ai_X4, by decide⟩
theorem ok_X4_traitOf : ax_ok ma_X4_traitOf := ⟨List.mem_of_getElem? (i := 4) rfl, rfl, fun h => absurd h (by decide), ac_X4_0 _ (List.mem_map.mpr ⟨ma_X4_traitOf, List.mem_of_getElem? (i := 15) rfl, rfl⟩), ai_X4, by decide⟩
theorem ok_X4_wantsOf : ax_ok ma_X4_wantsOf := ⟨List.mem_of_getElem? (i := 4) rfl, rfl, fun h => absurd h (by decide), ac_X4_0 _ (List.mem_map.mpr ⟨ma_X4_wantsOf, List.mem_of_getElem? (i := 16) rfl, rfl⟩), ai_X4, by decide⟩
def ao_X5_0 : List AM := [ma_X5_emit, ma_X5_joined, ma_X5_pop, ma_X5_push, ma_X5_readAtom, ma_X5_readClause, ma_X5_readCondition, ma_X5_readFrom, ma_X5_readSum, ma_X5_readTerm, ma_X5_readTruth, ma_X5_readUnit, ma_X5_relationOf, ma_X5_worth]
set_option maxRecDepth 20000 in
theorem ac_X5_0 : ∀ w ∈ ao_X5_0.map (fun k => Cond.code k.2.1 k.2.2.1 k.2.2.2.1 k.2.2.2.2.1), w ∈ ax_tb := ax_memi [709, 903, 892, 896, 702, 688, 719, 683, 694, 698, 723, 727, 715, 888] rfl (by decide +kernel)
theorem ai_X5 : Cond.initialized RX5 ∈ ax_tb := ax_memi (ws := [Cond.initialized RX5]) [113] rfl (by decide +kernel) _ List.mem_cons_self
theorem ok_X5_emit : ax_ok ma_X5_emit := ⟨List.mem_of_getElem? (i := 5) rfl, rfl, fun h => absurd h (by decide), ac_X5_0 _ (List.mem_map.mpr ⟨ma_X5_emit, List.mem_of_getElem? (i := 0) rfl, rfl⟩), ai_X5, by decide⟩
theorem ok_X5_joined : ax_ok ma_X5_joined := ⟨List.mem_of_getElem? (i := 5) rfl, rfl, fun h => absurd h (by decide), ac_X5_0 _ (List.mem_map.mpr ⟨ma_X5_joined, List.mem_of_getElem? (i := 1) rfl, rfl⟩), ai_X5, by decide⟩
theorem ok_X5_pop : ax_ok ma_X5_pop := ⟨List.mem_of_getElem? (i := 5) rfl, rfl, fun h => absurd h (by decide), ac_X5_0 _ (List.mem_map.mpr ⟨ma_X5_pop, List.mem_of_getElem? (i := 2) rfl, rfl⟩), ai_X5, by decide⟩
theorem ok_X5_push : ax_ok ma_X5_push := ⟨List.mem_of_getElem? (i := 5) rfl, rfl, fun h => absurd h (by decide), ac_X5_0 _ (List.mem_map.mpr ⟨ma_X5_push, List.mem_of_getElem? (i := 3) rfl, rfl⟩), ai_X5, by decide⟩
theorem ok_X5_readAtom : ax_ok ma_X5_readAtom := ⟨List.mem_of_getElem? (i := 5) rfl, rfl, fun h => absurd h (by decide), ac_X5_0 _ (List.mem_map.mpr ⟨ma_X5_readAtom, List.mem_of_getElem? (i := 4) rfl, rfl⟩), ai_X5, by decide⟩
theorem ok_X5_readClause : ax_ok ma_X5_readClause := ⟨List.mem_of_getElem? (i := 5) rfl, rfl, fun h => absurd h (by decide), ac_X5_0 _ (List.mem_map.mpr ⟨ma_X5_readClause, List.mem_of_getElem? (i := 5) rfl, rfl⟩), ai_X5, by decide⟩
theorem ok_X5_readCondition : ax_ok ma_X5_readCondition := ⟨List.mem_of_getElem? (i := 5) rfl, rfl, fun h => absurd h (by decide), ac_X5_0 _ (List.mem_map.mpr ⟨ma_X5_readCondition, List.mem_of_getElem? (i := 6) rfl, rfl⟩), ai_X5, by decide⟩
theorem ok_X5_readFrom : ax_ok ma_X5_readFrom := ⟨List.mem_of_getElem? (i := 5) rfl, rfl, fun h => absurd h (by decide), ac_X5_0 _ (List.mem_map.mpr ⟨ma_X5_readFrom, List.mem_of_getElem? (i := 7) rfl, rfl⟩), ai_X5, by decide⟩
theorem ok_X5_readSum : ax_ok ma_X5_readSum := ⟨List.mem_of_getElem? (i := 5) rfl, rfl, fun h => absurd h (by decide), ac_X5_0 _ (List.mem_map.mpr ⟨ma_X5_readSum, List.mem_of_getElem? (i := 8) rfl, rfl⟩), ai_X5, by decide⟩
theorem ok_X5_readTerm : ax_ok ma_X5_readTerm := ⟨List.mem_of_getElem? (i := 5) rfl, rfl, fun h => absurd h (by decide), ac_X5_0 _ (List.mem_map.mpr ⟨ma_X5_readTerm, List.mem_of_getElem? (i := 9) rfl, rfl⟩), ai_X5, by decide⟩
theorem ok_X5_readTruth : ax_ok ma_X5_readTruth := ⟨List.mem_of_getElem? (i := 5) rfl, rfl, fun h => absurd h (by decide), ac_X5_0 _ (List.mem_map.mpr ⟨ma_X5_readTruth, List.mem_of_getElem? (i := 10) rfl, rfl⟩), ai_X5, by decide⟩
theorem ok_X5_readUnit : ax_ok ma_X5_readUnit := ⟨List.mem_of_getElem? (i := 5) rfl, rfl, fun h => absurd h (by decide), ac_X5_0 _ (List.mem_map.mpr ⟨ma_X5_readUnit, List.mem_of_getElem? (i := 11) rfl, rfl⟩), ai_X5, by decide⟩
theorem ok_X5_relationOf : ax_ok ma_X5_relationOf := ⟨List.mem_of_getElem? (i := 5) rfl, rfl, fun h => absurd h (by decide), ac_X5_0 _ (List.mem_map.mpr ⟨ma_X5_relationOf, List.mem_of_getElem? (i := 12) rfl, rfl⟩), ai_X5, by decide⟩
theorem ok_X5_worth : ax_ok ma_X5_worth := ⟨List.mem_of_getElem? (i := 5) rfl, rfl, fun h => absurd h (by decide), ac_X5_0 _ (List.mem_map.mpr ⟨ma_X5_worth, List.mem_of_getElem? (i := 13) rfl, rfl⟩), ai_X5, by decide⟩
def ao_X6_0 : List AM := [ma_X6_beats, ma_X6_beatsHard, ma_X6_beatsHeard, ma_X6_beatsLeft, ma_X6_beatsNow, ma_X6_beatsSung, ma_X6_beatsTired, ma_X6_beatsTitled, ma_X6_carryOut, ma_X6_doneBy, ma_X6_gainOf, ma_X6_hardsOf, ma_X6_may, ma_X6_mayAnnounce, ma_X6_putOnMat, ma_X6_useHouse, ma_X6_useLaw]
set_option maxRecDepth 20000 in
theorem ac_X6_0 : ∀ w ∈ ao_X6_0.map (fun k => Cond.code k.2.1 k.2.2.1 k.2.2.2.1 k.2.2.2.2.1), w ∈ ax_tb := ax_memi [880, 1226, 1151, 909, 868, 1284, 1090, 1120, 934, 946, 950, 872, 852, 857, 938, 763, 836] rfl (by decide +kernel)
theorem ai_X6 : Cond.initialized RX6 ∈ ax_tb := ax_memi (ws := [Cond.initialized RX6]) [105] rfl (by decide +kernel) _ List.mem_cons_self
theorem ok_X6_beats : ax_ok ma_X6_beats := ⟨List.mem_of_getElem? (i := 6) rfl, rfl, fun h => absurd h (by decide), ac_X6_0 _ (List.mem_map.mpr ⟨ma_X6_beats, List.mem_of_getElem? (i := 0) rfl, rfl⟩), ai_X6, by decide⟩
theorem ok_X6_beatsHard : ax_ok ma_X6_beatsHard := ⟨List.mem_of_getElem? (i := 6) rfl, rfl, fun h => absurd h (by decide), ac_X6_0 _ (List.mem_map.mpr ⟨ma_X6_beatsHard, List.mem_of_getElem? (i := 1) rfl, rfl⟩), ai_X6, by decide⟩
theorem ok_X6_beatsHeard : ax_ok ma_X6_beatsHeard := ⟨List.mem_of_getElem? (i := 6) rfl, rfl, fun h => absurd h (by decide), ac_X6_0 _ (List.mem_map.mpr ⟨ma_X6_beatsHeard, List.mem_of_getElem? (i := 2) rfl, rfl⟩), ai_X6, by decide⟩
theorem ok_X6_beatsLeft : ax_ok ma_X6_beatsLeft := ⟨List.mem_of_getElem? (i := 6) rfl, rfl, fun h => absurd h (by decide), ac_X6_0 _ (List.mem_map.mpr ⟨ma_X6_beatsLeft, List.mem_of_getElem? (i := 3) rfl, rfl⟩), ai_X6, by decide⟩
theorem ok_X6_beatsNow : ax_ok ma_X6_beatsNow := ⟨List.mem_of_getElem? (i := 6) rfl, rfl, fun h => absurd h (by decide), ac_X6_0 _ (List.mem_map.mpr ⟨ma_X6_beatsNow, List.mem_of_getElem? (i := 4) rfl, rfl⟩), ai_X6, by decide⟩
theorem ok_X6_beatsSung : ax_ok ma_X6_beatsSung := ⟨List.mem_of_getElem? (i := 6) rfl, rfl, fun h => absurd h (by decide), ac_X6_0 _ (List.mem_map.mpr ⟨ma_X6_beatsSung, List.mem_of_getElem? (i := 5) rfl, rfl⟩), ai_X6, by decide⟩
theorem ok_X6_beatsTired : ax_ok ma_X6_beatsTired := ⟨List.mem_of_getElem? (i := 6) rfl, rfl, fun h => absurd h (by decide), ac_X6_0 _ (List.mem_map.mpr ⟨ma_X6_beatsTired, List.mem_of_getElem? (i := 6) rfl, rfl⟩), ai_X6, by decide⟩
theorem ok_X6_beatsTitled : ax_ok ma_X6_beatsTitled := ⟨List.mem_of_getElem? (i := 6) rfl, rfl, fun h => absurd h (by decide), ac_X6_0 _ (List.mem_map.mpr ⟨ma_X6_beatsTitled, List.mem_of_getElem? (i := 7) rfl, rfl⟩), ai_X6, by decide⟩
theorem ok_X6_carryOut : ax_ok ma_X6_carryOut := ⟨List.mem_of_getElem? (i := 6) rfl, rfl, fun h => absurd h (by decide), ac_X6_0 _ (List.mem_map.mpr ⟨ma_X6_carryOut, List.mem_of_getElem? (i := 8) rfl, rfl⟩), ai_X6, by decide⟩
theorem ok_X6_doneBy : ax_ok ma_X6_doneBy := ⟨List.mem_of_getElem? (i := 6) rfl, rfl, fun h => absurd h (by decide), ac_X6_0 _ (List.mem_map.mpr ⟨ma_X6_doneBy, List.mem_of_getElem? (i := 9) rfl, rfl⟩), ai_X6, by decide⟩
theorem ok_X6_gainOf : ax_ok ma_X6_gainOf := ⟨List.mem_of_getElem? (i := 6) rfl, rfl, fun h => absurd h (by decide), ac_X6_0 _ (List.mem_map.mpr ⟨ma_X6_gainOf, List.mem_of_getElem? (i := 10) rfl, rfl⟩), ai_X6, by decide⟩
theorem ok_X6_hardsOf : ax_ok ma_X6_hardsOf := ⟨List.mem_of_getElem? (i := 6) rfl, rfl, fun h => absurd h (by decide), ac_X6_0 _ (List.mem_map.mpr ⟨ma_X6_hardsOf, List.mem_of_getElem? (i := 11) rfl, rfl⟩), ai_X6, by decide⟩
theorem ok_X6_may : ax_ok ma_X6_may := ⟨List.mem_of_getElem? (i := 6) rfl, rfl, fun h => absurd h (by decide), ac_X6_0 _ (List.mem_map.mpr ⟨ma_X6_may, List.mem_of_getElem? (i := 12) rfl, rfl⟩), ai_X6, by decide⟩
theorem ok_X6_mayAnnounce : ax_ok ma_X6_mayAnnounce := ⟨List.mem_of_getElem? (i := 6) rfl, rfl, fun h => absurd h (by decide), ac_X6_0 _ (List.mem_map.mpr ⟨ma_X6_mayAnnounce, List.mem_of_getElem? (i := 13) rfl, rfl⟩), ai_X6, by decide⟩
theorem ok_X6_putOnMat : ax_ok ma_X6_putOnMat := ⟨List.mem_of_getElem? (i := 6) rfl, rfl, fun h => absurd h (by decide), ac_X6_0 _ (List.mem_map.mpr ⟨ma_X6_putOnMat, List.mem_of_getElem? (i := 14) rfl, rfl⟩), ai_X6, by decide⟩
theorem ok_X6_useHouse : ax_ok ma_X6_useHouse := ⟨List.mem_of_getElem? (i := 6) rfl, rfl, fun h => absurd h (by decide), ac_X6_0 _ (List.mem_map.mpr ⟨ma_X6_useHouse, List.mem_of_getElem? (i := 15) rfl, rfl⟩), ai_X6, by decide⟩
theorem ok_X6_useLaw : ax_ok ma_X6_useLaw := ⟨List.mem_of_getElem? (i := 6) rfl, rfl, fun h => absurd h (by decide), ac_X6_0 _ (List.mem_map.mpr ⟨ma_X6_useLaw, List.mem_of_getElem? (i := 16) rfl, rfl⟩), ai_X6, by decide⟩
def ao_X7_0 : List AM := [ma_X7_bringBack, ma_X7_forget, ma_X7_remember, ma_X7_size]
set_option maxRecDepth 20000 in
theorem ac_X7_0 : ∀ w ∈ ao_X7_0.map (fun k => Cond.code k.2.1 k.2.2.1 k.2.2.2.1 k.2.2.2.2.1), w ∈ ax_tb := ax_memi [1008, 780, 917, 1016] rfl (by decide +kernel)
theorem ai_X7 : Cond.initialized RX7 ∈ ax_tb := ax_memi (ws := [Cond.initialized RX7]) [106] rfl (by decide +kernel) _ List.mem_cons_self
theorem ok_X7_bringBack : ax_ok ma_X7_bringBack := ⟨List.mem_of_getElem? (i := 7) rfl, rfl, fun h => absurd h (by decide), ac_X7_0 _ (List.mem_map.mpr ⟨ma_X7_bringBack, List.mem_of_getElem? (i := 0) rfl, rfl⟩), ai_X7, by decide⟩
theorem ok_X7_forget : ax_ok ma_X7_forget := ⟨List.mem_of_getElem? (i := 7) rfl, rfl, fun h => absurd h (by decide), ac_X7_0 _ (List.mem_map.mpr ⟨ma_X7_forget, List.mem_of_getElem? (i := 1) rfl, rfl⟩), ai_X7, by decide⟩
theorem ok_X7_remember : ax_ok ma_X7_remember := ⟨List.mem_of_getElem? (i := 7) rfl, rfl, fun h => absurd h (by decide), ac_X7_0 _ (List.mem_map.mpr ⟨ma_X7_remember, List.mem_of_getElem? (i := 2) rfl, rfl⟩), ai_X7, by decide⟩
theorem ok_X7_size : ax_ok ma_X7_size := ⟨List.mem_of_getElem? (i := 7) rfl, rfl, fun h => absurd h (by decide), ac_X7_0 _ (List.mem_map.mpr ⟨ma_X7_size, List.mem_of_getElem? (i := 3) rfl, rfl⟩), ai_X7, by decide⟩
def ao_X8_0 : List AM := [ma_X8_bestClock, ma_X8_bestGain, ma_X8_bestRow, ma_X8_extend, ma_X8_find, ma_X8_isBetter]
set_option maxRecDepth 20000 in
theorem ac_X8_0 : ∀ w ∈ ao_X8_0.map (fun k => Cond.code k.2.1 k.2.2.1 k.2.2.2.1 k.2.2.2.2.1), w ∈ ax_tb := ax_memi [1112, 1108, 1104, 1096, 1079, 1100] rfl (by decide +kernel)
theorem ai_X8 : Cond.initialized RX8 ∈ ax_tb := ax_memi (ws := [Cond.initialized RX8]) [109] rfl (by decide +kernel) _ List.mem_cons_self
theorem ok_X8_bestClock : ax_ok ma_X8_bestClock := ⟨List.mem_of_getElem? (i := 8) rfl, rfl, fun h => absurd h (by decide), ac_X8_0 _ (List.mem_map.mpr ⟨ma_X8_bestClock, List.mem_of_getElem? (i := 0) rfl, rfl⟩), ai_X8, by decide⟩
theorem ok_X8_bestGain : ax_ok ma_X8_bestGain := ⟨List.mem_of_getElem? (i := 8) rfl, rfl, fun h => absurd h (by decide), ac_X8_0 _ (List.mem_map.mpr ⟨ma_X8_bestGain, List.mem_of_getElem? (i := 1) rfl, rfl⟩), ai_X8, by decide⟩
theorem ok_X8_bestRow : ax_ok ma_X8_bestRow := ⟨List.mem_of_getElem? (i := 8) rfl, rfl, fun h => absurd h (by decide), ac_X8_0 _ (List.mem_map.mpr ⟨ma_X8_bestRow, List.mem_of_getElem? (i := 2) rfl, rfl⟩), ai_X8, by decide⟩
theorem ok_X8_extend : ax_ok ma_X8_extend := ⟨List.mem_of_getElem? (i := 8) rfl, rfl, fun h => absurd h (by decide), ac_X8_0 _ (List.mem_map.mpr ⟨ma_X8_extend, List.mem_of_getElem? (i := 3) rfl, rfl⟩), ai_X8, by decide⟩
theorem ok_X8_find : ax_ok ma_X8_find := ⟨List.mem_of_getElem? (i := 8) rfl, rfl, fun h => absurd h (by decide), ac_X8_0 _ (List.mem_map.mpr ⟨ma_X8_find, List.mem_of_getElem? (i := 4) rfl, rfl⟩), ai_X8, by decide⟩
theorem ok_X8_isBetter : ax_ok ma_X8_isBetter := ⟨List.mem_of_getElem? (i := 8) rfl, rfl, fun h => absurd h (by decide), ac_X8_0 _ (List.mem_map.mpr ⟨ma_X8_isBetter, List.mem_of_getElem? (i := 5) rfl, rfl⟩), ai_X8, by decide⟩
def ao_X9_0 : List AM := [ma_X9_copyFrom, ma_X9_loadFrom, ma_X9_receive, ma_X9_receivedBy, ma_X9_saveTo, ma_X9_setTitles, ma_X9_startDay, ma_X9_startIn, ma_X9_titlesOf, ma_X9_wasAnnounced]
set_option maxRecDepth 20000 in
theorem ac_X9_0 : ∀ w ∈ ao_X9_0.map (fun k => Cond.code k.2.1 k.2.2.1 k.2.2.2.1 k.2.2.2.2.1), w ∈ ax_tb := ax_memi [1057, 1012, 942, 828, 921, 955, 771, 767, 876, 862] rfl (by decide +kernel)
theorem ai_X9 : Cond.initialized RX9 ∈ ax_tb := ax_memi (ws := [Cond.initialized RX9]) [110] rfl (by decide +kernel) _ List.mem_cons_self
theorem ok_X9_copyFrom : ax_ok ma_X9_copyFrom := ⟨List.mem_of_getElem? (i := 9) rfl, rfl, fun h => absurd h (by decide), ac_X9_0 _ (List.mem_map.mpr ⟨ma_X9_copyFrom, List.mem_of_getElem? (i := 0) rfl, rfl⟩), ai_X9, by decide⟩
theorem ok_X9_loadFrom : ax_ok ma_X9_loadFrom := ⟨List.mem_of_getElem? (i := 9) rfl, rfl, fun h => absurd h (by decide), ac_X9_0 _ (List.mem_map.mpr ⟨ma_X9_loadFrom, List.mem_of_getElem? (i := 1) rfl, rfl⟩), ai_X9, by decide⟩
theorem ok_X9_receive : ax_ok ma_X9_receive := ⟨List.mem_of_getElem? (i := 9) rfl, rfl, fun h => absurd h (by decide), ac_X9_0 _ (List.mem_map.mpr ⟨ma_X9_receive, List.mem_of_getElem? (i := 2) rfl, rfl⟩), ai_X9, by decide⟩
theorem ok_X9_receivedBy : ax_ok ma_X9_receivedBy := ⟨List.mem_of_getElem? (i := 9) rfl, rfl, fun h => absurd h (by decide), ac_X9_0 _ (List.mem_map.mpr ⟨ma_X9_receivedBy, List.mem_of_getElem? (i := 3) rfl, rfl⟩), ai_X9, by decide⟩
theorem ok_X9_saveTo : ax_ok ma_X9_saveTo := ⟨List.mem_of_getElem? (i := 9) rfl, rfl, fun h => absurd h (by decide), ac_X9_0 _ (List.mem_map.mpr ⟨ma_X9_saveTo, List.mem_of_getElem? (i := 4) rfl, rfl⟩), ai_X9, by decide⟩
theorem ok_X9_setTitles : ax_ok ma_X9_setTitles := ⟨List.mem_of_getElem? (i := 9) rfl, rfl, fun h => absurd h (by decide), ac_X9_0 _ (List.mem_map.mpr ⟨ma_X9_setTitles, List.mem_of_getElem? (i := 5) rfl, rfl⟩), ai_X9, by decide⟩
theorem ok_X9_startDay : ax_ok ma_X9_startDay := ⟨List.mem_of_getElem? (i := 9) rfl, rfl, fun h => absurd h (by decide), ac_X9_0 _ (List.mem_map.mpr ⟨ma_X9_startDay, List.mem_of_getElem? (i := 6) rfl, rfl⟩), ai_X9, by decide⟩
theorem ok_X9_startIn : ax_ok ma_X9_startIn := ⟨List.mem_of_getElem? (i := 9) rfl, rfl, fun h => absurd h (by decide), ac_X9_0 _ (List.mem_map.mpr ⟨ma_X9_startIn, List.mem_of_getElem? (i := 7) rfl, rfl⟩), ai_X9, by decide⟩
theorem ok_X9_titlesOf : ax_ok ma_X9_titlesOf := ⟨List.mem_of_getElem? (i := 9) rfl, rfl, fun h => absurd h (by decide), ac_X9_0 _ (List.mem_map.mpr ⟨ma_X9_titlesOf, List.mem_of_getElem? (i := 8) rfl, rfl⟩), ai_X9, by decide⟩
theorem ok_X9_wasAnnounced : ax_ok ma_X9_wasAnnounced := ⟨List.mem_of_getElem? (i := 9) rfl, rfl, fun h => absurd h (by decide), ac_X9_0 _ (List.mem_map.mpr ⟨ma_X9_wasAnnounced, List.mem_of_getElem? (i := 9) rfl, rfl⟩), ai_X9, by decide⟩
def ao_X10_0 : List AM := [ma_X10_cut, ma_X10_demand, ma_X10_digit, ma_X10_fail, ma_X10_failAtLastDigit, ma_X10_failed, ma_X10_faultFound, ma_X10_goesOn, ma_X10_hasRoomFor, ma_X10_here, ma_X10_isDigit, ma_X10_number, ma_X10_pass, ma_X10_peek, ma_X10_put, ma_X10_rewind, ma_X10_signsOf, ma_X10_size]
set_option maxRecDepth 20000 in
theorem ac_X10_0 : ∀ w ∈ ao_X10_0.map (fun k => Cond.code k.2.1 k.2.2.1 k.2.2.2.1 k.2.2.2.2.1), w ∈ ax_tb := ax_memi [482, 665, 747, 515, 635, 631, 679, 661, 466, 627, 622, 618, 519, 507, 470, 499, 462, 474] rfl (by decide +kernel)
theorem ai_X10 : Cond.initialized RX10 ∈ ax_tb := ax_memi (ws := [Cond.initialized RX10]) [104] rfl (by decide +kernel) _ List.mem_cons_self
theorem ok_X10_cut : ax_ok ma_X10_cut := ⟨List.mem_of_getElem? (i := 10) rfl, rfl, fun h => absurd h (by decide), ac_X10_0 _ (List.mem_map.mpr ⟨ma_X10_cut, List.mem_of_getElem? (i := 0) rfl, rfl⟩), ai_X10, by decide⟩
theorem ok_X10_demand : ax_ok ma_X10_demand := ⟨List.mem_of_getElem? (i := 10) rfl, rfl, fun h => absurd h (by decide), ac_X10_0 _ (List.mem_map.mpr ⟨ma_X10_demand, List.mem_of_getElem? (i := 1) rfl, rfl⟩), ai_X10, by decide⟩
theorem ok_X10_digit : ax_ok ma_X10_digit := ⟨List.mem_of_getElem? (i := 10) rfl, rfl, fun h => absurd h (by decide), ac_X10_0 _ (List.mem_map.mpr ⟨ma_X10_digit, List.mem_of_getElem? (i := 2) rfl, rfl⟩), ai_X10, by decide⟩
theorem ok_X10_fail : ax_ok ma_X10_fail := ⟨List.mem_of_getElem? (i := 10) rfl, rfl, fun h => absurd h (by decide), ac_X10_0 _ (List.mem_map.mpr ⟨ma_X10_fail, List.mem_of_getElem? (i := 3) rfl, rfl⟩), ai_X10, by decide⟩
theorem ok_X10_failAtLastDigit : ax_ok ma_X10_failAtLastDigit := ⟨List.mem_of_getElem? (i := 10) rfl, rfl, fun h => absurd h (by decide), ac_X10_0 _ (List.mem_map.mpr ⟨ma_X10_failAtLastDigit, List.mem_of_getElem? (i := 4) rfl, rfl⟩), ai_X10, by decide⟩
theorem ok_X10_failed : ax_ok ma_X10_failed := ⟨List.mem_of_getElem? (i := 10) rfl, rfl, fun h => absurd h (by decide), ac_X10_0 _ (List.mem_map.mpr ⟨ma_X10_failed, List.mem_of_getElem? (i := 5) rfl, rfl⟩), ai_X10, by decide⟩
theorem ok_X10_faultFound : ax_ok ma_X10_faultFound := ⟨List.mem_of_getElem? (i := 10) rfl, rfl, fun h => absurd h (by decide), ac_X10_0 _ (List.mem_map.mpr ⟨ma_X10_faultFound, List.mem_of_getElem? (i := 6) rfl, rfl⟩), ai_X10, by decide⟩
theorem ok_X10_goesOn : ax_ok ma_X10_goesOn := ⟨List.mem_of_getElem? (i := 10) rfl, rfl, fun h => absurd h (by decide), ac_X10_0 _ (List.mem_map.mpr ⟨ma_X10_goesOn, List.mem_of_getElem? (i := 7) rfl, rfl⟩), ai_X10, by decide⟩
theorem ok_X10_hasRoomFor : ax_ok ma_X10_hasRoomFor := ⟨List.mem_of_getElem? (i := 10) rfl, rfl, fun h => absurd h (by decide), ac_X10_0 _ (List.mem_map.mpr ⟨ma_X10_hasRoomFor, List.mem_of_getElem? (i := 8) rfl, rfl⟩), ai_X10, by decide⟩
theorem ok_X10_here : ax_ok ma_X10_here := ⟨List.mem_of_getElem? (i := 10) rfl, rfl, fun h => absurd h (by decide), ac_X10_0 _ (List.mem_map.mpr ⟨ma_X10_here, List.mem_of_getElem? (i := 9) rfl, rfl⟩), ai_X10, by decide⟩
theorem ok_X10_isDigit : ax_ok ma_X10_isDigit := ⟨List.mem_of_getElem? (i := 10) rfl, rfl, fun h => absurd h (by decide), ac_X10_0 _ (List.mem_map.mpr ⟨ma_X10_isDigit, List.mem_of_getElem? (i := 10) rfl, rfl⟩), ai_X10, by decide⟩
theorem ok_X10_number : ax_ok ma_X10_number := ⟨List.mem_of_getElem? (i := 10) rfl, rfl, fun h => absurd h (by decide), ac_X10_0 _ (List.mem_map.mpr ⟨ma_X10_number, List.mem_of_getElem? (i := 11) rfl, rfl⟩), ai_X10, by decide⟩
theorem ok_X10_pass : ax_ok ma_X10_pass := ⟨List.mem_of_getElem? (i := 10) rfl, rfl, fun h => absurd h (by decide), ac_X10_0 _ (List.mem_map.mpr ⟨ma_X10_pass, List.mem_of_getElem? (i := 12) rfl, rfl⟩), ai_X10, by decide⟩
theorem ok_X10_peek : ax_ok ma_X10_peek := ⟨List.mem_of_getElem? (i := 10) rfl, rfl, fun h => absurd h (by decide), ac_X10_0 _ (List.mem_map.mpr ⟨ma_X10_peek, List.mem_of_getElem? (i := 13) rfl, rfl⟩), ai_X10, by decide⟩
theorem ok_X10_put : ax_ok ma_X10_put := ⟨List.mem_of_getElem? (i := 10) rfl, rfl, fun h => absurd h (by decide), ac_X10_0 _ (List.mem_map.mpr ⟨ma_X10_put, List.mem_of_getElem? (i := 14) rfl, rfl⟩), ai_X10, by decide⟩
theorem ok_X10_rewind : ax_ok ma_X10_rewind := ⟨List.mem_of_getElem? (i := 10) rfl, rfl, fun h => absurd h (by decide), ac_X10_0 _ (List.mem_map.mpr ⟨ma_X10_rewind, List.mem_of_getElem? (i := 15) rfl, rfl⟩), ai_X10, by decide⟩
theorem ok_X10_signsOf : ax_ok ma_X10_signsOf := ⟨List.mem_of_getElem? (i := 10) rfl, rfl, fun h => absurd h (by decide), ac_X10_0 _ (List.mem_map.mpr ⟨ma_X10_signsOf, List.mem_of_getElem? (i := 16) rfl, rfl⟩), ai_X10, by decide⟩
theorem ok_X10_size : ax_ok ma_X10_size := ⟨List.mem_of_getElem? (i := 10) rfl, rfl, fun h => absurd h (by decide), ac_X10_0 _ (List.mem_map.mpr ⟨ma_X10_size, List.mem_of_getElem? (i := 17) rfl, rfl⟩), ai_X10, by decide⟩
def ao_X11_0 : List AM := [ma_X11_act, ma_X11_all, ma_X11_allUnlike, ma_X11_announce, ma_X11_apart, ma_X11_ask, ma_X11_back, ma_X11_beatsOfAll, ma_X11_breath, ma_X11_caller, ma_X11_count, ma_X11_day, ma_X11_drop, ma_X11_dueCallers, ma_X11_end, ma_X11_fault, ma_X11_feed, ma_X11_fittingHards, ma_X11_foremost, ma_X11_game, ma_X11_hards, ma_X11_heard, ma_X11_hold, ma_X11_howFarApart, ma_X11_image, ma_X11_isBestAnswer, ma_X11_keenest, ma_X11_law, ma_X11_liveOneDay, ma_X11_lodger, ma_X11_log, ma_X11_mean, ma_X11_moveIn, ma_X11_name, ma_X11_needs, ma_X11_nextInQueue, ma_X11_noHouse, ma_X11_noSuchAfternoon, ma_X11_noSuchCaller, ma_X11_noSuchLodger]
set_option maxRecDepth 20000 in
theorem ac_X11_0 : ∀ w ∈ ao_X11_0.map (fun k => Cond.code k.2.1 k.2.2.1 k.2.2.2.1 k.2.2.2.2.1), w ∈ ax_tb := ax_memi [848, 1239, 1180, 844, 1170, 1159, 1301, 1264, 973, 1313, 1305, 981, 965, 1256, 478, 486, 459, 1147, 1244, 1189, 1143, 1131, 977, 1163, 1292, 1212, 1252, 832, 993, 804, 1020, 1235, 759, 1065, 1116, 1276, 796, 1036, 1069, 808] rfl (by decide +kernel)
def ao_X11_1 : List AM := [ma_X11_noSuchPair, ma_X11_odds, ma_X11_order, ma_X11_outOfBeats, ma_X11_outOfTitles, ma_X11_perform, ma_X11_prize, ma_X11_queue, ma_X11_rank, ma_X11_readyCallers, ma_X11_rests, ma_X11_rule, ma_X11_run, ma_X11_share, ma_X11_sing, ma_X11_soundsOf, ma_X11_span, ma_X11_step, ma_X11_sung, ma_X11_text, ma_X11_timed, ma_X11_title, ma_X11_undo, ma_X11_whim, ma_X11_whose, ma_X11_years]
set_option maxRecDepth 20000 in
theorem ac_X11_1 : ∀ w ∈ ao_X11_1.map (fun k => Cond.code k.2.1 k.2.2.1 k.2.2.2.1 k.2.2.2.2.1), w ∈ ax_tb := ax_memi [1193, 1216, 1075, 1127, 1196, 1061, 1200, 1272, 1248, 1260, 1208, 792, 1053, 1204, 969, 1184, 1288, 1032, 1280, 754, 1124, 960, 1004, 840, 1268, 985] rfl (by decide +kernel)
theorem ai_X11 : Cond.initialized RX11 ∈ ax_tb := ax_memi (ws := [Cond.initialized RX11]) [103] rfl (by decide +kernel) _ List.mem_cons_self
theorem ok_X11_act : ax_ok ma_X11_act := ⟨List.mem_of_getElem? (i := 11) rfl, rfl, fun h => absurd h (by decide), ac_X11_0 _ (List.mem_map.mpr ⟨ma_X11_act, List.mem_of_getElem? (i := 0) rfl, rfl⟩), ai_X11, by decide⟩
theorem ok_X11_all : ax_ok ma_X11_all := ⟨List.mem_of_getElem? (i := 11) rfl, rfl, fun h => absurd h (by decide), ac_X11_0 _ (List.mem_map.mpr ⟨ma_X11_all, List.mem_of_getElem? (i := 1) rfl, rfl⟩), ai_X11, by decide⟩
theorem ok_X11_allUnlike : ax_ok ma_X11_allUnlike := ⟨List.mem_of_getElem? (i := 11) rfl, rfl, fun h => absurd h (by decide), ac_X11_0 _ (List.mem_map.mpr ⟨ma_X11_allUnlike, List.mem_of_getElem? (i := 2) rfl, rfl⟩), ai_X11, by decide⟩
theorem ok_X11_announce : ax_ok ma_X11_announce := ⟨List.mem_of_getElem? (i := 11) rfl, rfl, fun h => absurd h (by decide), ac_X11_0 _ (List.mem_map.mpr ⟨ma_X11_announce, List.mem_of_getElem? (i := 3) rfl, rfl⟩), ai_X11, by decide⟩
theorem ok_X11_apart : ax_ok ma_X11_apart := ⟨List.mem_of_getElem? (i := 11) rfl, rfl, fun h => absurd h (by decide), ac_X11_0 _ (List.mem_map.mpr ⟨ma_X11_apart, List.mem_of_getElem? (i := 4) rfl, rfl⟩), ai_X11, by decide⟩
theorem ok_X11_ask : ax_ok ma_X11_ask := ⟨List.mem_of_getElem? (i := 11) rfl, rfl, fun h => absurd h (by decide), ac_X11_0 _ (List.mem_map.mpr ⟨ma_X11_ask, List.mem_of_getElem? (i := 5) rfl, rfl⟩), ai_X11, by decide⟩
theorem ok_X11_back : ax_ok ma_X11_back := ⟨List.mem_of_getElem? (i := 11) rfl, rfl, fun h => absurd h (by decide), ac_X11_0 _ (List.mem_map.mpr ⟨ma_X11_back, List.mem_of_getElem? (i := 6) rfl, rfl⟩), ai_X11, by decide⟩
theorem ok_X11_beatsOfAll : ax_ok ma_X11_beatsOfAll := ⟨List.mem_of_getElem? (i := 11) rfl, rfl, fun h => absurd h (by decide), ac_X11_0 _ (List.mem_map.mpr ⟨ma_X11_beatsOfAll, List.mem_of_getElem? (i := 7) rfl, rfl⟩), ai_X11, by decide⟩
theorem ok_X11_breath : ax_ok ma_X11_breath := ⟨List.mem_of_getElem? (i := 11) rfl, rfl, fun h => absurd h (by decide), ac_X11_0 _ (List.mem_map.mpr ⟨ma_X11_breath, List.mem_of_getElem? (i := 8) rfl, rfl⟩), ai_X11, by decide⟩
theorem ok_X11_caller : ax_ok ma_X11_caller := ⟨List.mem_of_getElem? (i := 11) rfl, rfl, fun h => absurd h (by decide), ac_X11_0 _ (List.mem_map.mpr ⟨ma_X11_caller, List.mem_of_getElem? (i := 9) rfl, rfl⟩), ai_X11, by decide⟩
theorem ok_X11_count : ax_ok ma_X11_count := ⟨List.mem_of_getElem? (i := 11) rfl, rfl, fun h => absurd h (by decide), ac_X11_0 _ (List.mem_map.mpr ⟨ma_X11_count, List.mem_of_getElem? (i := 10) rfl, rfl⟩), ai_X11, by decide⟩
theorem ok_X11_day : ax_ok ma_X11_day := ⟨List.mem_of_getElem? (i := 11) rfl, rfl, fun h => absurd h (by decide), ac_X11_0 _ (List.mem_map.mpr ⟨ma_X11_day, List.mem_of_getElem? (i := 11) rfl, rfl⟩), ai_X11, by decide⟩
theorem ok_X11_drop : ax_ok ma_X11_drop := ⟨List.mem_of_getElem? (i := 11) rfl, rfl, fun h => absurd h (by decide), ac_X11_0 _ (List.mem_map.mpr ⟨ma_X11_drop, List.mem_of_getElem? (i := 12) rfl, rfl⟩), ai_X11, by decide⟩
theorem ok_X11_dueCallers : ax_ok ma_X11_dueCallers := ⟨List.mem_of_getElem? (i := 11) rfl, rfl, fun h => absurd h (by decide), ac_X11_0 _ (List.mem_map.mpr ⟨ma_X11_dueCallers, List.mem_of_getElem? (i := 13) rfl, rfl⟩), ai_X11, by decide⟩
theorem ok_X11_end : ax_ok ma_X11_end := ⟨List.mem_of_getElem? (i := 11) rfl, rfl, fun h => absurd h (by decide), ac_X11_0 _ (List.mem_map.mpr ⟨ma_X11_end, List.mem_of_getElem? (i := 14) rfl, rfl⟩), ai_X11, by decide⟩
theorem ok_X11_fault : ax_ok ma_X11_fault := ⟨List.mem_of_getElem? (i := 11) rfl, rfl, fun h => absurd h (by decide), ac_X11_0 _ (List.mem_map.mpr ⟨ma_X11_fault, List.mem_of_getElem? (i := 15) rfl, rfl⟩), ai_X11, by decide⟩
theorem ok_X11_feed : ax_ok ma_X11_feed := ⟨List.mem_of_getElem? (i := 11) rfl, rfl, fun h => absurd h (by decide), ac_X11_0 _ (List.mem_map.mpr ⟨ma_X11_feed, List.mem_of_getElem? (i := 16) rfl, rfl⟩), ai_X11, by decide⟩
theorem ok_X11_fittingHards : ax_ok ma_X11_fittingHards := ⟨List.mem_of_getElem? (i := 11) rfl, rfl, fun h => absurd h (by decide), ac_X11_0 _ (List.mem_map.mpr ⟨ma_X11_fittingHards, List.mem_of_getElem? (i := 17) rfl, rfl⟩), ai_X11, by decide⟩
theorem ok_X11_foremost : ax_ok ma_X11_foremost := ⟨List.mem_of_getElem? (i := 11) rfl, rfl, fun h => absurd h (by decide), ac_X11_0 _ (List.mem_map.mpr ⟨ma_X11_foremost, List.mem_of_getElem? (i := 18) rfl, rfl⟩), ai_X11, by decide⟩
theorem ok_X11_game : ax_ok ma_X11_game := ⟨List.mem_of_getElem? (i := 11) rfl, rfl, fun h => absurd h (by decide), ac_X11_0 _ (List.mem_map.mpr ⟨ma_X11_game, List.mem_of_getElem? (i := 19) rfl, rfl⟩), ai_X11, by decide⟩
theorem ok_X11_hards : ax_ok ma_X11_hards := ⟨List.mem_of_getElem? (i := 11) rfl, rfl, fun h => absurd h (by decide), ac_X11_0 _ (List.mem_map.mpr ⟨ma_X11_hards, List.mem_of_getElem? (i := 20) rfl, rfl⟩), ai_X11, by decide⟩
theorem ok_X11_heard : ax_ok ma_X11_heard := ⟨List.mem_of_getElem? (i := 11) rfl, rfl, fun h => absurd h (by decide), ac_X11_0 _ (List.mem_map.mpr ⟨ma_X11_heard, List.mem_of_getElem? (i := 21) rfl, rfl⟩), ai_X11, by decide⟩
theorem ok_X11_hold : ax_ok ma_X11_hold := ⟨List.mem_of_getElem? (i := 11) rfl, rfl, fun h => absurd h (by decide), ac_X11_0 _ (List.mem_map.mpr ⟨ma_X11_hold, List.mem_of_getElem? (i := 22) rfl, rfl⟩), ai_X11, by decide⟩
theorem ok_X11_howFarApart : ax_ok ma_X11_howFarApart := ⟨List.mem_of_getElem? (i := 11) rfl, rfl, fun h => absurd h (by decide), ac_X11_0 _ (List.mem_map.mpr ⟨ma_X11_howFarApart, List.mem_of_getElem? (i := 23) rfl, rfl⟩), ai_X11, by decide⟩
theorem ok_X11_image : ax_ok ma_X11_image := ⟨List.mem_of_getElem? (i := 11) rfl, rfl, fun h => absurd h (by decide), ac_X11_0 _ (List.mem_map.mpr ⟨ma_X11_image, List.mem_of_getElem? (i := 24) rfl, rfl⟩), ai_X11, by decide⟩
theorem ok_X11_isBestAnswer : ax_ok ma_X11_isBestAnswer := ⟨List.mem_of_getElem? (i := 11) rfl, rfl, fun h => absurd h (by decide), ac_X11_0 _ (List.mem_map.mpr ⟨ma_X11_isBestAnswer, List.mem_of_getElem? (i := 25) rfl, rfl⟩), ai_X11, by decide⟩
theorem ok_X11_keenest : ax_ok ma_X11_keenest := ⟨List.mem_of_getElem? (i := 11) rfl, rfl, fun h => absurd h (by decide), ac_X11_0 _ (List.mem_map.mpr ⟨ma_X11_keenest, List.mem_of_getElem? (i := 26) rfl, rfl⟩), ai_X11, by decide⟩
theorem ok_X11_law : ax_ok ma_X11_law := ⟨List.mem_of_getElem? (i := 11) rfl, rfl, fun h => absurd h (by decide), ac_X11_0 _ (List.mem_map.mpr ⟨ma_X11_law, List.mem_of_getElem? (i := 27) rfl, rfl⟩), ai_X11, by decide⟩
theorem ok_X11_liveOneDay : ax_ok ma_X11_liveOneDay := ⟨List.mem_of_getElem? (i := 11) rfl, rfl, fun h => absurd h (by decide), ac_X11_0 _ (List.mem_map.mpr ⟨ma_X11_liveOneDay, List.mem_of_getElem? (i := 28) rfl, rfl⟩), ai_X11, by decide⟩
theorem ok_X11_lodger : ax_ok ma_X11_lodger := ⟨List.mem_of_getElem? (i := 11) rfl, rfl, fun h => absurd h (by decide), ac_X11_0 _ (List.mem_map.mpr ⟨ma_X11_lodger, List.mem_of_getElem? (i := 29) rfl, rfl⟩), ai_X11, by decide⟩
theorem ok_X11_log : ax_ok ma_X11_log := ⟨List.mem_of_getElem? (i := 11) rfl, rfl, fun h => absurd h (by decide), ac_X11_0 _ (List.mem_map.mpr ⟨ma_X11_log, List.mem_of_getElem? (i := 30) rfl, rfl⟩), ai_X11, by decide⟩
theorem ok_X11_mean : ax_ok ma_X11_mean := ⟨List.mem_of_getElem? (i := 11) rfl, rfl, fun h => absurd h (by decide), ac_X11_0 _ (List.mem_map.mpr ⟨ma_X11_mean, List.mem_of_getElem? (i := 31) rfl, rfl⟩), ai_X11, by decide⟩
theorem ok_X11_moveIn : ax_ok ma_X11_moveIn := ⟨List.mem_of_getElem? (i := 11) rfl, rfl, fun h => absurd h (by decide), ac_X11_0 _ (List.mem_map.mpr ⟨ma_X11_moveIn, List.mem_of_getElem? (i := 32) rfl, rfl⟩), ai_X11, by decide⟩
theorem ok_X11_name : ax_ok ma_X11_name := ⟨List.mem_of_getElem? (i := 11) rfl, rfl, fun h => absurd h (by decide), ac_X11_0 _ (List.mem_map.mpr ⟨ma_X11_name, List.mem_of_getElem? (i := 33) rfl, rfl⟩), ai_X11, by decide⟩
theorem ok_X11_needs : ax_ok ma_X11_needs := ⟨List.mem_of_getElem? (i := 11) rfl, rfl, fun h => absurd h (by decide), ac_X11_0 _ (List.mem_map.mpr ⟨ma_X11_needs, List.mem_of_getElem? (i := 34) rfl, rfl⟩), ai_X11, by decide⟩
theorem ok_X11_nextInQueue : ax_ok ma_X11_nextInQueue := ⟨List.mem_of_getElem? (i := 11) rfl, rfl, fun h => absurd h (by decide), ac_X11_0 _ (List.mem_map.mpr ⟨ma_X11_nextInQueue, List.mem_of_getElem? (i := 35) rfl, rfl⟩), ai_X11, by decide⟩
theorem ok_X11_noHouse : ax_ok ma_X11_noHouse := ⟨List.mem_of_getElem? (i := 11) rfl, rfl, fun h => absurd h (by decide), ac_X11_0 _ (List.mem_map.mpr ⟨ma_X11_noHouse, List.mem_of_getElem? (i := 36) rfl, rfl⟩), ai_X11, by decide⟩
theorem ok_X11_noSuchAfternoon : ax_ok ma_X11_noSuchAfternoon := ⟨List.mem_of_getElem? (i := 11) rfl, rfl, fun h => absurd h (by decide), ac_X11_0 _ (List.mem_map.mpr ⟨ma_X11_noSuchAfternoon, List.mem_of_getElem? (i := 37) rfl, rfl⟩), ai_X11, by decide⟩
theorem ok_X11_noSuchCaller : ax_ok ma_X11_noSuchCaller := ⟨List.mem_of_getElem? (i := 11) rfl, rfl, fun h => absurd h (by decide), ac_X11_0 _ (List.mem_map.mpr ⟨ma_X11_noSuchCaller, List.mem_of_getElem? (i := 38) rfl, rfl⟩), ai_X11, by decide⟩
theorem ok_X11_noSuchLodger : ax_ok ma_X11_noSuchLodger := ⟨List.mem_of_getElem? (i := 11) rfl, rfl, fun h => absurd h (by decide), ac_X11_0 _ (List.mem_map.mpr ⟨ma_X11_noSuchLodger, List.mem_of_getElem? (i := 39) rfl, rfl⟩), ai_X11, by decide⟩
theorem ok_X11_noSuchPair : ax_ok ma_X11_noSuchPair := ⟨List.mem_of_getElem? (i := 11) rfl, rfl, fun h => absurd h (by decide), ac_X11_1 _ (List.mem_map.mpr ⟨ma_X11_noSuchPair, List.mem_of_getElem? (i := 0) rfl, rfl⟩), ai_X11, by decide⟩
theorem ok_X11_odds : ax_ok ma_X11_odds := ⟨List.mem_of_getElem? (i := 11) rfl, rfl, fun h => absurd h (by decide), ac_X11_1 _ (List.mem_map.mpr ⟨ma_X11_odds, List.mem_of_getElem? (i := 1) rfl, rfl⟩), ai_X11, by decide⟩
theorem ok_X11_order : ax_ok ma_X11_order := ⟨List.mem_of_getElem? (i := 11) rfl, rfl, fun h => absurd h (by decide), ac_X11_1 _ (List.mem_map.mpr ⟨ma_X11_order, List.mem_of_getElem? (i := 2) rfl, rfl⟩), ai_X11, by decide⟩
theorem ok_X11_outOfBeats : ax_ok ma_X11_outOfBeats := ⟨List.mem_of_getElem? (i := 11) rfl, rfl, fun h => absurd h (by decide), ac_X11_1 _ (List.mem_map.mpr ⟨ma_X11_outOfBeats, List.mem_of_getElem? (i := 3) rfl, rfl⟩), ai_X11, by decide⟩
theorem ok_X11_outOfTitles : ax_ok ma_X11_outOfTitles := ⟨List.mem_of_getElem? (i := 11) rfl, rfl, fun h => absurd h (by decide), ac_X11_1 _ (List.mem_map.mpr ⟨ma_X11_outOfTitles, List.mem_of_getElem? (i := 4) rfl, rfl⟩), ai_X11, by decide⟩
theorem ok_X11_perform : ax_ok ma_X11_perform := ⟨List.mem_of_getElem? (i := 11) rfl, rfl, fun h => absurd h (by decide), ac_X11_1 _ (List.mem_map.mpr ⟨ma_X11_perform, List.mem_of_getElem? (i := 5) rfl, rfl⟩), ai_X11, by decide⟩
theorem ok_X11_prize : ax_ok ma_X11_prize := ⟨List.mem_of_getElem? (i := 11) rfl, rfl, fun h => absurd h (by decide), ac_X11_1 _ (List.mem_map.mpr ⟨ma_X11_prize, List.mem_of_getElem? (i := 6) rfl, rfl⟩), ai_X11, by decide⟩
theorem ok_X11_queue : ax_ok ma_X11_queue := ⟨List.mem_of_getElem? (i := 11) rfl, rfl, fun h => absurd h (by decide), ac_X11_1 _ (List.mem_map.mpr ⟨ma_X11_queue, List.mem_of_getElem? (i := 7) rfl, rfl⟩), ai_X11, by decide⟩
theorem ok_X11_rank : ax_ok ma_X11_rank := ⟨List.mem_of_getElem? (i := 11) rfl, rfl, fun h => absurd h (by decide), ac_X11_1 _ (List.mem_map.mpr ⟨ma_X11_rank, List.mem_of_getElem? (i := 8) rfl, rfl⟩), ai_X11, by decide⟩
theorem ok_X11_readyCallers : ax_ok ma_X11_readyCallers := ⟨List.mem_of_getElem? (i := 11) rfl, rfl, fun h => absurd h (by decide), ac_X11_1 _ (List.mem_map.mpr ⟨ma_X11_readyCallers, List.mem_of_getElem? (i := 9) rfl, rfl⟩), ai_X11, by decide⟩
theorem ok_X11_rests : ax_ok ma_X11_rests := ⟨List.mem_of_getElem? (i := 11) rfl, rfl, fun h => absurd h (by decide), ac_X11_1 _ (List.mem_map.mpr ⟨ma_X11_rests, List.mem_of_getElem? (i := 10) rfl, rfl⟩), ai_X11, by decide⟩
theorem ok_X11_rule : ax_ok ma_X11_rule := ⟨List.mem_of_getElem? (i := 11) rfl, rfl, fun h => absurd h (by decide), ac_X11_1 _ (List.mem_map.mpr ⟨ma_X11_rule, List.mem_of_getElem? (i := 11) rfl, rfl⟩), ai_X11, by decide⟩
theorem ok_X11_run : ax_ok ma_X11_run := ⟨List.mem_of_getElem? (i := 11) rfl, rfl, fun h => absurd h (by decide), ac_X11_1 _ (List.mem_map.mpr ⟨ma_X11_run, List.mem_of_getElem? (i := 12) rfl, rfl⟩), ai_X11, by decide⟩
theorem ok_X11_share : ax_ok ma_X11_share := ⟨List.mem_of_getElem? (i := 11) rfl, rfl, fun h => absurd h (by decide), ac_X11_1 _ (List.mem_map.mpr ⟨ma_X11_share, List.mem_of_getElem? (i := 13) rfl, rfl⟩), ai_X11, by decide⟩
theorem ok_X11_sing : ax_ok ma_X11_sing := ⟨List.mem_of_getElem? (i := 11) rfl, rfl, fun h => absurd h (by decide), ac_X11_1 _ (List.mem_map.mpr ⟨ma_X11_sing, List.mem_of_getElem? (i := 14) rfl, rfl⟩), ai_X11, by decide⟩
theorem ok_X11_soundsOf : ax_ok ma_X11_soundsOf := ⟨List.mem_of_getElem? (i := 11) rfl, rfl, fun h => absurd h (by decide), ac_X11_1 _ (List.mem_map.mpr ⟨ma_X11_soundsOf, List.mem_of_getElem? (i := 15) rfl, rfl⟩), ai_X11, by decide⟩
theorem ok_X11_span : ax_ok ma_X11_span := ⟨List.mem_of_getElem? (i := 11) rfl, rfl, fun h => absurd h (by decide), ac_X11_1 _ (List.mem_map.mpr ⟨ma_X11_span, List.mem_of_getElem? (i := 16) rfl, rfl⟩), ai_X11, by decide⟩
theorem ok_X11_step : ax_ok ma_X11_step := ⟨List.mem_of_getElem? (i := 11) rfl, rfl, fun h => absurd h (by decide), ac_X11_1 _ (List.mem_map.mpr ⟨ma_X11_step, List.mem_of_getElem? (i := 17) rfl, rfl⟩), ai_X11, by decide⟩
theorem ok_X11_sung : ax_ok ma_X11_sung := ⟨List.mem_of_getElem? (i := 11) rfl, rfl, fun h => absurd h (by decide), ac_X11_1 _ (List.mem_map.mpr ⟨ma_X11_sung, List.mem_of_getElem? (i := 18) rfl, rfl⟩), ai_X11, by decide⟩
theorem ok_X11_text : ax_ok ma_X11_text := ⟨List.mem_of_getElem? (i := 11) rfl, rfl, fun h => absurd h (by decide), ac_X11_1 _ (List.mem_map.mpr ⟨ma_X11_text, List.mem_of_getElem? (i := 19) rfl, rfl⟩), ai_X11, by decide⟩
theorem ok_X11_timed : ax_ok ma_X11_timed := ⟨List.mem_of_getElem? (i := 11) rfl, rfl, fun h => absurd h (by decide), ac_X11_1 _ (List.mem_map.mpr ⟨ma_X11_timed, List.mem_of_getElem? (i := 20) rfl, rfl⟩), ai_X11, by decide⟩
theorem ok_X11_title : ax_ok ma_X11_title := ⟨List.mem_of_getElem? (i := 11) rfl, rfl, fun h => absurd h (by decide), ac_X11_1 _ (List.mem_map.mpr ⟨ma_X11_title, List.mem_of_getElem? (i := 21) rfl, rfl⟩), ai_X11, by decide⟩
theorem ok_X11_undo : ax_ok ma_X11_undo := ⟨List.mem_of_getElem? (i := 11) rfl, rfl, fun h => absurd h (by decide), ac_X11_1 _ (List.mem_map.mpr ⟨ma_X11_undo, List.mem_of_getElem? (i := 22) rfl, rfl⟩), ai_X11, by decide⟩
theorem ok_X11_whim : ax_ok ma_X11_whim := ⟨List.mem_of_getElem? (i := 11) rfl, rfl, fun h => absurd h (by decide), ac_X11_1 _ (List.mem_map.mpr ⟨ma_X11_whim, List.mem_of_getElem? (i := 23) rfl, rfl⟩), ai_X11, by decide⟩
theorem ok_X11_whose : ax_ok ma_X11_whose := ⟨List.mem_of_getElem? (i := 11) rfl, rfl, fun h => absurd h (by decide), ac_X11_1 _ (List.mem_map.mpr ⟨ma_X11_whose, List.mem_of_getElem? (i := 24) rfl, rfl⟩), ai_X11, by decide⟩
theorem ok_X11_years : ax_ok ma_X11_years := ⟨List.mem_of_getElem? (i := 11) rfl, rfl, fun h => absurd h (by decide), ac_X11_1 _ (List.mem_map.mpr ⟨ma_X11_years, List.mem_of_getElem? (i := 25) rfl, rfl⟩), ai_X11, by decide⟩
def ao_X12_0 : List AM := [ma_X12_all, ma_X12_announce, ma_X12_apart, ma_X12_areUnlike, ma_X12_ask, ma_X12_atom, ma_X12_back, ma_X12_breath, ma_X12_bytesIn, ma_X12_calledBits, ma_X12_caller, ma_X12_calls, ma_X12_canCall, ma_X12_canHold, ma_X12_canStep, ma_X12_canTitle, ma_X12_clause, ma_X12_compares, ma_X12_condition, ma_X12_copy, ma_X12_count, ma_X12_day, ma_X12_draw, ma_X12_drop, ma_X12_end, ma_X12_fails, ma_X12_fault, ma_X12_feed, ma_X12_gainOf, ma_X12_game, ma_X12_gameOf, ma_X12_goDay, ma_X12_goOrder, ma_X12_goStep, ma_X12_goThrough, ma_X12_goesIn, ma_X12_greatest, ma_X12_hardBits, ma_X12_hards, ma_X12_has]
set_option maxRecDepth 20000 in
theorem ac_X12_0 : ∀ w ∈ ao_X12_0.map (fun k => Cond.code k.2.1 k.2.2.1 k.2.2.2.1 k.2.2.2.2.1), w ∈ ax_tb := ax_memi [1979, 1757, 1935, 1940, 1930, 1679, 2015, 1814, 1545, 1834, 1735, 1787, 1761, 1822, 1873, 1799, 1648, 1667, 1659, 1869, 2019, 1826, 1843, 1806, 1553, 1584, 1557, 1542, 1791, 1944, 1953, 1830, 1897, 1877, 1644, 1683, 1983, 1922, 1918, 1616] rfl (by decide +kernel)
def ao_X12_1 : List AM := [ma_X12_heard, ma_X12_here, ma_X12_hold, ma_X12_image, ma_X12_isAmong, ma_X12_isCaller, ma_X12_isDigit, ma_X12_isGame, ma_X12_isIn, ma_X12_isLodger, ma_X12_isLonger, ma_X12_isPlan, ma_X12_isSign, ma_X12_isWhole, ma_X12_keenest, ma_X12_law, ma_X12_leastOf, ma_X12_lodger, ma_X12_log, ma_X12_look, ma_X12_mean, ma_X12_mostOf, ma_X12_name, ma_X12_needs, ma_X12_number, ma_X12_odds, ma_X12_oddsFrom, ma_X12_of, ma_X12_order, ma_X12_part, ma_X12_perform, ma_X12_put, ma_X12_queue, ma_X12_readClause, ma_X12_readHouse, ma_X12_readItems, ma_X12_readPlan, ma_X12_readStep, ma_X12_remember, ma_X12_rests]
set_option maxRecDepth 20000 in
theorem ac_X12_1 : ∀ w ∈ ao_X12_1.map (fun k => Cond.code k.2.1 k.2.2.1 k.2.2.2.1 k.2.2.2.2.1), w ∈ ax_tb := ax_memi [1914, 1634, 1818, 2011, 1651, 1739, 1630, 1948, 1561, 1727, 1926, 1861, 1697, 1640, 1991, 1748, 1619, 1723, 1853, 1580, 1975, 1622, 1885, 1901, 1626, 1961, 1967, 1744, 1893, 1663, 1881, 1549, 1999, 1576, 1565, 1589, 1705, 1709, 1783, 1957] rfl (by decide +kernel)
def ao_X12_2 : List AM := [ma_X12_room, ma_X12_rule, ma_X12_run, ma_X12_sing, ma_X12_span, ma_X12_spotOf, ma_X12_starts, ma_X12_step, ma_X12_sum, ma_X12_sung, ma_X12_takes, ma_X12_takes_, ma_X12_takesHard, ma_X12_takesIn, ma_X12_takesTitled, ma_X12_term, ma_X12_text, ma_X12_thrown, ma_X12_timed, ma_X12_title, ma_X12_titles, ma_X12_undo, ma_X12_unit, ma_X12_usual, ma_X12_valueOf, ma_X12_whim, ma_X12_whose, ma_X12_within, ma_X12_worthOf, ma_X12_would, ma_X12_years]
set_option maxRecDepth 20000 in
theorem ac_X12_2 : ∀ w ∈ ao_X12_2.map (fun k => Cond.code k.2.1 k.2.2.1 k.2.2.2.1 k.2.2.2.2.1), w ∈ ax_tb := ax_memi [1731, 1719, 1866, 1810, 2007, 1593, 1569, 1857, 1671, 2003, 1655, 1769, 1971, 1765, 1905, 1675, 1714, 1538, 1909, 1795, 1802, 1849, 1701, 1572, 1987, 1752, 1995, 1686, 1773, 1889, 1838] rfl (by decide +kernel)
theorem ai_X12 : Cond.initialized RX12 ∈ ax_tb := ax_memi (ws := [Cond.initialized RX12]) [115] rfl (by decide +kernel) _ List.mem_cons_self
theorem ok_X12_all : ax_ok ma_X12_all := ⟨List.mem_of_getElem? (i := 12) rfl, rfl, fun h => absurd h (by decide), ac_X12_0 _ (List.mem_map.mpr ⟨ma_X12_all, List.mem_of_getElem? (i := 0) rfl, rfl⟩), ai_X12, by decide⟩
theorem ok_X12_announce : ax_ok ma_X12_announce := ⟨List.mem_of_getElem? (i := 12) rfl, rfl, fun h => absurd h (by decide), ac_X12_0 _ (List.mem_map.mpr ⟨ma_X12_announce, List.mem_of_getElem? (i := 1) rfl, rfl⟩), ai_X12, by decide⟩
theorem ok_X12_apart : ax_ok ma_X12_apart := ⟨List.mem_of_getElem? (i := 12) rfl, rfl, fun h => absurd h (by decide), ac_X12_0 _ (List.mem_map.mpr ⟨ma_X12_apart, List.mem_of_getElem? (i := 2) rfl, rfl⟩), ai_X12, by decide⟩
theorem ok_X12_areUnlike : ax_ok ma_X12_areUnlike := ⟨List.mem_of_getElem? (i := 12) rfl, rfl, fun h => absurd h (by decide), ac_X12_0 _ (List.mem_map.mpr ⟨ma_X12_areUnlike, List.mem_of_getElem? (i := 3) rfl, rfl⟩), ai_X12, by decide⟩
theorem ok_X12_ask : ax_ok ma_X12_ask := ⟨List.mem_of_getElem? (i := 12) rfl, rfl, fun h => absurd h (by decide), ac_X12_0 _ (List.mem_map.mpr ⟨ma_X12_ask, List.mem_of_getElem? (i := 4) rfl, rfl⟩), ai_X12, by decide⟩
theorem ok_X12_atom : ax_ok ma_X12_atom := ⟨List.mem_of_getElem? (i := 12) rfl, rfl, fun h => absurd h (by decide), ac_X12_0 _ (List.mem_map.mpr ⟨ma_X12_atom, List.mem_of_getElem? (i := 5) rfl, rfl⟩), ai_X12, by decide⟩
theorem ok_X12_back : ax_ok ma_X12_back := ⟨List.mem_of_getElem? (i := 12) rfl, rfl, fun h => absurd h (by decide), ac_X12_0 _ (List.mem_map.mpr ⟨ma_X12_back, List.mem_of_getElem? (i := 6) rfl, rfl⟩), ai_X12, by decide⟩
theorem ok_X12_breath : ax_ok ma_X12_breath := ⟨List.mem_of_getElem? (i := 12) rfl, rfl, fun h => absurd h (by decide), ac_X12_0 _ (List.mem_map.mpr ⟨ma_X12_breath, List.mem_of_getElem? (i := 7) rfl, rfl⟩), ai_X12, by decide⟩
theorem ok_X12_bytesIn : ax_ok ma_X12_bytesIn := ⟨List.mem_of_getElem? (i := 12) rfl, rfl, fun h => absurd h (by decide), ac_X12_0 _ (List.mem_map.mpr ⟨ma_X12_bytesIn, List.mem_of_getElem? (i := 8) rfl, rfl⟩), ai_X12, by decide⟩
theorem ok_X12_calledBits : ax_ok ma_X12_calledBits := ⟨List.mem_of_getElem? (i := 12) rfl, rfl, fun h => absurd h (by decide), ac_X12_0 _ (List.mem_map.mpr ⟨ma_X12_calledBits, List.mem_of_getElem? (i := 9) rfl, rfl⟩), ai_X12, by decide⟩
theorem ok_X12_caller : ax_ok ma_X12_caller := ⟨List.mem_of_getElem? (i := 12) rfl, rfl, fun h => absurd h (by decide), ac_X12_0 _ (List.mem_map.mpr ⟨ma_X12_caller, List.mem_of_getElem? (i := 10) rfl, rfl⟩), ai_X12, by decide⟩
theorem ok_X12_calls : ax_ok ma_X12_calls := ⟨List.mem_of_getElem? (i := 12) rfl, rfl, fun h => absurd h (by decide), ac_X12_0 _ (List.mem_map.mpr ⟨ma_X12_calls, List.mem_of_getElem? (i := 11) rfl, rfl⟩), ai_X12, by decide⟩
theorem ok_X12_canCall : ax_ok ma_X12_canCall := ⟨List.mem_of_getElem? (i := 12) rfl, rfl, fun h => absurd h (by decide), ac_X12_0 _ (List.mem_map.mpr ⟨ma_X12_canCall, List.mem_of_getElem? (i := 12) rfl, rfl⟩), ai_X12, by decide⟩
theorem ok_X12_canHold : ax_ok ma_X12_canHold := ⟨List.mem_of_getElem? (i := 12) rfl, rfl, fun h => absurd h (by decide), ac_X12_0 _ (List.mem_map.mpr ⟨ma_X12_canHold, List.mem_of_getElem? (i := 13) rfl, rfl⟩), ai_X12, by decide⟩
theorem ok_X12_canStep : ax_ok ma_X12_canStep := ⟨List.mem_of_getElem? (i := 12) rfl, rfl, fun h => absurd h (by decide), ac_X12_0 _ (List.mem_map.mpr ⟨ma_X12_canStep, List.mem_of_getElem? (i := 14) rfl, rfl⟩), ai_X12, by decide⟩
theorem ok_X12_canTitle : ax_ok ma_X12_canTitle := ⟨List.mem_of_getElem? (i := 12) rfl, rfl, fun h => absurd h (by decide), ac_X12_0 _ (List.mem_map.mpr ⟨ma_X12_canTitle, List.mem_of_getElem? (i := 15) rfl, rfl⟩), ai_X12, by decide⟩
theorem ok_X12_clause : ax_ok ma_X12_clause := ⟨List.mem_of_getElem? (i := 12) rfl, rfl, fun h => absurd h (by decide), ac_X12_0 _ (List.mem_map.mpr ⟨ma_X12_clause, List.mem_of_getElem? (i := 16) rfl, rfl⟩), ai_X12, by decide⟩
theorem ok_X12_compares : ax_ok ma_X12_compares := ⟨List.mem_of_getElem? (i := 12) rfl, rfl, fun h => absurd h (by decide), ac_X12_0 _ (List.mem_map.mpr ⟨ma_X12_compares, List.mem_of_getElem? (i := 17) rfl, rfl⟩), ai_X12, by decide⟩
theorem ok_X12_condition : ax_ok ma_X12_condition := ⟨List.mem_of_getElem? (i := 12) rfl, rfl, fun h => absurd h (by decide), ac_X12_0 _ (List.mem_map.mpr ⟨ma_X12_condition, List.mem_of_getElem? (i := 18) rfl, rfl⟩), ai_X12, by decide⟩
theorem ok_X12_copy : ax_ok ma_X12_copy := ⟨List.mem_of_getElem? (i := 12) rfl, rfl, fun h => absurd h (by decide), ac_X12_0 _ (List.mem_map.mpr ⟨ma_X12_copy, List.mem_of_getElem? (i := 19) rfl, rfl⟩), ai_X12, by decide⟩
theorem ok_X12_count : ax_ok ma_X12_count := ⟨List.mem_of_getElem? (i := 12) rfl, rfl, fun h => absurd h (by decide), ac_X12_0 _ (List.mem_map.mpr ⟨ma_X12_count, List.mem_of_getElem? (i := 20) rfl, rfl⟩), ai_X12, by decide⟩
theorem ok_X12_day : ax_ok ma_X12_day := ⟨List.mem_of_getElem? (i := 12) rfl, rfl, fun h => absurd h (by decide), ac_X12_0 _ (List.mem_map.mpr ⟨ma_X12_day, List.mem_of_getElem? (i := 21) rfl, rfl⟩), ai_X12, by decide⟩
theorem ok_X12_draw : ax_ok ma_X12_draw := ⟨List.mem_of_getElem? (i := 12) rfl, rfl, fun h => absurd h (by decide), ac_X12_0 _ (List.mem_map.mpr ⟨ma_X12_draw, List.mem_of_getElem? (i := 22) rfl, rfl⟩), ai_X12, by decide⟩
theorem ok_X12_drop : ax_ok ma_X12_drop := ⟨List.mem_of_getElem? (i := 12) rfl, rfl, fun h => absurd h (by decide), ac_X12_0 _ (List.mem_map.mpr ⟨ma_X12_drop, List.mem_of_getElem? (i := 23) rfl, rfl⟩), ai_X12, by decide⟩
theorem ok_X12_end : ax_ok ma_X12_end := ⟨List.mem_of_getElem? (i := 12) rfl, rfl, fun h => absurd h (by decide), ac_X12_0 _ (List.mem_map.mpr ⟨ma_X12_end, List.mem_of_getElem? (i := 24) rfl, rfl⟩), ai_X12, by decide⟩
theorem ok_X12_fails : ax_ok ma_X12_fails := ⟨List.mem_of_getElem? (i := 12) rfl, rfl, fun h => absurd h (by decide), ac_X12_0 _ (List.mem_map.mpr ⟨ma_X12_fails, List.mem_of_getElem? (i := 25) rfl, rfl⟩), ai_X12, by decide⟩
theorem ok_X12_fault : ax_ok ma_X12_fault := ⟨List.mem_of_getElem? (i := 12) rfl, rfl, fun h => absurd h (by decide), ac_X12_0 _ (List.mem_map.mpr ⟨ma_X12_fault, List.mem_of_getElem? (i := 26) rfl, rfl⟩), ai_X12, by decide⟩
theorem ok_X12_feed : ax_ok ma_X12_feed := ⟨List.mem_of_getElem? (i := 12) rfl, rfl, fun h => absurd h (by decide), ac_X12_0 _ (List.mem_map.mpr ⟨ma_X12_feed, List.mem_of_getElem? (i := 27) rfl, rfl⟩), ai_X12, by decide⟩
theorem ok_X12_gainOf : ax_ok ma_X12_gainOf := ⟨List.mem_of_getElem? (i := 12) rfl, rfl, fun h => absurd h (by decide), ac_X12_0 _ (List.mem_map.mpr ⟨ma_X12_gainOf, List.mem_of_getElem? (i := 28) rfl, rfl⟩), ai_X12, by decide⟩
theorem ok_X12_game : ax_ok ma_X12_game := ⟨List.mem_of_getElem? (i := 12) rfl, rfl, fun h => absurd h (by decide), ac_X12_0 _ (List.mem_map.mpr ⟨ma_X12_game, List.mem_of_getElem? (i := 29) rfl, rfl⟩), ai_X12, by decide⟩
theorem ok_X12_gameOf : ax_ok ma_X12_gameOf := ⟨List.mem_of_getElem? (i := 12) rfl, rfl, fun h => absurd h (by decide), ac_X12_0 _ (List.mem_map.mpr ⟨ma_X12_gameOf, List.mem_of_getElem? (i := 30) rfl, rfl⟩), ai_X12, by decide⟩
theorem ok_X12_goDay : ax_ok ma_X12_goDay := ⟨List.mem_of_getElem? (i := 12) rfl, rfl, fun h => absurd h (by decide), ac_X12_0 _ (List.mem_map.mpr ⟨ma_X12_goDay, List.mem_of_getElem? (i := 31) rfl, rfl⟩), ai_X12, by decide⟩
theorem ok_X12_goOrder : ax_ok ma_X12_goOrder := ⟨List.mem_of_getElem? (i := 12) rfl, rfl, fun h => absurd h (by decide), ac_X12_0 _ (List.mem_map.mpr ⟨ma_X12_goOrder, List.mem_of_getElem? (i := 32) rfl, rfl⟩), ai_X12, by decide⟩
theorem ok_X12_goStep : ax_ok ma_X12_goStep := ⟨List.mem_of_getElem? (i := 12) rfl, rfl, fun h => absurd h (by decide), ac_X12_0 _ (List.mem_map.mpr ⟨ma_X12_goStep, List.mem_of_getElem? (i := 33) rfl, rfl⟩), ai_X12, by decide⟩
theorem ok_X12_goThrough : ax_ok ma_X12_goThrough := ⟨List.mem_of_getElem? (i := 12) rfl, rfl, fun h => absurd h (by decide), ac_X12_0 _ (List.mem_map.mpr ⟨ma_X12_goThrough, List.mem_of_getElem? (i := 34) rfl, rfl⟩), ai_X12, by decide⟩
theorem ok_X12_goesIn : ax_ok ma_X12_goesIn := ⟨List.mem_of_getElem? (i := 12) rfl, rfl, fun h => absurd h (by decide), ac_X12_0 _ (List.mem_map.mpr ⟨ma_X12_goesIn, List.mem_of_getElem? (i := 35) rfl, rfl⟩), ai_X12, by decide⟩
theorem ok_X12_greatest : ax_ok ma_X12_greatest := ⟨List.mem_of_getElem? (i := 12) rfl, rfl, fun h => absurd h (by decide), ac_X12_0 _ (List.mem_map.mpr ⟨ma_X12_greatest, List.mem_of_getElem? (i := 36) rfl, rfl⟩), ai_X12, by decide⟩
theorem ok_X12_hardBits : ax_ok ma_X12_hardBits := ⟨List.mem_of_getElem? (i := 12) rfl, rfl, fun h => absurd h (by decide), ac_X12_0 _ (List.mem_map.mpr ⟨ma_X12_hardBits, List.mem_of_getElem? (i := 37) rfl, rfl⟩), ai_X12, by decide⟩
theorem ok_X12_hards : ax_ok ma_X12_hards := ⟨List.mem_of_getElem? (i := 12) rfl, rfl, fun h => absurd h (by decide), ac_X12_0 _ (List.mem_map.mpr ⟨ma_X12_hards, List.mem_of_getElem? (i := 38) rfl, rfl⟩), ai_X12, by decide⟩
theorem ok_X12_has : ax_ok ma_X12_has := ⟨List.mem_of_getElem? (i := 12) rfl, rfl, fun h => absurd h (by decide), ac_X12_0 _ (List.mem_map.mpr ⟨ma_X12_has, List.mem_of_getElem? (i := 39) rfl, rfl⟩), ai_X12, by decide⟩
theorem ok_X12_heard : ax_ok ma_X12_heard := ⟨List.mem_of_getElem? (i := 12) rfl, rfl, fun h => absurd h (by decide), ac_X12_1 _ (List.mem_map.mpr ⟨ma_X12_heard, List.mem_of_getElem? (i := 0) rfl, rfl⟩), ai_X12, by decide⟩
theorem ok_X12_here : ax_ok ma_X12_here := ⟨List.mem_of_getElem? (i := 12) rfl, rfl, fun h => absurd h (by decide), ac_X12_1 _ (List.mem_map.mpr ⟨ma_X12_here, List.mem_of_getElem? (i := 1) rfl, rfl⟩), ai_X12, by decide⟩
theorem ok_X12_hold : ax_ok ma_X12_hold := ⟨List.mem_of_getElem? (i := 12) rfl, rfl, fun h => absurd h (by decide), ac_X12_1 _ (List.mem_map.mpr ⟨ma_X12_hold, List.mem_of_getElem? (i := 2) rfl, rfl⟩), ai_X12, by decide⟩
theorem ok_X12_image : ax_ok ma_X12_image := ⟨List.mem_of_getElem? (i := 12) rfl, rfl, fun h => absurd h (by decide), ac_X12_1 _ (List.mem_map.mpr ⟨ma_X12_image, List.mem_of_getElem? (i := 3) rfl, rfl⟩), ai_X12, by decide⟩
theorem ok_X12_isAmong : ax_ok ma_X12_isAmong := ⟨List.mem_of_getElem? (i := 12) rfl, rfl, fun h => absurd h (by decide), ac_X12_1 _ (List.mem_map.mpr ⟨ma_X12_isAmong, List.mem_of_getElem? (i := 4) rfl, rfl⟩), ai_X12, by decide⟩
theorem ok_X12_isCaller : ax_ok ma_X12_isCaller := ⟨List.mem_of_getElem? (i := 12) rfl, rfl, fun h => absurd h (by decide), ac_X12_1 _ (List.mem_map.mpr ⟨ma_X12_isCaller, List.mem_of_getElem? (i := 5) rfl, rfl⟩), ai_X12, by decide⟩
theorem ok_X12_isDigit : ax_ok ma_X12_isDigit := ⟨List.mem_of_getElem? (i := 12) rfl, rfl, fun h => absurd h (by decide), ac_X12_1 _ (List.mem_map.mpr ⟨ma_X12_isDigit, List.mem_of_getElem? (i := 6) rfl, rfl⟩), ai_X12, by decide⟩
theorem ok_X12_isGame : ax_ok ma_X12_isGame := ⟨List.mem_of_getElem? (i := 12) rfl, rfl, fun h => absurd h (by decide), ac_X12_1 _ (List.mem_map.mpr ⟨ma_X12_isGame, List.mem_of_getElem? (i := 7) rfl, rfl⟩), ai_X12, by decide⟩
theorem ok_X12_isIn : ax_ok ma_X12_isIn := ⟨List.mem_of_getElem? (i := 12) rfl, rfl, fun h => absurd h (by decide), ac_X12_1 _ (List.mem_map.mpr ⟨ma_X12_isIn, List.mem_of_getElem? (i := 8) rfl, rfl⟩), ai_X12, by decide⟩
theorem ok_X12_isLodger : ax_ok ma_X12_isLodger := ⟨List.mem_of_getElem? (i := 12) rfl, rfl, fun h => absurd h (by decide), ac_X12_1 _ (List.mem_map.mpr ⟨ma_X12_isLodger, List.mem_of_getElem? (i := 9) rfl, rfl⟩), ai_X12, by decide⟩
theorem ok_X12_isLonger : ax_ok ma_X12_isLonger := ⟨List.mem_of_getElem? (i := 12) rfl, rfl, fun h => absurd h (by decide), ac_X12_1 _ (List.mem_map.mpr ⟨ma_X12_isLonger, List.mem_of_getElem? (i := 10) rfl, rfl⟩), ai_X12, by decide⟩
theorem ok_X12_isPlan : ax_ok ma_X12_isPlan := ⟨List.mem_of_getElem? (i := 12) rfl, rfl, fun h => absurd h (by decide), ac_X12_1 _ (List.mem_map.mpr ⟨ma_X12_isPlan, List.mem_of_getElem? (i := 11) rfl, rfl⟩), ai_X12, by decide⟩
theorem ok_X12_isSign : ax_ok ma_X12_isSign := ⟨List.mem_of_getElem? (i := 12) rfl, rfl, fun h => absurd h (by decide), ac_X12_1 _ (List.mem_map.mpr ⟨ma_X12_isSign, List.mem_of_getElem? (i := 12) rfl, rfl⟩), ai_X12, by decide⟩
theorem ok_X12_isWhole : ax_ok ma_X12_isWhole := ⟨List.mem_of_getElem? (i := 12) rfl, rfl, fun h => absurd h (by decide), ac_X12_1 _ (List.mem_map.mpr ⟨ma_X12_isWhole, List.mem_of_getElem? (i := 13) rfl, rfl⟩), ai_X12, by decide⟩
theorem ok_X12_keenest : ax_ok ma_X12_keenest := ⟨List.mem_of_getElem? (i := 12) rfl, rfl, fun h => absurd h (by decide), ac_X12_1 _ (List.mem_map.mpr ⟨ma_X12_keenest, List.mem_of_getElem? (i := 14) rfl, rfl⟩), ai_X12, by decide⟩
theorem ok_X12_law : ax_ok ma_X12_law := ⟨List.mem_of_getElem? (i := 12) rfl, rfl, fun h => absurd h (by decide), ac_X12_1 _ (List.mem_map.mpr ⟨ma_X12_law, List.mem_of_getElem? (i := 15) rfl, rfl⟩), ai_X12, by decide⟩
theorem ok_X12_leastOf : ax_ok ma_X12_leastOf := ⟨List.mem_of_getElem? (i := 12) rfl, rfl, fun h => absurd h (by decide), ac_X12_1 _ (List.mem_map.mpr ⟨ma_X12_leastOf, List.mem_of_getElem? (i := 16) rfl, rfl⟩), ai_X12, by decide⟩
theorem ok_X12_lodger : ax_ok ma_X12_lodger := ⟨List.mem_of_getElem? (i := 12) rfl, rfl, fun h => absurd h (by decide), ac_X12_1 _ (List.mem_map.mpr ⟨ma_X12_lodger, List.mem_of_getElem? (i := 17) rfl, rfl⟩), ai_X12, by decide⟩
theorem ok_X12_log : ax_ok ma_X12_log := ⟨List.mem_of_getElem? (i := 12) rfl, rfl, fun h => absurd h (by decide), ac_X12_1 _ (List.mem_map.mpr ⟨ma_X12_log, List.mem_of_getElem? (i := 18) rfl, rfl⟩), ai_X12, by decide⟩
theorem ok_X12_look : ax_ok ma_X12_look := ⟨List.mem_of_getElem? (i := 12) rfl, rfl, fun h => absurd h (by decide), ac_X12_1 _ (List.mem_map.mpr ⟨ma_X12_look, List.mem_of_getElem? (i := 19) rfl, rfl⟩), ai_X12, by decide⟩
theorem ok_X12_mean : ax_ok ma_X12_mean := ⟨List.mem_of_getElem? (i := 12) rfl, rfl, fun h => absurd h (by decide), ac_X12_1 _ (List.mem_map.mpr ⟨ma_X12_mean, List.mem_of_getElem? (i := 20) rfl, rfl⟩), ai_X12, by decide⟩
theorem ok_X12_mostOf : ax_ok ma_X12_mostOf := ⟨List.mem_of_getElem? (i := 12) rfl, rfl, fun h => absurd h (by decide), ac_X12_1 _ (List.mem_map.mpr ⟨ma_X12_mostOf, List.mem_of_getElem? (i := 21) rfl, rfl⟩), ai_X12, by decide⟩
theorem ok_X12_name : ax_ok ma_X12_name := ⟨List.mem_of_getElem? (i := 12) rfl, rfl, fun h => absurd h (by decide), ac_X12_1 _ (List.mem_map.mpr ⟨ma_X12_name, List.mem_of_getElem? (i := 22) rfl, rfl⟩), ai_X12, by decide⟩
theorem ok_X12_needs : ax_ok ma_X12_needs := ⟨List.mem_of_getElem? (i := 12) rfl, rfl, fun h => absurd h (by decide), ac_X12_1 _ (List.mem_map.mpr ⟨ma_X12_needs, List.mem_of_getElem? (i := 23) rfl, rfl⟩), ai_X12, by decide⟩
theorem ok_X12_number : ax_ok ma_X12_number := ⟨List.mem_of_getElem? (i := 12) rfl, rfl, fun h => absurd h (by decide), ac_X12_1 _ (List.mem_map.mpr ⟨ma_X12_number, List.mem_of_getElem? (i := 24) rfl, rfl⟩), ai_X12, by decide⟩
theorem ok_X12_odds : ax_ok ma_X12_odds := ⟨List.mem_of_getElem? (i := 12) rfl, rfl, fun h => absurd h (by decide), ac_X12_1 _ (List.mem_map.mpr ⟨ma_X12_odds, List.mem_of_getElem? (i := 25) rfl, rfl⟩), ai_X12, by decide⟩
theorem ok_X12_oddsFrom : ax_ok ma_X12_oddsFrom := ⟨List.mem_of_getElem? (i := 12) rfl, rfl, fun h => absurd h (by decide), ac_X12_1 _ (List.mem_map.mpr ⟨ma_X12_oddsFrom, List.mem_of_getElem? (i := 26) rfl, rfl⟩), ai_X12, by decide⟩
theorem ok_X12_of : ax_ok ma_X12_of := ⟨List.mem_of_getElem? (i := 12) rfl, rfl, fun h => absurd h (by decide), ac_X12_1 _ (List.mem_map.mpr ⟨ma_X12_of, List.mem_of_getElem? (i := 27) rfl, rfl⟩), ai_X12, by decide⟩
theorem ok_X12_order : ax_ok ma_X12_order := ⟨List.mem_of_getElem? (i := 12) rfl, rfl, fun h => absurd h (by decide), ac_X12_1 _ (List.mem_map.mpr ⟨ma_X12_order, List.mem_of_getElem? (i := 28) rfl, rfl⟩), ai_X12, by decide⟩
theorem ok_X12_part : ax_ok ma_X12_part := ⟨List.mem_of_getElem? (i := 12) rfl, rfl, fun h => absurd h (by decide), ac_X12_1 _ (List.mem_map.mpr ⟨ma_X12_part, List.mem_of_getElem? (i := 29) rfl, rfl⟩), ai_X12, by decide⟩
theorem ok_X12_perform : ax_ok ma_X12_perform := ⟨List.mem_of_getElem? (i := 12) rfl, rfl, fun h => absurd h (by decide), ac_X12_1 _ (List.mem_map.mpr ⟨ma_X12_perform, List.mem_of_getElem? (i := 30) rfl, rfl⟩), ai_X12, by decide⟩
theorem ok_X12_put : ax_ok ma_X12_put := ⟨List.mem_of_getElem? (i := 12) rfl, rfl, fun h => absurd h (by decide), ac_X12_1 _ (List.mem_map.mpr ⟨ma_X12_put, List.mem_of_getElem? (i := 31) rfl, rfl⟩), ai_X12, by decide⟩
theorem ok_X12_queue : ax_ok ma_X12_queue := ⟨List.mem_of_getElem? (i := 12) rfl, rfl, fun h => absurd h (by decide), ac_X12_1 _ (List.mem_map.mpr ⟨ma_X12_queue, List.mem_of_getElem? (i := 32) rfl, rfl⟩), ai_X12, by decide⟩
theorem ok_X12_readClause : ax_ok ma_X12_readClause := ⟨List.mem_of_getElem? (i := 12) rfl, rfl, fun h => absurd h (by decide), ac_X12_1 _ (List.mem_map.mpr ⟨ma_X12_readClause, List.mem_of_getElem? (i := 33) rfl, rfl⟩), ai_X12, by decide⟩
theorem ok_X12_readHouse : ax_ok ma_X12_readHouse := ⟨List.mem_of_getElem? (i := 12) rfl, rfl, fun h => absurd h (by decide), ac_X12_1 _ (List.mem_map.mpr ⟨ma_X12_readHouse, List.mem_of_getElem? (i := 34) rfl, rfl⟩), ai_X12, by decide⟩
theorem ok_X12_readItems : ax_ok ma_X12_readItems := ⟨List.mem_of_getElem? (i := 12) rfl, rfl, fun h => absurd h (by decide), ac_X12_1 _ (List.mem_map.mpr ⟨ma_X12_readItems, List.mem_of_getElem? (i := 35) rfl, rfl⟩), ai_X12, by decide⟩
theorem ok_X12_readPlan : ax_ok ma_X12_readPlan := ⟨List.mem_of_getElem? (i := 12) rfl, rfl, fun h => absurd h (by decide), ac_X12_1 _ (List.mem_map.mpr ⟨ma_X12_readPlan, List.mem_of_getElem? (i := 36) rfl, rfl⟩), ai_X12, by decide⟩
theorem ok_X12_readStep : ax_ok ma_X12_readStep := ⟨List.mem_of_getElem? (i := 12) rfl, rfl, fun h => absurd h (by decide), ac_X12_1 _ (List.mem_map.mpr ⟨ma_X12_readStep, List.mem_of_getElem? (i := 37) rfl, rfl⟩), ai_X12, by decide⟩
theorem ok_X12_remember : ax_ok ma_X12_remember := ⟨List.mem_of_getElem? (i := 12) rfl, rfl, fun h => absurd h (by decide), ac_X12_1 _ (List.mem_map.mpr ⟨ma_X12_remember, List.mem_of_getElem? (i := 38) rfl, rfl⟩), ai_X12, by decide⟩
theorem ok_X12_rests : ax_ok ma_X12_rests := ⟨List.mem_of_getElem? (i := 12) rfl, rfl, fun h => absurd h (by decide), ac_X12_1 _ (List.mem_map.mpr ⟨ma_X12_rests, List.mem_of_getElem? (i := 39) rfl, rfl⟩), ai_X12, by decide⟩
theorem ok_X12_room : ax_ok ma_X12_room := ⟨List.mem_of_getElem? (i := 12) rfl, rfl, fun h => absurd h (by decide), ac_X12_2 _ (List.mem_map.mpr ⟨ma_X12_room, List.mem_of_getElem? (i := 0) rfl, rfl⟩), ai_X12, by decide⟩
theorem ok_X12_rule : ax_ok ma_X12_rule := ⟨List.mem_of_getElem? (i := 12) rfl, rfl, fun h => absurd h (by decide), ac_X12_2 _ (List.mem_map.mpr ⟨ma_X12_rule, List.mem_of_getElem? (i := 1) rfl, rfl⟩), ai_X12, by decide⟩
theorem ok_X12_run : ax_ok ma_X12_run := ⟨List.mem_of_getElem? (i := 12) rfl, rfl, fun h => absurd h (by decide), ac_X12_2 _ (List.mem_map.mpr ⟨ma_X12_run, List.mem_of_getElem? (i := 2) rfl, rfl⟩), ai_X12, by decide⟩
theorem ok_X12_sing : ax_ok ma_X12_sing := ⟨List.mem_of_getElem? (i := 12) rfl, rfl, fun h => absurd h (by decide), ac_X12_2 _ (List.mem_map.mpr ⟨ma_X12_sing, List.mem_of_getElem? (i := 3) rfl, rfl⟩), ai_X12, by decide⟩
theorem ok_X12_span : ax_ok ma_X12_span := ⟨List.mem_of_getElem? (i := 12) rfl, rfl, fun h => absurd h (by decide), ac_X12_2 _ (List.mem_map.mpr ⟨ma_X12_span, List.mem_of_getElem? (i := 4) rfl, rfl⟩), ai_X12, by decide⟩
theorem ok_X12_spotOf : ax_ok ma_X12_spotOf := ⟨List.mem_of_getElem? (i := 12) rfl, rfl, fun h => absurd h (by decide), ac_X12_2 _ (List.mem_map.mpr ⟨ma_X12_spotOf, List.mem_of_getElem? (i := 5) rfl, rfl⟩), ai_X12, by decide⟩
theorem ok_X12_starts : ax_ok ma_X12_starts := ⟨List.mem_of_getElem? (i := 12) rfl, rfl, fun h => absurd h (by decide), ac_X12_2 _ (List.mem_map.mpr ⟨ma_X12_starts, List.mem_of_getElem? (i := 6) rfl, rfl⟩), ai_X12, by decide⟩
theorem ok_X12_step : ax_ok ma_X12_step := ⟨List.mem_of_getElem? (i := 12) rfl, rfl, fun h => absurd h (by decide), ac_X12_2 _ (List.mem_map.mpr ⟨ma_X12_step, List.mem_of_getElem? (i := 7) rfl, rfl⟩), ai_X12, by decide⟩
theorem ok_X12_sum : ax_ok ma_X12_sum := ⟨List.mem_of_getElem? (i := 12) rfl, rfl, fun h => absurd h (by decide), ac_X12_2 _ (List.mem_map.mpr ⟨ma_X12_sum, List.mem_of_getElem? (i := 8) rfl, rfl⟩), ai_X12, by decide⟩
theorem ok_X12_sung : ax_ok ma_X12_sung := ⟨List.mem_of_getElem? (i := 12) rfl, rfl, fun h => absurd h (by decide), ac_X12_2 _ (List.mem_map.mpr ⟨ma_X12_sung, List.mem_of_getElem? (i := 9) rfl, rfl⟩), ai_X12, by decide⟩
theorem ok_X12_takes : ax_ok ma_X12_takes := ⟨List.mem_of_getElem? (i := 12) rfl, rfl, fun h => absurd h (by decide), ac_X12_2 _ (List.mem_map.mpr ⟨ma_X12_takes, List.mem_of_getElem? (i := 10) rfl, rfl⟩), ai_X12, by decide⟩
theorem ok_X12_takes_ : ax_ok ma_X12_takes_ := ⟨List.mem_of_getElem? (i := 12) rfl, rfl, fun h => absurd h (by decide), ac_X12_2 _ (List.mem_map.mpr ⟨ma_X12_takes_, List.mem_of_getElem? (i := 11) rfl, rfl⟩), ai_X12, by decide⟩
theorem ok_X12_takesHard : ax_ok ma_X12_takesHard := ⟨List.mem_of_getElem? (i := 12) rfl, rfl, fun h => absurd h (by decide), ac_X12_2 _ (List.mem_map.mpr ⟨ma_X12_takesHard, List.mem_of_getElem? (i := 12) rfl, rfl⟩), ai_X12, by decide⟩
theorem ok_X12_takesIn : ax_ok ma_X12_takesIn := ⟨List.mem_of_getElem? (i := 12) rfl, rfl, fun h => absurd h (by decide), ac_X12_2 _ (List.mem_map.mpr ⟨ma_X12_takesIn, List.mem_of_getElem? (i := 13) rfl, rfl⟩), ai_X12, by decide⟩
theorem ok_X12_takesTitled : ax_ok ma_X12_takesTitled := ⟨List.mem_of_getElem? (i := 12) rfl, rfl, fun h => absurd h (by decide), ac_X12_2 _ (List.mem_map.mpr ⟨ma_X12_takesTitled, List.mem_of_getElem? (i := 14) rfl, rfl⟩), ai_X12, by decide⟩
theorem ok_X12_term : ax_ok ma_X12_term := ⟨List.mem_of_getElem? (i := 12) rfl, rfl, fun h => absurd h (by decide), ac_X12_2 _ (List.mem_map.mpr ⟨ma_X12_term, List.mem_of_getElem? (i := 15) rfl, rfl⟩), ai_X12, by decide⟩
theorem ok_X12_text : ax_ok ma_X12_text := ⟨List.mem_of_getElem? (i := 12) rfl, rfl, fun h => absurd h (by decide), ac_X12_2 _ (List.mem_map.mpr ⟨ma_X12_text, List.mem_of_getElem? (i := 16) rfl, rfl⟩), ai_X12, by decide⟩
theorem ok_X12_thrown : ax_ok ma_X12_thrown := ⟨List.mem_of_getElem? (i := 12) rfl, rfl, fun h => absurd h (by decide), ac_X12_2 _ (List.mem_map.mpr ⟨ma_X12_thrown, List.mem_of_getElem? (i := 17) rfl, rfl⟩), ai_X12, by decide⟩
theorem ok_X12_timed : ax_ok ma_X12_timed := ⟨List.mem_of_getElem? (i := 12) rfl, rfl, fun h => absurd h (by decide), ac_X12_2 _ (List.mem_map.mpr ⟨ma_X12_timed, List.mem_of_getElem? (i := 18) rfl, rfl⟩), ai_X12, by decide⟩
theorem ok_X12_title : ax_ok ma_X12_title := ⟨List.mem_of_getElem? (i := 12) rfl, rfl, fun h => absurd h (by decide), ac_X12_2 _ (List.mem_map.mpr ⟨ma_X12_title, List.mem_of_getElem? (i := 19) rfl, rfl⟩), ai_X12, by decide⟩
theorem ok_X12_titles : ax_ok ma_X12_titles := ⟨List.mem_of_getElem? (i := 12) rfl, rfl, fun h => absurd h (by decide), ac_X12_2 _ (List.mem_map.mpr ⟨ma_X12_titles, List.mem_of_getElem? (i := 20) rfl, rfl⟩), ai_X12, by decide⟩
theorem ok_X12_undo : ax_ok ma_X12_undo := ⟨List.mem_of_getElem? (i := 12) rfl, rfl, fun h => absurd h (by decide), ac_X12_2 _ (List.mem_map.mpr ⟨ma_X12_undo, List.mem_of_getElem? (i := 21) rfl, rfl⟩), ai_X12, by decide⟩
theorem ok_X12_unit : ax_ok ma_X12_unit := ⟨List.mem_of_getElem? (i := 12) rfl, rfl, fun h => absurd h (by decide), ac_X12_2 _ (List.mem_map.mpr ⟨ma_X12_unit, List.mem_of_getElem? (i := 22) rfl, rfl⟩), ai_X12, by decide⟩
theorem ok_X12_usual : ax_ok ma_X12_usual := ⟨List.mem_of_getElem? (i := 12) rfl, rfl, fun h => absurd h (by decide), ac_X12_2 _ (List.mem_map.mpr ⟨ma_X12_usual, List.mem_of_getElem? (i := 23) rfl, rfl⟩), ai_X12, by decide⟩
theorem ok_X12_valueOf : ax_ok ma_X12_valueOf := ⟨List.mem_of_getElem? (i := 12) rfl, rfl, fun h => absurd h (by decide), ac_X12_2 _ (List.mem_map.mpr ⟨ma_X12_valueOf, List.mem_of_getElem? (i := 24) rfl, rfl⟩), ai_X12, by decide⟩
theorem ok_X12_whim : ax_ok ma_X12_whim := ⟨List.mem_of_getElem? (i := 12) rfl, rfl, fun h => absurd h (by decide), ac_X12_2 _ (List.mem_map.mpr ⟨ma_X12_whim, List.mem_of_getElem? (i := 25) rfl, rfl⟩), ai_X12, by decide⟩
theorem ok_X12_whose : ax_ok ma_X12_whose := ⟨List.mem_of_getElem? (i := 12) rfl, rfl, fun h => absurd h (by decide), ac_X12_2 _ (List.mem_map.mpr ⟨ma_X12_whose, List.mem_of_getElem? (i := 26) rfl, rfl⟩), ai_X12, by decide⟩
theorem ok_X12_within : ax_ok ma_X12_within := ⟨List.mem_of_getElem? (i := 12) rfl, rfl, fun h => absurd h (by decide), ac_X12_2 _ (List.mem_map.mpr ⟨ma_X12_within, List.mem_of_getElem? (i := 27) rfl, rfl⟩), ai_X12, by decide⟩
theorem ok_X12_worthOf : ax_ok ma_X12_worthOf := ⟨List.mem_of_getElem? (i := 12) rfl, rfl, fun h => absurd h (by decide), ac_X12_2 _ (List.mem_map.mpr ⟨ma_X12_worthOf, List.mem_of_getElem? (i := 28) rfl, rfl⟩), ai_X12, by decide⟩
theorem ok_X12_would : ax_ok ma_X12_would := ⟨List.mem_of_getElem? (i := 12) rfl, rfl, fun h => absurd h (by decide), ac_X12_2 _ (List.mem_map.mpr ⟨ma_X12_would, List.mem_of_getElem? (i := 29) rfl, rfl⟩), ai_X12, by decide⟩
theorem ok_X12_years : ax_ok ma_X12_years := ⟨List.mem_of_getElem? (i := 12) rfl, rfl, fun h => absurd h (by decide), ac_X12_2 _ (List.mem_map.mpr ⟨ma_X12_years, List.mem_of_getElem? (i := 30) rfl, rfl⟩), ai_X12, by decide⟩
def ao_J0_0 : List AM := [ma_J0_charAt_5068e, ma_J0_checkBoundsBeginEnd_23922, ma_J0_checkIndex_df160, ma_J0_coder_7d493, ma_J0_indexOf_0f7a4, ma_J0_indexOf_7cf53, ma_J0_isLatin1_aae02, ma_J0_length_8abf5]
set_option maxRecDepth 20000 in
theorem ac_J0_0 : ∀ w ∈ ao_J0_0.map (fun k => Cond.code k.2.1 k.2.2.1 k.2.2.2.1 k.2.2.2.2.1), w ∈ ax_tb := ax_memi [1597, 583, 1603, 535, 541, 545, 549, 531] rfl (by decide +kernel)
theorem ai_J0 : Cond.initialized RJ0 ∈ ax_tb := ax_memi (ws := [Cond.initialized RJ0]) [117] rfl (by decide +kernel) _ List.mem_cons_self
theorem ok_J0_charAt_5068e : ax_ok ma_J0_charAt_5068e := ⟨List.mem_of_getElem? (i := 14) rfl, rfl, fun h => absurd h (by decide), ac_J0_0 _ (List.mem_map.mpr ⟨ma_J0_charAt_5068e, List.mem_of_getElem? (i := 0) rfl, rfl⟩), ai_J0, by decide⟩
theorem ok_J0_checkBoundsBeginEnd_23922 : ax_ok ma_J0_checkBoundsBeginEnd_23922 := ⟨List.mem_of_getElem? (i := 14) rfl, rfl, fun h => absurd h (by decide), ac_J0_0 _ (List.mem_map.mpr ⟨ma_J0_checkBoundsBeginEnd_23922, List.mem_of_getElem? (i := 1) rfl, rfl⟩), ai_J0, by decide⟩
theorem ok_J0_checkIndex_df160 : ax_ok ma_J0_checkIndex_df160 := ⟨List.mem_of_getElem? (i := 14) rfl, rfl, fun h => absurd h (by decide), ac_J0_0 _ (List.mem_map.mpr ⟨ma_J0_checkIndex_df160, List.mem_of_getElem? (i := 2) rfl, rfl⟩), ai_J0, by decide⟩
theorem ok_J0_coder_7d493 : ax_ok ma_J0_coder_7d493 := ⟨List.mem_of_getElem? (i := 14) rfl, rfl, fun h => absurd h (by decide), ac_J0_0 _ (List.mem_map.mpr ⟨ma_J0_coder_7d493, List.mem_of_getElem? (i := 3) rfl, rfl⟩), ai_J0, by decide⟩
theorem ok_J0_indexOf_0f7a4 : ax_ok ma_J0_indexOf_0f7a4 := ⟨List.mem_of_getElem? (i := 14) rfl, rfl, fun h => absurd h (by decide), ac_J0_0 _ (List.mem_map.mpr ⟨ma_J0_indexOf_0f7a4, List.mem_of_getElem? (i := 4) rfl, rfl⟩), ai_J0, by decide⟩
theorem ok_J0_indexOf_7cf53 : ax_ok ma_J0_indexOf_7cf53 := ⟨List.mem_of_getElem? (i := 14) rfl, rfl, fun h => absurd h (by decide), ac_J0_0 _ (List.mem_map.mpr ⟨ma_J0_indexOf_7cf53, List.mem_of_getElem? (i := 5) rfl, rfl⟩), ai_J0, by decide⟩
theorem ok_J0_isLatin1_aae02 : ax_ok ma_J0_isLatin1_aae02 := ⟨List.mem_of_getElem? (i := 14) rfl, rfl, fun h => absurd h (by decide), ac_J0_0 _ (List.mem_map.mpr ⟨ma_J0_isLatin1_aae02, List.mem_of_getElem? (i := 6) rfl, rfl⟩), ai_J0, by decide⟩
theorem ok_J0_length_8abf5 : ax_ok ma_J0_length_8abf5 := ⟨List.mem_of_getElem? (i := 14) rfl, rfl, fun h => absurd h (by decide), ac_J0_0 _ (List.mem_map.mpr ⟨ma_J0_length_8abf5, List.mem_of_getElem? (i := 7) rfl, rfl⟩), ai_J0, by decide⟩
def ao_J1_0 : List AM := [ma_J1_canEncode_9a6ad, ma_J1_charAt_3b067, ma_J1_indexOf_4cfef, ma_J1_indexOfChar_4cfef]
set_option maxRecDepth 20000 in
theorem ac_J1_0 : ∀ w ∈ ao_J1_0.map (fun k => Cond.code k.2.1 k.2.2.1 k.2.2.2.1 k.2.2.2.2.1), w ∈ ax_tb := ax_memi [556, 1600, 553, 565] rfl (by decide +kernel)
theorem ai_J1 : Cond.initialized RJ1 ∈ ax_tb := ax_memi (ws := [Cond.initialized RJ1]) [118] rfl (by decide +kernel) _ List.mem_cons_self
theorem ok_J1_canEncode_9a6ad : ax_ok ma_J1_canEncode_9a6ad := ⟨List.mem_of_getElem? (i := 15) rfl, rfl, fun h => absurd h (by decide), ac_J1_0 _ (List.mem_map.mpr ⟨ma_J1_canEncode_9a6ad, List.mem_of_getElem? (i := 0) rfl, rfl⟩), ai_J1, by decide⟩
theorem ok_J1_charAt_3b067 : ax_ok ma_J1_charAt_3b067 := ⟨List.mem_of_getElem? (i := 15) rfl, rfl, fun h => absurd h (by decide), ac_J1_0 _ (List.mem_map.mpr ⟨ma_J1_charAt_3b067, List.mem_of_getElem? (i := 1) rfl, rfl⟩), ai_J1, by decide⟩
theorem ok_J1_indexOf_4cfef : ax_ok ma_J1_indexOf_4cfef := ⟨List.mem_of_getElem? (i := 15) rfl, rfl, fun h => absurd h (by decide), ac_J1_0 _ (List.mem_map.mpr ⟨ma_J1_indexOf_4cfef, List.mem_of_getElem? (i := 2) rfl, rfl⟩), ai_J1, by decide⟩
theorem ok_J1_indexOfChar_4cfef : ax_ok ma_J1_indexOfChar_4cfef := ⟨List.mem_of_getElem? (i := 15) rfl, rfl, fun h => absurd h (by decide), ac_J1_0 _ (List.mem_map.mpr ⟨ma_J1_indexOfChar_4cfef, List.mem_of_getElem? (i := 3) rfl, rfl⟩), ai_J1, by decide⟩
def ao_J9_0 : List AM := [ma_J9_abs_0f7a4, ma_J9_floorMod_7cf53, ma_J9_max_7cf53, ma_J9_max_f86c9, ma_J9_min_7cf53, ma_J9_min_f86c9]
set_option maxRecDepth 20000 in
theorem ac_J9_0 : ∀ w ∈ ao_J9_0.map (fun k => Cond.code k.2.1 k.2.2.1 k.2.2.2.1 k.2.2.2.2.1), w ∈ ax_tb := ax_memi [1166, 930, 559, 1694, 562, 1691] rfl (by decide +kernel)
theorem ai_J9 : Cond.initialized RJ9 ∈ ax_tb := ax_memi (ws := [Cond.initialized RJ9]) [119] rfl (by decide +kernel) _ List.mem_cons_self
theorem ok_J9_abs_0f7a4 : ax_ok ma_J9_abs_0f7a4 := ⟨List.mem_of_getElem? (i := 16) rfl, rfl, fun _ => by decide +kernel, ac_J9_0 _ (List.mem_map.mpr ⟨ma_J9_abs_0f7a4, List.mem_of_getElem? (i := 0) rfl, rfl⟩), ai_J9, by decide⟩
theorem ok_J9_floorMod_7cf53 : ax_ok ma_J9_floorMod_7cf53 := ⟨List.mem_of_getElem? (i := 16) rfl, rfl, fun _ => by decide +kernel, ac_J9_0 _ (List.mem_map.mpr ⟨ma_J9_floorMod_7cf53, List.mem_of_getElem? (i := 1) rfl, rfl⟩), ai_J9, by decide⟩
theorem ok_J9_max_7cf53 : ax_ok ma_J9_max_7cf53 := ⟨List.mem_of_getElem? (i := 16) rfl, rfl, fun _ => by decide +kernel, ac_J9_0 _ (List.mem_map.mpr ⟨ma_J9_max_7cf53, List.mem_of_getElem? (i := 2) rfl, rfl⟩), ai_J9, by decide⟩
theorem ok_J9_max_f86c9 : ax_ok ma_J9_max_f86c9 := ⟨List.mem_of_getElem? (i := 16) rfl, rfl, fun _ => by decide +kernel, ac_J9_0 _ (List.mem_map.mpr ⟨ma_J9_max_f86c9, List.mem_of_getElem? (i := 3) rfl, rfl⟩), ai_J9, by decide⟩
theorem ok_J9_min_7cf53 : ax_ok ma_J9_min_7cf53 := ⟨List.mem_of_getElem? (i := 16) rfl, rfl, fun _ => by decide +kernel, ac_J9_0 _ (List.mem_map.mpr ⟨ma_J9_min_7cf53, List.mem_of_getElem? (i := 4) rfl, rfl⟩), ai_J9, by decide⟩
theorem ok_J9_min_f86c9 : ax_ok ma_J9_min_f86c9 := ⟨List.mem_of_getElem? (i := 16) rfl, rfl, fun _ => by decide +kernel, ac_J9_0 _ (List.mem_map.mpr ⟨ma_J9_min_f86c9, List.mem_of_getElem? (i := 5) rfl, rfl⟩), ai_J9, by decide⟩
def ao_J6_0 : List AM := [ma_J6_bitCount_0f7a4]
set_option maxRecDepth 20000 in
theorem ac_J6_0 : ∀ w ∈ ao_J6_0.map (fun k => Cond.code k.2.1 k.2.2.1 k.2.2.2.1 k.2.2.2.2.1), w ∈ ax_tb := ax_memi [1173] rfl (by decide +kernel)
theorem ai_J6 : Cond.initialized RJ6 ∈ ax_tb := ax_memi (ws := [Cond.initialized RJ6]) [127] rfl (by decide +kernel) _ List.mem_cons_self
theorem ok_J6_bitCount_0f7a4 : ax_ok ma_J6_bitCount_0f7a4 := ⟨List.mem_of_getElem? (i := 17) rfl, rfl, fun h => absurd h (by decide), ac_J6_0 _ (List.mem_map.mpr ⟨ma_J6_bitCount_0f7a4, List.mem_of_getElem? (i := 0) rfl, rfl⟩), ai_J6, by decide⟩
def ao_J3_0 : List AM := [ma_J3_checkFromToIndex_8c36e, ma_J3_checkIndex_8e157]
set_option maxRecDepth 20000 in
theorem ac_J3_0 : ∀ w ∈ ao_J3_0.map (fun k => Cond.code k.2.1 k.2.2.1 k.2.2.2.1 k.2.2.2.2.1), w ∈ ax_tb := ax_memi [588, 1606] rfl (by decide +kernel)
theorem ai_J3 : Cond.initialized RJ3 ∈ ax_tb := ax_memi (ws := [Cond.initialized RJ3]) [121] rfl (by decide +kernel) _ List.mem_cons_self
theorem ok_J3_checkFromToIndex_8c36e : ax_ok ma_J3_checkFromToIndex_8c36e := ⟨List.mem_of_getElem? (i := 18) rfl, rfl, fun h => absurd h (by decide), ac_J3_0 _ (List.mem_map.mpr ⟨ma_J3_checkFromToIndex_8c36e, List.mem_of_getElem? (i := 0) rfl, rfl⟩), ai_J3, by decide⟩
theorem ok_J3_checkIndex_8e157 : ax_ok ma_J3_checkIndex_8e157 := ⟨List.mem_of_getElem? (i := 18) rfl, rfl, fun h => absurd h (by decide), ac_J3_0 _ (List.mem_map.mpr ⟨ma_J3_checkIndex_8e157, List.mem_of_getElem? (i := 1) rfl, rfl⟩), ai_J3, by decide⟩
