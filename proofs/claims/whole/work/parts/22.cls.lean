set_option maxRecDepth 20000 in
theorem uwX0 : ∀ w ∈ u_ws RX0 TX0 2, w ∈ lw_ok := by
  intro w hw
  have hp : u_ws RX0 TX0 2 = ([192, 194] : List Nat).filterMap (fun i => tables_1[i]?) := by decide +kernel
  have hg : (u_ws RX0 TX0 2).all goodWord = true := by decide +kernel
  have h1 := List.all_eq_true.mp hg w hw
  rw [hp] at hw
  obtain ⟨i, -, hi⟩ := List.mem_filterMap.mp hw
  exact okT i hi h1
set_option maxRecDepth 20000 in
theorem uwX1 : ∀ w ∈ u_ws RX1 TX1 6, w ∈ lw_ok := by
  intro w hw
  have hp : u_ws RX1 TX1 6 = ([411, 413, 415, 417, 419, 421] : List Nat).filterMap (fun i => tables_1[i]?) := by decide +kernel
  have hg : (u_ws RX1 TX1 6).all goodWord = true := by decide +kernel
  have h1 := List.all_eq_true.mp hg w hw
  rw [hp] at hw
  obtain ⟨i, -, hi⟩ := List.mem_filterMap.mp hw
  exact okT i hi h1
set_option maxRecDepth 20000 in
theorem uwX2 : ∀ w ∈ u_ws RX2 TX2 20, w ∈ lw_ok := by
  intro w hw
  have hp : u_ws RX2 TX2 20 = ([314, 316, 318, 320, 322, 324, 326, 328, 330, 332, 334, 336, 338, 340, 342, 344, 346, 348, 350, 352] : List Nat).filterMap (fun i => tables_1[i]?) := by decide +kernel
  have hg : (u_ws RX2 TX2 20).all goodWord = true := by decide +kernel
  have h1 := List.all_eq_true.mp hg w hw
  rw [hp] at hw
  obtain ⟨i, -, hi⟩ := List.mem_filterMap.mp hw
  exact okT i hi h1
set_option maxRecDepth 20000 in
theorem uwX3 : ∀ w ∈ u_ws RX3 TX3 2, w ∈ lw_ok := by
  intro w hw
  have hp : u_ws RX3 TX3 2 = ([171, 173] : List Nat).filterMap (fun i => tables_1[i]?) := by decide +kernel
  have hg : (u_ws RX3 TX3 2).all goodWord = true := by decide +kernel
  have h1 := List.all_eq_true.mp hg w hw
  rw [hp] at hw
  obtain ⟨i, -, hi⟩ := List.mem_filterMap.mp hw
  exact okT i hi h1
set_option maxRecDepth 20000 in
theorem uwX4 : ∀ w ∈ u_ws RX4 TX4 4, w ∈ lw_ok := by
  intro w hw
  have hp : u_ws RX4 TX4 4 = ([221, 223, 225, 227] : List Nat).filterMap (fun i => tables_1[i]?) := by decide +kernel
  have hg : (u_ws RX4 TX4 4).all goodWord = true := by decide +kernel
  have h1 := List.all_eq_true.mp hg w hw
  rw [hp] at hw
  obtain ⟨i, -, hi⟩ := List.mem_filterMap.mp hw
  exact okT i hi h1
set_option maxRecDepth 20000 in
theorem uwX5 : ∀ w ∈ u_ws RX5 TX5 3, w ∈ lw_ok := by
  intro w hw
  have hp : u_ws RX5 TX5 3 = ([491, 493, 495] : List Nat).filterMap (fun i => tables_1[i]?) := by decide +kernel
  have hg : (u_ws RX5 TX5 3).all goodWord = true := by decide +kernel
  have h1 := List.all_eq_true.mp hg w hw
  rw [hp] at hw
  obtain ⟨i, -, hi⟩ := List.mem_filterMap.mp hw
  exact okT i hi h1
set_option maxRecDepth 20000 in
theorem uwX6 : ∀ w ∈ u_ws RX6 TX6 5, w ∈ lw_ok := by
  intro w hw
  have hp : u_ws RX6 TX6 5 = ([152, 154, 156, 158, 160] : List Nat).filterMap (fun i => tables_1[i]?) := by decide +kernel
  have hg : (u_ws RX6 TX6 5).all goodWord = true := by decide +kernel
  have h1 := List.all_eq_true.mp hg w hw
  rw [hp] at hw
  obtain ⟨i, -, hi⟩ := List.mem_filterMap.mp hw
  exact okT i hi h1
set_option maxRecDepth 20000 in
theorem uwX7 : ∀ w ∈ u_ws RX7 TX7 4, w ∈ lw_ok := by
  intro w hw
  have hp : u_ws RX7 TX7 4 = ([201, 203, 205, 207] : List Nat).filterMap (fun i => tables_1[i]?) := by decide +kernel
  have hg : (u_ws RX7 TX7 4).all goodWord = true := by decide +kernel
  have h1 := List.all_eq_true.mp hg w hw
  rw [hp] at hw
  obtain ⟨i, -, hi⟩ := List.mem_filterMap.mp hw
  exact okT i hi h1
set_option maxRecDepth 20000 in
theorem uwX8 : ∀ w ∈ u_ws RX8 TX8 8, w ∈ lw_ok := by
  intro w hw
  have hp : u_ws RX8 TX8 8 = ([123, 125, 127, 129, 131, 133, 135, 137] : List Nat).filterMap (fun i => tables_1[i]?) := by decide +kernel
  have hg : (u_ws RX8 TX8 8).all goodWord = true := by decide +kernel
  have h1 := List.all_eq_true.mp hg w hw
  rw [hp] at hw
  obtain ⟨i, -, hi⟩ := List.mem_filterMap.mp hw
  exact okT i hi h1
set_option maxRecDepth 20000 in
theorem uwX9 : ∀ w ∈ u_ws RX9 TX9 8, w ∈ lw_ok := by
  intro w hw
  have hp : u_ws RX9 TX9 8 = ([376, 378, 380, 382, 384, 386, 388, 390] : List Nat).filterMap (fun i => tables_1[i]?) := by decide +kernel
  have hg : (u_ws RX9 TX9 8).all goodWord = true := by decide +kernel
  have h1 := List.all_eq_true.mp hg w hw
  rw [hp] at hw
  obtain ⟨i, -, hi⟩ := List.mem_filterMap.mp hw
  exact okT i hi h1
set_option maxRecDepth 20000 in
theorem uwX10 : ∀ w ∈ u_ws RX10 TX10 9, w ∈ lw_ok := by
  intro w hw
  have hp : u_ws RX10 TX10 9 = ([459, 461, 463, 465, 467, 469, 471, 473, 475] : List Nat).filterMap (fun i => tables_1[i]?) := by decide +kernel
  have hg : (u_ws RX10 TX10 9).all goodWord = true := by decide +kernel
  have h1 := List.all_eq_true.mp hg w hw
  rw [hp] at hw
  obtain ⟨i, -, hi⟩ := List.mem_filterMap.mp hw
  exact okT i hi h1
set_option maxRecDepth 20000 in
theorem uwX11 : ∀ w ∈ u_ws RX11 TX11 2, w ∈ lw_ok := by
  intro w hw
  have hp : u_ws RX11 TX11 2 = ([42, 44] : List Nat).filterMap (fun i => tables_1[i]?) := by decide +kernel
  have hg : (u_ws RX11 TX11 2).all goodWord = true := by decide +kernel
  have h1 := List.all_eq_true.mp hg w hw
  rw [hp] at hw
  obtain ⟨i, -, hi⟩ := List.mem_filterMap.mp hw
  exact okT i hi h1
set_option maxRecDepth 20000 in
theorem uwX12 : ∀ w ∈ u_ws RX12 TX12 19, w ∈ lw_ok := by
  intro w hw
  have hp : u_ws RX12 TX12 19 = ([517, 519, 521, 523, 525, 527, 529, 531, 533, 535, 537, 539, 541, 543, 545, 547, 549, 551, 553] : List Nat).filterMap (fun i => tables_1[i]?) := by decide +kernel
  have hg : (u_ws RX12 TX12 19).all goodWord = true := by decide +kernel
  have h1 := List.all_eq_true.mp hg w hw
  rw [hp] at hw
  obtain ⟨i, -, hi⟩ := List.mem_filterMap.mp hw
  exact okT i hi h1
set_option maxRecDepth 20000 in
theorem uwX13 : ∀ w ∈ u_ws RX13 TX13 113, w ∈ lw_ok := by
  intro w hw
  have hp : u_ws RX13 TX13 113 = ([1286, 1288, 1290, 1292, 1294, 1296, 1298, 1300, 1302, 1304, 1306, 1308, 1310, 1312, 1314, 1316, 1318, 1320, 1322, 1324, 1326, 1328, 1330, 1332, 1334, 1336, 1338, 1340, 1342, 1344, 1346, 1348, 1350, 1352, 1354, 1356, 1358, 1360, 1362, 1364, 1366, 1368, 1370, 1372, 1374, 1376, 1378, 1380, 1382, 1384, 1386, 1388, 1390, 1392, 1394, 1396, 1398, 1400, 1402, 1404, 1406, 1408, 1410, 1412, 1414, 1416, 1418, 1420, 1422, 1424, 1426, 1428, 1430, 1432, 1434, 1436, 1438, 1440, 1442, 1444, 1446, 1448, 1450, 1452, 1454, 1456, 1458, 1460, 1462, 1464, 1466, 1468, 1470, 1472, 1474, 1476, 1478, 1480, 1482, 1484, 1486, 1488, 1490, 1492, 1494, 1496, 1498, 1500, 1502, 1504, 1506, 1508, 1510] : List Nat).filterMap (fun i => tables_1[i]?) := by decide +kernel
  have hg : (u_ws RX13 TX13 113).all goodWord = true := by decide +kernel
  have h1 := List.all_eq_true.mp hg w hw
  rw [hp] at hw
  obtain ⟨i, -, hi⟩ := List.mem_filterMap.mp hw
  exact okT i hi h1
theorem mcl_ok {c : Nat} {C : String} {T : u_T} {N : Nat} (h : mcl[c]? = some (C, T, N)) : (∀ w ∈ u_ws C T N, w ∈ lw_ok) ∧ (∀ k, k < N → parseFieldDescriptor (T k).2.2.1 = some (mty c k)) ∧ (∀ a, a < N → ∀ b, b < N → a ≠ b → (T a).2.1 ≠ (T b).2.1) := by
  match c, h with
  | 0, h => cases h; exact ⟨uwX0, tyX0_ok, nmX0⟩
  | 1, h => cases h; exact ⟨uwX1, tyX1_ok, nmX1⟩
  | 2, h => cases h; exact ⟨uwX2, tyX2_ok, nmX2⟩
  | 3, h => cases h; exact ⟨uwX3, tyX3_ok, nmX3⟩
  | 4, h => cases h; exact ⟨uwX4, tyX4_ok, nmX4⟩
  | 5, h => cases h; exact ⟨uwX5, tyX5_ok, nmX5⟩
  | 6, h => cases h; exact ⟨uwX6, tyX6_ok, nmX6⟩
  | 7, h => cases h; exact ⟨uwX7, tyX7_ok, nmX7⟩
  | 8, h => cases h; exact ⟨uwX8, tyX8_ok, nmX8⟩
  | 9, h => cases h; exact ⟨uwX9, tyX9_ok, nmX9⟩
  | 10, h => cases h; exact ⟨uwX10, tyX10_ok, nmX10⟩
  | 11, h => cases h; exact ⟨uwX11, tyX11_ok, nmX11⟩
  | 12, h => cases h; exact ⟨uwX12, tyX12_ok, nmX12⟩
  | 13, h => cases h; exact ⟨uwX13, tyX13_ok, nmX13⟩
  | c + 14, h => simp [mcl] at h
