theorem uw0 : ∀ k, k < 7 → lw_tbl[([266, 268, 270, 272, 274, 276, 278] : List Nat).getD k 0]? = some (u_lay RX0 TX0 k) ∧ goodWord (u_lay RX0 TX0 k) = true := by decide +kernel
theorem cl0 : jm_CL 0 RX0 TX0 7 tyX0 := ⟨by decide, rfl, fun w hw => by obtain ⟨k, hk, rfl⟩ := List.mem_map.mp hw; have h := uw0 k (List.mem_range.mp hk); exact jm_in (List.mem_of_getElem? h.1) h.2, tyX0_ok, nmX0⟩
theorem uw1 : ∀ k, k < 4 → lw_tbl[([185, 187, 189, 191] : List Nat).getD k 0]? = some (u_lay RX1 TX1 k) ∧ goodWord (u_lay RX1 TX1 k) = true := by decide +kernel
theorem cl1 : jm_CL 1 RX1 TX1 4 tyX1 := ⟨by decide, rfl, fun w hw => by obtain ⟨k, hk, rfl⟩ := List.mem_map.mp hw; have h := uw1 k (List.mem_range.mp hk); exact jm_in (List.mem_of_getElem? h.1) h.2, tyX1_ok, nmX1⟩
theorem uw2 : ∀ k, k < 15 → lw_tbl[([476, 478, 480, 482, 484, 486, 488, 490, 492, 494, 496, 498, 500, 502, 504] : List Nat).getD k 0]? = some (u_lay RX2 TX2 k) ∧ goodWord (u_lay RX2 TX2 k) = true := by decide +kernel
theorem cl2 : jm_CL 2 RX2 TX2 15 tyX2 := ⟨by decide, rfl, fun w hw => by obtain ⟨k, hk, rfl⟩ := List.mem_map.mp hw; have h := uw2 k (List.mem_range.mp hk); exact jm_in (List.mem_of_getElem? h.1) h.2, tyX2_ok, nmX2⟩
theorem uw3 : ∀ k, k < 10 → lw_tbl[([306, 308, 310, 312, 314, 316, 318, 320, 322, 324] : List Nat).getD k 0]? = some (u_lay RX3 TX3 k) ∧ goodWord (u_lay RX3 TX3 k) = true := by decide +kernel
theorem cl3 : jm_CL 3 RX3 TX3 10 tyX3 := ⟨by decide, rfl, fun w hw => by obtain ⟨k, hk, rfl⟩ := List.mem_map.mp hw; have h := uw3 k (List.mem_range.mp hk); exact jm_in (List.mem_of_getElem? h.1) h.2, tyX3_ok, nmX3⟩
theorem uw4 : ∀ k, k < 17 → lw_tbl[([558, 560, 562, 564, 566, 568, 570, 572, 574, 576, 578, 580, 582, 584, 586, 588, 590] : List Nat).getD k 0]? = some (u_lay RX4 TX4 k) ∧ goodWord (u_lay RX4 TX4 k) = true := by decide +kernel
theorem cl4 : jm_CL 4 RX4 TX4 17 tyX4 := ⟨by decide, rfl, fun w hw => by obtain ⟨k, hk, rfl⟩ := List.mem_map.mp hw; have h := uw4 k (List.mem_range.mp hk); exact jm_in (List.mem_of_getElem? h.1) h.2, tyX4_ok, nmX4⟩
theorem uw5 : ∀ k, k < 6 → lw_tbl[([1288, 1290, 1292, 1294, 1296, 1298] : List Nat).getD k 0]? = some (u_lay RX5 TX5 k) ∧ goodWord (u_lay RX5 TX5 k) = true := by decide +kernel
theorem cl5 : jm_CL 5 RX5 TX5 6 tyX5 := ⟨by decide, rfl, fun w hw => by obtain ⟨k, hk, rfl⟩ := List.mem_map.mp hw; have h := uw5 k (List.mem_range.mp hk); exact jm_in (List.mem_of_getElem? h.1) h.2, tyX5_ok, nmX5⟩
theorem uw6 : ∀ k, k < 13 → lw_tbl[([421, 423, 425, 427, 429, 431, 433, 435, 437, 439, 441, 443, 445] : List Nat).getD k 0]? = some (u_lay RX6 TX6 k) ∧ goodWord (u_lay RX6 TX6 k) = true := by decide +kernel
theorem cl6 : jm_CL 6 RX6 TX6 13 tyX6 := ⟨by decide, rfl, fun w hw => by obtain ⟨k, hk, rfl⟩ := List.mem_map.mp hw; have h := uw6 k (List.mem_range.mp hk); exact jm_in (List.mem_of_getElem? h.1) h.2, tyX6_ok, nmX6⟩
theorem uw7 : ∀ k, k < 9 → lw_tbl[([914, 916, 918, 920, 922, 924, 926, 928, 930] : List Nat).getD k 0]? = some (u_lay RX7 TX7 k) ∧ goodWord (u_lay RX7 TX7 k) = true := by decide +kernel
theorem cl7 : jm_CL 7 RX7 TX7 9 tyX7 := ⟨by decide, rfl, fun w hw => by obtain ⟨k, hk, rfl⟩ := List.mem_map.mp hw; have h := uw7 k (List.mem_range.mp hk); exact jm_in (List.mem_of_getElem? h.1) h.2, tyX7_ok, nmX7⟩
theorem uw8 : ∀ k, k < 10 → lw_tbl[([211, 213, 215, 217, 219, 221, 223, 225, 227, 229] : List Nat).getD k 0]? = some (u_lay RX8 TX8 k) ∧ goodWord (u_lay RX8 TX8 k) = true := by decide +kernel
theorem cl8 : jm_CL 8 RX8 TX8 10 tyX8 := ⟨by decide, rfl, fun w hw => by obtain ⟨k, hk, rfl⟩ := List.mem_map.mp hw; have h := uw8 k (List.mem_range.mp hk); exact jm_in (List.mem_of_getElem? h.1) h.2, tyX8_ok, nmX8⟩
theorem uw9 : ∀ k, k < 10 → lw_tbl[([149, 151, 153, 155, 157, 159, 161, 163, 165, 167] : List Nat).getD k 0]? = some (u_lay RX9 TX9 k) ∧ goodWord (u_lay RX9 TX9 k) = true := by decide +kernel
theorem cl9 : jm_CL 9 RX9 TX9 10 tyX9 := ⟨by decide, rfl, fun w hw => by obtain ⟨k, hk, rfl⟩ := List.mem_map.mp hw; have h := uw9 k (List.mem_range.mp hk); exact jm_in (List.mem_of_getElem? h.1) h.2, tyX9_ok, nmX9⟩
theorem uw10 : ∀ k, k < 20 → lw_tbl[([358, 360, 362, 364, 366, 368, 370, 372, 374, 376, 378, 380, 382, 384, 386, 388, 390, 392, 394, 396] : List Nat).getD k 0]? = some (u_lay RX10 TX10 k) ∧ goodWord (u_lay RX10 TX10 k) = true := by decide +kernel
theorem cl10 : jm_CL 10 RX10 TX10 20 tyX10 := ⟨by decide, rfl, fun w hw => by obtain ⟨k, hk, rfl⟩ := List.mem_map.mp hw; have h := uw10 k (List.mem_range.mp hk); exact jm_in (List.mem_of_getElem? h.1) h.2, tyX10_ok, nmX10⟩
theorem uw11 : ∀ k, k < 14 → lw_tbl[([608, 610, 612, 614, 616, 618, 620, 622, 624, 626, 628, 630, 632, 634] : List Nat).getD k 0]? = some (u_lay RX11 TX11 k) ∧ goodWord (u_lay RX11 TX11 k) = true := by decide +kernel
theorem cl11 : jm_CL 11 RX11 TX11 14 tyX11 := ⟨by decide, rfl, fun w hw => by obtain ⟨k, hk, rfl⟩ := List.mem_map.mp hw; have h := uw11 k (List.mem_range.mp hk); exact jm_in (List.mem_of_getElem? h.1) h.2, tyX11_ok, nmX11⟩
theorem uw12 : ∀ k, k < 98 → lw_tbl[([1491, 1493, 1495, 1497, 1499, 1501, 1503, 1505, 1507, 1509, 1511, 1513, 1515, 1517, 1519, 1521, 1523, 1525, 1527, 1529, 1531, 1533, 1535, 1537, 1539, 1541, 1543, 1545, 1547, 1549, 1551, 1553, 1555, 1557, 1559, 1561, 1563, 1565, 1567, 1569, 1571, 1573, 1575, 1577, 1579, 1581, 1583, 1585, 1587, 1589, 1591, 1593, 1595, 1597, 1599, 1601, 1603, 1605, 1607, 1609, 1611, 1613, 1615, 1617, 1619, 1621, 1623, 1625, 1627, 1629, 1631, 1633, 1635, 1637, 1639, 1641, 1643, 1645, 1647, 1649, 1651, 1653, 1655, 1657, 1659, 1661, 1663, 1665, 1667, 1669, 1671, 1673, 1675, 1677, 1679, 1681, 1683, 1685] : List Nat).getD k 0]? = some (u_lay RX12 TX12 k) ∧ goodWord (u_lay RX12 TX12 k) = true := by decide +kernel
theorem cl12 : jm_CL 12 RX12 TX12 98 tyX12 := ⟨by decide, rfl, fun w hw => by obtain ⟨k, hk, rfl⟩ := List.mem_map.mp hw; have h := uw12 k (List.mem_range.mp hk); exact jm_in (List.mem_of_getElem? h.1) h.2, tyX12_ok, nmX12⟩
/-- where everything lies that the two constructors make: kind and size, by number -/
def lay_S : JS := [(11, 14), (9, 10), (20, 48), (20, 12), (20, 12), (20, 256), (20, 16), (1, 4), (20, 192), (20, 12), (20, 16), (20, 16), (8, 10), (22, 1000), (0, 7), (3, 10), (20, 14), (20, 64), (20, 4), (20, 16), (10, 20), (1, 4), (20, 192), (20, 12), (20, 16), (20, 16), (0, 7), (20, 169), (20, 169), (20, 169), (6, 13), (30, 6), (23, 169), (2, 15), (1, 4), (20, 192), (20, 12), (20, 16), (20, 16), (0, 7), (20, 12), (23, 64), (37, 40), (35, 4), (4, 17), (21, 18), (23, 18), (20, 18), (20, 18), (20, 18), (20, 18), (20, 18), (20, 18), (21, 18), (20, 1000), (4, 17), (21, 18), (23, 18), (20, 18), (20, 18), (20, 18), (20, 18), (20, 18), (20, 18), (21, 18), (20, 1000), (12, 98), (21, 12), (20, 192), (20, 144), (21, 144), (20, 256), (21, 16), (21, 16), (20, 1000), (20, 36), (21, 36), (20, 36), (20, 36), (20, 36), (21, 36), (20, 36), (20, 36), (20, 2000), (20, 7), (21, 7), (20, 7), (20, 7), (20, 7), (20, 7), (20, 7), (20, 7), (20, 7), (20, 7), (20, 7), (20, 20), (20, 40), (20, 40), (20, 40), (20, 40), (20, 40), (20, 40), (20, 40), (20, 40), (21, 40), (20, 40), (20, 40), (21, 40), (21, 40), (20, 640), (20, 640), (20, 640), (20, 640), (21, 640), (20, 169), (20, 169), (20, 169), (20, 169), (21, 169), (21, 4096), (20, 12), (20, 6), (20, 6), (20, 6), (20, 6), (20, 6), (20, 6), (20, 4), (21, 48), (20, 768), (20, 4), (20, 4), (20, 2560), (21, 2560), (20, 160), (20, 160)]
def lay_G : List (Nat × Nat × Nat) := [(0, 0, 1), (0, 1, 7), (0, 2, 12), (0, 3, 14), (0, 4, 15), (0, 5, 20), (0, 6, 30), (0, 7, 33), (0, 8, 42), (0, 9, 43), (1, 0, 2), (1, 1, 3), (1, 2, 4), (1, 3, 5), (1, 4, 6), (7, 0, 8), (7, 1, 9), (7, 2, 10), (7, 3, 11), (12, 0, 13), (15, 0, 1), (15, 1, 16), (15, 2, 17), (15, 3, 18), (15, 4, 19), (20, 0, 1), (20, 1, 7), (20, 2, 15), (20, 3, 21), (20, 4, 26), (20, 5, 27), (20, 6, 28), (20, 7, 29), (21, 0, 22), (21, 1, 23), (21, 2, 24), (21, 3, 25), (30, 0, 1), (30, 1, 7), (30, 2, 15), (30, 3, 20), (30, 4, 31), (30, 5, 32), (33, 0, 1), (33, 1, 7), (33, 2, 15), (33, 3, 34), (33, 4, 39), (33, 5, 40), (33, 6, 41), (34, 0, 35), (34, 1, 36), (34, 2, 37), (34, 3, 38), (44, 0, 45), (44, 1, 46), (44, 2, 47), (44, 3, 48), (44, 4, 49), (44, 5, 50), (44, 6, 51), (44, 7, 52), (44, 8, 53), (44, 9, 54), (55, 0, 56), (55, 1, 57), (55, 2, 58), (55, 3, 59), (55, 4, 60), (55, 5, 61), (55, 6, 62), (55, 7, 63), (55, 8, 64), (55, 9, 65), (66, 1, 67), (66, 2, 68), (66, 3, 69), (66, 4, 70), (66, 5, 71), (66, 6, 72), (66, 7, 73), (66, 10, 74), (66, 19, 75), (66, 20, 76), (66, 21, 77), (66, 22, 78), (66, 23, 79), (66, 24, 80), (66, 25, 81), (66, 26, 82), (66, 27, 83), (66, 31, 84), (66, 32, 85), (66, 36, 86), (66, 37, 87), (66, 38, 88), (66, 39, 89), (66, 40, 90), (66, 41, 91), (66, 42, 92), (66, 43, 93), (66, 44, 94), (66, 45, 95), (66, 53, 96), (66, 54, 97), (66, 55, 98), (66, 56, 99), (66, 57, 100), (66, 58, 101), (66, 59, 102), (66, 60, 103), (66, 61, 104), (66, 62, 105), (66, 63, 106), (66, 64, 107), (66, 65, 108), (66, 66, 109), (66, 67, 110), (66, 68, 111), (66, 69, 112), (66, 70, 113), (66, 71, 114), (66, 72, 115), (66, 73, 116), (66, 74, 117), (66, 75, 118), (66, 79, 119), (66, 80, 120), (66, 82, 121), (66, 83, 122), (66, 84, 123), (66, 85, 124), (66, 86, 125), (66, 87, 126), (66, 89, 127), (66, 90, 128), (66, 91, 129), (66, 92, 130), (66, 93, 131), (66, 94, 132), (66, 95, 133), (66, 96, 134), (66, 97, 135)]
def Lay (G : JG) (S : JS) : Prop := (∀ q ∈ lay_G, G q.1 q.2.1 = some q.2.2) ∧ (∃ S1, S = lay_S ++ S1) ∧
  (∀ t, S[t]? = some (1, 4) → (G t 0 = some (t + 1) ∧ S[t + 1]? = some (20, 192)) ∧ (G t 1 = some (t + 2) ∧ S[t + 2]? = some (20, 12)) ∧ (G t 2 = some (t + 3) ∧ S[t + 3]? = some (20, 16)) ∧ (G t 3 = some (t + 4) ∧ S[t + 4]? = some (20, 16))) ∧
  (∀ t, S[t]? = some (4, 17) → (G t 0 = some (t + 1) ∧ S[t + 1]? = some (21, 18)) ∧ (G t 1 = some (t + 2) ∧ S[t + 2]? = some (23, 18)) ∧ (G t 2 = some (t + 3) ∧ S[t + 3]? = some (20, 18)) ∧ (G t 3 = some (t + 4) ∧ S[t + 4]? = some (20, 18)) ∧ (G t 4 = some (t + 5) ∧ S[t + 5]? = some (20, 18)) ∧ (G t 5 = some (t + 6) ∧ S[t + 6]? = some (20, 18)) ∧ (G t 6 = some (t + 7) ∧ S[t + 7]? = some (20, 18)) ∧ (G t 7 = some (t + 8) ∧ S[t + 8]? = some (20, 18)) ∧ (G t 8 = some (t + 9) ∧ S[t + 9]? = some (21, 18)) ∧ (G t 9 = some (t + 10) ∧ S[t + 10]? = some (20, 1000))) ∧
  (∀ t, S[t]? = some (5, 6) → (G t 0 = some (t + 1) ∧ S[t + 1]? = some (1, 4)) ∧ (G t 1 = some (t + 6) ∧ S[t + 6]? = some (20, 760))) ∧
  (∀ t, S[t]? = some (7, 9) → (G t 0 = some (t + 1) ∧ S[t + 1]? = some (0, 7)) ∧ (G t 1 = some (t + 2) ∧ S[t + 2]? = some (20, 16)) ∧ (G t 2 = some (t + 3) ∧ S[t + 3]? = some (20, 16)) ∧ (G t 3 = some (t + 4) ∧ S[t + 4]? = some (20, 16)) ∧ (G t 4 = some (t + 5) ∧ S[t + 5]? = some (20, 19)))
theorem gs_0_0 {G : JG} {S : JS} (h : Lay G S) : G 0 0 = some 1 := h.1 (0, 0, 1) (List.mem_of_getElem? (i := 0) rfl)
theorem gs_0_1 {G : JG} {S : JS} (h : Lay G S) : G 0 1 = some 7 := h.1 (0, 1, 7) (List.mem_of_getElem? (i := 1) rfl)
theorem gs_0_2 {G : JG} {S : JS} (h : Lay G S) : G 0 2 = some 12 := h.1 (0, 2, 12) (List.mem_of_getElem? (i := 2) rfl)
theorem gs_0_3 {G : JG} {S : JS} (h : Lay G S) : G 0 3 = some 14 := h.1 (0, 3, 14) (List.mem_of_getElem? (i := 3) rfl)
theorem gs_0_4 {G : JG} {S : JS} (h : Lay G S) : G 0 4 = some 15 := h.1 (0, 4, 15) (List.mem_of_getElem? (i := 4) rfl)
theorem gs_0_5 {G : JG} {S : JS} (h : Lay G S) : G 0 5 = some 20 := h.1 (0, 5, 20) (List.mem_of_getElem? (i := 5) rfl)
theorem gs_0_6 {G : JG} {S : JS} (h : Lay G S) : G 0 6 = some 30 := h.1 (0, 6, 30) (List.mem_of_getElem? (i := 6) rfl)
theorem gs_0_7 {G : JG} {S : JS} (h : Lay G S) : G 0 7 = some 33 := h.1 (0, 7, 33) (List.mem_of_getElem? (i := 7) rfl)
theorem gs_0_8 {G : JG} {S : JS} (h : Lay G S) : G 0 8 = some 42 := h.1 (0, 8, 42) (List.mem_of_getElem? (i := 8) rfl)
theorem gs_0_9 {G : JG} {S : JS} (h : Lay G S) : G 0 9 = some 43 := h.1 (0, 9, 43) (List.mem_of_getElem? (i := 9) rfl)
theorem gs_1_0 {G : JG} {S : JS} (h : Lay G S) : G 1 0 = some 2 := h.1 (1, 0, 2) (List.mem_of_getElem? (i := 10) rfl)
theorem gs_1_1 {G : JG} {S : JS} (h : Lay G S) : G 1 1 = some 3 := h.1 (1, 1, 3) (List.mem_of_getElem? (i := 11) rfl)
theorem gs_1_2 {G : JG} {S : JS} (h : Lay G S) : G 1 2 = some 4 := h.1 (1, 2, 4) (List.mem_of_getElem? (i := 12) rfl)
theorem gs_1_3 {G : JG} {S : JS} (h : Lay G S) : G 1 3 = some 5 := h.1 (1, 3, 5) (List.mem_of_getElem? (i := 13) rfl)
theorem gs_1_4 {G : JG} {S : JS} (h : Lay G S) : G 1 4 = some 6 := h.1 (1, 4, 6) (List.mem_of_getElem? (i := 14) rfl)
theorem gs_7_0 {G : JG} {S : JS} (h : Lay G S) : G 7 0 = some 8 := h.1 (7, 0, 8) (List.mem_of_getElem? (i := 15) rfl)
theorem gs_7_1 {G : JG} {S : JS} (h : Lay G S) : G 7 1 = some 9 := h.1 (7, 1, 9) (List.mem_of_getElem? (i := 16) rfl)
theorem gs_7_2 {G : JG} {S : JS} (h : Lay G S) : G 7 2 = some 10 := h.1 (7, 2, 10) (List.mem_of_getElem? (i := 17) rfl)
theorem gs_7_3 {G : JG} {S : JS} (h : Lay G S) : G 7 3 = some 11 := h.1 (7, 3, 11) (List.mem_of_getElem? (i := 18) rfl)
theorem gs_12_0 {G : JG} {S : JS} (h : Lay G S) : G 12 0 = some 13 := h.1 (12, 0, 13) (List.mem_of_getElem? (i := 19) rfl)
theorem gs_15_0 {G : JG} {S : JS} (h : Lay G S) : G 15 0 = some 1 := h.1 (15, 0, 1) (List.mem_of_getElem? (i := 20) rfl)
theorem gs_15_1 {G : JG} {S : JS} (h : Lay G S) : G 15 1 = some 16 := h.1 (15, 1, 16) (List.mem_of_getElem? (i := 21) rfl)
theorem gs_15_2 {G : JG} {S : JS} (h : Lay G S) : G 15 2 = some 17 := h.1 (15, 2, 17) (List.mem_of_getElem? (i := 22) rfl)
theorem gs_15_3 {G : JG} {S : JS} (h : Lay G S) : G 15 3 = some 18 := h.1 (15, 3, 18) (List.mem_of_getElem? (i := 23) rfl)
theorem gs_15_4 {G : JG} {S : JS} (h : Lay G S) : G 15 4 = some 19 := h.1 (15, 4, 19) (List.mem_of_getElem? (i := 24) rfl)
theorem gs_20_0 {G : JG} {S : JS} (h : Lay G S) : G 20 0 = some 1 := h.1 (20, 0, 1) (List.mem_of_getElem? (i := 25) rfl)
theorem gs_20_1 {G : JG} {S : JS} (h : Lay G S) : G 20 1 = some 7 := h.1 (20, 1, 7) (List.mem_of_getElem? (i := 26) rfl)
theorem gs_20_2 {G : JG} {S : JS} (h : Lay G S) : G 20 2 = some 15 := h.1 (20, 2, 15) (List.mem_of_getElem? (i := 27) rfl)
theorem gs_20_3 {G : JG} {S : JS} (h : Lay G S) : G 20 3 = some 21 := h.1 (20, 3, 21) (List.mem_of_getElem? (i := 28) rfl)
theorem gs_20_4 {G : JG} {S : JS} (h : Lay G S) : G 20 4 = some 26 := h.1 (20, 4, 26) (List.mem_of_getElem? (i := 29) rfl)
theorem gs_20_5 {G : JG} {S : JS} (h : Lay G S) : G 20 5 = some 27 := h.1 (20, 5, 27) (List.mem_of_getElem? (i := 30) rfl)
theorem gs_20_6 {G : JG} {S : JS} (h : Lay G S) : G 20 6 = some 28 := h.1 (20, 6, 28) (List.mem_of_getElem? (i := 31) rfl)
theorem gs_20_7 {G : JG} {S : JS} (h : Lay G S) : G 20 7 = some 29 := h.1 (20, 7, 29) (List.mem_of_getElem? (i := 32) rfl)
theorem gs_21_0 {G : JG} {S : JS} (h : Lay G S) : G 21 0 = some 22 := h.1 (21, 0, 22) (List.mem_of_getElem? (i := 33) rfl)
theorem gs_21_1 {G : JG} {S : JS} (h : Lay G S) : G 21 1 = some 23 := h.1 (21, 1, 23) (List.mem_of_getElem? (i := 34) rfl)
theorem gs_21_2 {G : JG} {S : JS} (h : Lay G S) : G 21 2 = some 24 := h.1 (21, 2, 24) (List.mem_of_getElem? (i := 35) rfl)
theorem gs_21_3 {G : JG} {S : JS} (h : Lay G S) : G 21 3 = some 25 := h.1 (21, 3, 25) (List.mem_of_getElem? (i := 36) rfl)
theorem gs_30_0 {G : JG} {S : JS} (h : Lay G S) : G 30 0 = some 1 := h.1 (30, 0, 1) (List.mem_of_getElem? (i := 37) rfl)
theorem gs_30_1 {G : JG} {S : JS} (h : Lay G S) : G 30 1 = some 7 := h.1 (30, 1, 7) (List.mem_of_getElem? (i := 38) rfl)
theorem gs_30_2 {G : JG} {S : JS} (h : Lay G S) : G 30 2 = some 15 := h.1 (30, 2, 15) (List.mem_of_getElem? (i := 39) rfl)
theorem gs_30_3 {G : JG} {S : JS} (h : Lay G S) : G 30 3 = some 20 := h.1 (30, 3, 20) (List.mem_of_getElem? (i := 40) rfl)
theorem gs_30_4 {G : JG} {S : JS} (h : Lay G S) : G 30 4 = some 31 := h.1 (30, 4, 31) (List.mem_of_getElem? (i := 41) rfl)
theorem gs_30_5 {G : JG} {S : JS} (h : Lay G S) : G 30 5 = some 32 := h.1 (30, 5, 32) (List.mem_of_getElem? (i := 42) rfl)
theorem gs_33_0 {G : JG} {S : JS} (h : Lay G S) : G 33 0 = some 1 := h.1 (33, 0, 1) (List.mem_of_getElem? (i := 43) rfl)
theorem gs_33_1 {G : JG} {S : JS} (h : Lay G S) : G 33 1 = some 7 := h.1 (33, 1, 7) (List.mem_of_getElem? (i := 44) rfl)
theorem gs_33_2 {G : JG} {S : JS} (h : Lay G S) : G 33 2 = some 15 := h.1 (33, 2, 15) (List.mem_of_getElem? (i := 45) rfl)
theorem gs_33_3 {G : JG} {S : JS} (h : Lay G S) : G 33 3 = some 34 := h.1 (33, 3, 34) (List.mem_of_getElem? (i := 46) rfl)
theorem gs_33_4 {G : JG} {S : JS} (h : Lay G S) : G 33 4 = some 39 := h.1 (33, 4, 39) (List.mem_of_getElem? (i := 47) rfl)
theorem gs_33_5 {G : JG} {S : JS} (h : Lay G S) : G 33 5 = some 40 := h.1 (33, 5, 40) (List.mem_of_getElem? (i := 48) rfl)
theorem gs_33_6 {G : JG} {S : JS} (h : Lay G S) : G 33 6 = some 41 := h.1 (33, 6, 41) (List.mem_of_getElem? (i := 49) rfl)
theorem gs_34_0 {G : JG} {S : JS} (h : Lay G S) : G 34 0 = some 35 := h.1 (34, 0, 35) (List.mem_of_getElem? (i := 50) rfl)
theorem gs_34_1 {G : JG} {S : JS} (h : Lay G S) : G 34 1 = some 36 := h.1 (34, 1, 36) (List.mem_of_getElem? (i := 51) rfl)
theorem gs_34_2 {G : JG} {S : JS} (h : Lay G S) : G 34 2 = some 37 := h.1 (34, 2, 37) (List.mem_of_getElem? (i := 52) rfl)
theorem gs_34_3 {G : JG} {S : JS} (h : Lay G S) : G 34 3 = some 38 := h.1 (34, 3, 38) (List.mem_of_getElem? (i := 53) rfl)
theorem gs_44_0 {G : JG} {S : JS} (h : Lay G S) : G 44 0 = some 45 := h.1 (44, 0, 45) (List.mem_of_getElem? (i := 54) rfl)
theorem gs_44_1 {G : JG} {S : JS} (h : Lay G S) : G 44 1 = some 46 := h.1 (44, 1, 46) (List.mem_of_getElem? (i := 55) rfl)
theorem gs_44_2 {G : JG} {S : JS} (h : Lay G S) : G 44 2 = some 47 := h.1 (44, 2, 47) (List.mem_of_getElem? (i := 56) rfl)
theorem gs_44_3 {G : JG} {S : JS} (h : Lay G S) : G 44 3 = some 48 := h.1 (44, 3, 48) (List.mem_of_getElem? (i := 57) rfl)
theorem gs_44_4 {G : JG} {S : JS} (h : Lay G S) : G 44 4 = some 49 := h.1 (44, 4, 49) (List.mem_of_getElem? (i := 58) rfl)
theorem gs_44_5 {G : JG} {S : JS} (h : Lay G S) : G 44 5 = some 50 := h.1 (44, 5, 50) (List.mem_of_getElem? (i := 59) rfl)
theorem gs_44_6 {G : JG} {S : JS} (h : Lay G S) : G 44 6 = some 51 := h.1 (44, 6, 51) (List.mem_of_getElem? (i := 60) rfl)
theorem gs_44_7 {G : JG} {S : JS} (h : Lay G S) : G 44 7 = some 52 := h.1 (44, 7, 52) (List.mem_of_getElem? (i := 61) rfl)
theorem gs_44_8 {G : JG} {S : JS} (h : Lay G S) : G 44 8 = some 53 := h.1 (44, 8, 53) (List.mem_of_getElem? (i := 62) rfl)
theorem gs_44_9 {G : JG} {S : JS} (h : Lay G S) : G 44 9 = some 54 := h.1 (44, 9, 54) (List.mem_of_getElem? (i := 63) rfl)
theorem gs_55_0 {G : JG} {S : JS} (h : Lay G S) : G 55 0 = some 56 := h.1 (55, 0, 56) (List.mem_of_getElem? (i := 64) rfl)
theorem gs_55_1 {G : JG} {S : JS} (h : Lay G S) : G 55 1 = some 57 := h.1 (55, 1, 57) (List.mem_of_getElem? (i := 65) rfl)
theorem gs_55_2 {G : JG} {S : JS} (h : Lay G S) : G 55 2 = some 58 := h.1 (55, 2, 58) (List.mem_of_getElem? (i := 66) rfl)
theorem gs_55_3 {G : JG} {S : JS} (h : Lay G S) : G 55 3 = some 59 := h.1 (55, 3, 59) (List.mem_of_getElem? (i := 67) rfl)
theorem gs_55_4 {G : JG} {S : JS} (h : Lay G S) : G 55 4 = some 60 := h.1 (55, 4, 60) (List.mem_of_getElem? (i := 68) rfl)
theorem gs_55_5 {G : JG} {S : JS} (h : Lay G S) : G 55 5 = some 61 := h.1 (55, 5, 61) (List.mem_of_getElem? (i := 69) rfl)
theorem gs_55_6 {G : JG} {S : JS} (h : Lay G S) : G 55 6 = some 62 := h.1 (55, 6, 62) (List.mem_of_getElem? (i := 70) rfl)
theorem gs_55_7 {G : JG} {S : JS} (h : Lay G S) : G 55 7 = some 63 := h.1 (55, 7, 63) (List.mem_of_getElem? (i := 71) rfl)
theorem gs_55_8 {G : JG} {S : JS} (h : Lay G S) : G 55 8 = some 64 := h.1 (55, 8, 64) (List.mem_of_getElem? (i := 72) rfl)
theorem gs_55_9 {G : JG} {S : JS} (h : Lay G S) : G 55 9 = some 65 := h.1 (55, 9, 65) (List.mem_of_getElem? (i := 73) rfl)
theorem gs_66_1 {G : JG} {S : JS} (h : Lay G S) : G 66 1 = some 67 := h.1 (66, 1, 67) (List.mem_of_getElem? (i := 74) rfl)
theorem gs_66_2 {G : JG} {S : JS} (h : Lay G S) : G 66 2 = some 68 := h.1 (66, 2, 68) (List.mem_of_getElem? (i := 75) rfl)
theorem gs_66_3 {G : JG} {S : JS} (h : Lay G S) : G 66 3 = some 69 := h.1 (66, 3, 69) (List.mem_of_getElem? (i := 76) rfl)
theorem gs_66_4 {G : JG} {S : JS} (h : Lay G S) : G 66 4 = some 70 := h.1 (66, 4, 70) (List.mem_of_getElem? (i := 77) rfl)
theorem gs_66_5 {G : JG} {S : JS} (h : Lay G S) : G 66 5 = some 71 := h.1 (66, 5, 71) (List.mem_of_getElem? (i := 78) rfl)
theorem gs_66_6 {G : JG} {S : JS} (h : Lay G S) : G 66 6 = some 72 := h.1 (66, 6, 72) (List.mem_of_getElem? (i := 79) rfl)
theorem gs_66_7 {G : JG} {S : JS} (h : Lay G S) : G 66 7 = some 73 := h.1 (66, 7, 73) (List.mem_of_getElem? (i := 80) rfl)
theorem gs_66_10 {G : JG} {S : JS} (h : Lay G S) : G 66 10 = some 74 := h.1 (66, 10, 74) (List.mem_of_getElem? (i := 81) rfl)
theorem gs_66_19 {G : JG} {S : JS} (h : Lay G S) : G 66 19 = some 75 := h.1 (66, 19, 75) (List.mem_of_getElem? (i := 82) rfl)
theorem gs_66_20 {G : JG} {S : JS} (h : Lay G S) : G 66 20 = some 76 := h.1 (66, 20, 76) (List.mem_of_getElem? (i := 83) rfl)
theorem gs_66_21 {G : JG} {S : JS} (h : Lay G S) : G 66 21 = some 77 := h.1 (66, 21, 77) (List.mem_of_getElem? (i := 84) rfl)
theorem gs_66_22 {G : JG} {S : JS} (h : Lay G S) : G 66 22 = some 78 := h.1 (66, 22, 78) (List.mem_of_getElem? (i := 85) rfl)
theorem gs_66_23 {G : JG} {S : JS} (h : Lay G S) : G 66 23 = some 79 := h.1 (66, 23, 79) (List.mem_of_getElem? (i := 86) rfl)
theorem gs_66_24 {G : JG} {S : JS} (h : Lay G S) : G 66 24 = some 80 := h.1 (66, 24, 80) (List.mem_of_getElem? (i := 87) rfl)
theorem gs_66_25 {G : JG} {S : JS} (h : Lay G S) : G 66 25 = some 81 := h.1 (66, 25, 81) (List.mem_of_getElem? (i := 88) rfl)
theorem gs_66_26 {G : JG} {S : JS} (h : Lay G S) : G 66 26 = some 82 := h.1 (66, 26, 82) (List.mem_of_getElem? (i := 89) rfl)
theorem gs_66_27 {G : JG} {S : JS} (h : Lay G S) : G 66 27 = some 83 := h.1 (66, 27, 83) (List.mem_of_getElem? (i := 90) rfl)
theorem gs_66_31 {G : JG} {S : JS} (h : Lay G S) : G 66 31 = some 84 := h.1 (66, 31, 84) (List.mem_of_getElem? (i := 91) rfl)
theorem gs_66_32 {G : JG} {S : JS} (h : Lay G S) : G 66 32 = some 85 := h.1 (66, 32, 85) (List.mem_of_getElem? (i := 92) rfl)
theorem gs_66_36 {G : JG} {S : JS} (h : Lay G S) : G 66 36 = some 86 := h.1 (66, 36, 86) (List.mem_of_getElem? (i := 93) rfl)
theorem gs_66_37 {G : JG} {S : JS} (h : Lay G S) : G 66 37 = some 87 := h.1 (66, 37, 87) (List.mem_of_getElem? (i := 94) rfl)
theorem gs_66_38 {G : JG} {S : JS} (h : Lay G S) : G 66 38 = some 88 := h.1 (66, 38, 88) (List.mem_of_getElem? (i := 95) rfl)
theorem gs_66_39 {G : JG} {S : JS} (h : Lay G S) : G 66 39 = some 89 := h.1 (66, 39, 89) (List.mem_of_getElem? (i := 96) rfl)
theorem gs_66_40 {G : JG} {S : JS} (h : Lay G S) : G 66 40 = some 90 := h.1 (66, 40, 90) (List.mem_of_getElem? (i := 97) rfl)
theorem gs_66_41 {G : JG} {S : JS} (h : Lay G S) : G 66 41 = some 91 := h.1 (66, 41, 91) (List.mem_of_getElem? (i := 98) rfl)
theorem gs_66_42 {G : JG} {S : JS} (h : Lay G S) : G 66 42 = some 92 := h.1 (66, 42, 92) (List.mem_of_getElem? (i := 99) rfl)
theorem gs_66_43 {G : JG} {S : JS} (h : Lay G S) : G 66 43 = some 93 := h.1 (66, 43, 93) (List.mem_of_getElem? (i := 100) rfl)
theorem gs_66_44 {G : JG} {S : JS} (h : Lay G S) : G 66 44 = some 94 := h.1 (66, 44, 94) (List.mem_of_getElem? (i := 101) rfl)
theorem gs_66_45 {G : JG} {S : JS} (h : Lay G S) : G 66 45 = some 95 := h.1 (66, 45, 95) (List.mem_of_getElem? (i := 102) rfl)
theorem gs_66_53 {G : JG} {S : JS} (h : Lay G S) : G 66 53 = some 96 := h.1 (66, 53, 96) (List.mem_of_getElem? (i := 103) rfl)
theorem gs_66_54 {G : JG} {S : JS} (h : Lay G S) : G 66 54 = some 97 := h.1 (66, 54, 97) (List.mem_of_getElem? (i := 104) rfl)
theorem gs_66_55 {G : JG} {S : JS} (h : Lay G S) : G 66 55 = some 98 := h.1 (66, 55, 98) (List.mem_of_getElem? (i := 105) rfl)
theorem gs_66_56 {G : JG} {S : JS} (h : Lay G S) : G 66 56 = some 99 := h.1 (66, 56, 99) (List.mem_of_getElem? (i := 106) rfl)
theorem gs_66_57 {G : JG} {S : JS} (h : Lay G S) : G 66 57 = some 100 := h.1 (66, 57, 100) (List.mem_of_getElem? (i := 107) rfl)
theorem gs_66_58 {G : JG} {S : JS} (h : Lay G S) : G 66 58 = some 101 := h.1 (66, 58, 101) (List.mem_of_getElem? (i := 108) rfl)
theorem gs_66_59 {G : JG} {S : JS} (h : Lay G S) : G 66 59 = some 102 := h.1 (66, 59, 102) (List.mem_of_getElem? (i := 109) rfl)
theorem gs_66_60 {G : JG} {S : JS} (h : Lay G S) : G 66 60 = some 103 := h.1 (66, 60, 103) (List.mem_of_getElem? (i := 110) rfl)
theorem gs_66_61 {G : JG} {S : JS} (h : Lay G S) : G 66 61 = some 104 := h.1 (66, 61, 104) (List.mem_of_getElem? (i := 111) rfl)
theorem gs_66_62 {G : JG} {S : JS} (h : Lay G S) : G 66 62 = some 105 := h.1 (66, 62, 105) (List.mem_of_getElem? (i := 112) rfl)
theorem gs_66_63 {G : JG} {S : JS} (h : Lay G S) : G 66 63 = some 106 := h.1 (66, 63, 106) (List.mem_of_getElem? (i := 113) rfl)
theorem gs_66_64 {G : JG} {S : JS} (h : Lay G S) : G 66 64 = some 107 := h.1 (66, 64, 107) (List.mem_of_getElem? (i := 114) rfl)
theorem gs_66_65 {G : JG} {S : JS} (h : Lay G S) : G 66 65 = some 108 := h.1 (66, 65, 108) (List.mem_of_getElem? (i := 115) rfl)
theorem gs_66_66 {G : JG} {S : JS} (h : Lay G S) : G 66 66 = some 109 := h.1 (66, 66, 109) (List.mem_of_getElem? (i := 116) rfl)
theorem gs_66_67 {G : JG} {S : JS} (h : Lay G S) : G 66 67 = some 110 := h.1 (66, 67, 110) (List.mem_of_getElem? (i := 117) rfl)
theorem gs_66_68 {G : JG} {S : JS} (h : Lay G S) : G 66 68 = some 111 := h.1 (66, 68, 111) (List.mem_of_getElem? (i := 118) rfl)
theorem gs_66_69 {G : JG} {S : JS} (h : Lay G S) : G 66 69 = some 112 := h.1 (66, 69, 112) (List.mem_of_getElem? (i := 119) rfl)
theorem gs_66_70 {G : JG} {S : JS} (h : Lay G S) : G 66 70 = some 113 := h.1 (66, 70, 113) (List.mem_of_getElem? (i := 120) rfl)
theorem gs_66_71 {G : JG} {S : JS} (h : Lay G S) : G 66 71 = some 114 := h.1 (66, 71, 114) (List.mem_of_getElem? (i := 121) rfl)
theorem gs_66_72 {G : JG} {S : JS} (h : Lay G S) : G 66 72 = some 115 := h.1 (66, 72, 115) (List.mem_of_getElem? (i := 122) rfl)
theorem gs_66_73 {G : JG} {S : JS} (h : Lay G S) : G 66 73 = some 116 := h.1 (66, 73, 116) (List.mem_of_getElem? (i := 123) rfl)
theorem gs_66_74 {G : JG} {S : JS} (h : Lay G S) : G 66 74 = some 117 := h.1 (66, 74, 117) (List.mem_of_getElem? (i := 124) rfl)
theorem gs_66_75 {G : JG} {S : JS} (h : Lay G S) : G 66 75 = some 118 := h.1 (66, 75, 118) (List.mem_of_getElem? (i := 125) rfl)
theorem gs_66_79 {G : JG} {S : JS} (h : Lay G S) : G 66 79 = some 119 := h.1 (66, 79, 119) (List.mem_of_getElem? (i := 126) rfl)
theorem gs_66_80 {G : JG} {S : JS} (h : Lay G S) : G 66 80 = some 120 := h.1 (66, 80, 120) (List.mem_of_getElem? (i := 127) rfl)
theorem gs_66_82 {G : JG} {S : JS} (h : Lay G S) : G 66 82 = some 121 := h.1 (66, 82, 121) (List.mem_of_getElem? (i := 128) rfl)
theorem gs_66_83 {G : JG} {S : JS} (h : Lay G S) : G 66 83 = some 122 := h.1 (66, 83, 122) (List.mem_of_getElem? (i := 129) rfl)
theorem gs_66_84 {G : JG} {S : JS} (h : Lay G S) : G 66 84 = some 123 := h.1 (66, 84, 123) (List.mem_of_getElem? (i := 130) rfl)
theorem gs_66_85 {G : JG} {S : JS} (h : Lay G S) : G 66 85 = some 124 := h.1 (66, 85, 124) (List.mem_of_getElem? (i := 131) rfl)
theorem gs_66_86 {G : JG} {S : JS} (h : Lay G S) : G 66 86 = some 125 := h.1 (66, 86, 125) (List.mem_of_getElem? (i := 132) rfl)
theorem gs_66_87 {G : JG} {S : JS} (h : Lay G S) : G 66 87 = some 126 := h.1 (66, 87, 126) (List.mem_of_getElem? (i := 133) rfl)
theorem gs_66_89 {G : JG} {S : JS} (h : Lay G S) : G 66 89 = some 127 := h.1 (66, 89, 127) (List.mem_of_getElem? (i := 134) rfl)
theorem gs_66_90 {G : JG} {S : JS} (h : Lay G S) : G 66 90 = some 128 := h.1 (66, 90, 128) (List.mem_of_getElem? (i := 135) rfl)
theorem gs_66_91 {G : JG} {S : JS} (h : Lay G S) : G 66 91 = some 129 := h.1 (66, 91, 129) (List.mem_of_getElem? (i := 136) rfl)
theorem gs_66_92 {G : JG} {S : JS} (h : Lay G S) : G 66 92 = some 130 := h.1 (66, 92, 130) (List.mem_of_getElem? (i := 137) rfl)
theorem gs_66_93 {G : JG} {S : JS} (h : Lay G S) : G 66 93 = some 131 := h.1 (66, 93, 131) (List.mem_of_getElem? (i := 138) rfl)
theorem gs_66_94 {G : JG} {S : JS} (h : Lay G S) : G 66 94 = some 132 := h.1 (66, 94, 132) (List.mem_of_getElem? (i := 139) rfl)
theorem gs_66_95 {G : JG} {S : JS} (h : Lay G S) : G 66 95 = some 133 := h.1 (66, 95, 133) (List.mem_of_getElem? (i := 140) rfl)
theorem gs_66_96 {G : JG} {S : JS} (h : Lay G S) : G 66 96 = some 134 := h.1 (66, 96, 134) (List.mem_of_getElem? (i := 141) rfl)
theorem gs_66_97 {G : JG} {S : JS} (h : Lay G S) : G 66 97 = some 135 := h.1 (66, 97, 135) (List.mem_of_getElem? (i := 142) rfl)
theorem lay_sh {G : JG} {S : JS} (h : Lay G S) {i : Nat} {sh : Nat × Nat} (hh : lay_S[i]? = some sh) : S[i]? = some sh := by
  obtain ⟨S1, rfl⟩ := h.2.1
  exact jm_pre hh
theorem sh_0 {G : JG} {S : JS} (h : Lay G S) : S[0]? = some (11, 14) := lay_sh h (i := 0) rfl
theorem sh_1 {G : JG} {S : JS} (h : Lay G S) : S[1]? = some (9, 10) := lay_sh h (i := 1) rfl
theorem sh_2 {G : JG} {S : JS} (h : Lay G S) : S[2]? = some (20, 48) := lay_sh h (i := 2) rfl
theorem sh_3 {G : JG} {S : JS} (h : Lay G S) : S[3]? = some (20, 12) := lay_sh h (i := 3) rfl
theorem sh_4 {G : JG} {S : JS} (h : Lay G S) : S[4]? = some (20, 12) := lay_sh h (i := 4) rfl
theorem sh_5 {G : JG} {S : JS} (h : Lay G S) : S[5]? = some (20, 256) := lay_sh h (i := 5) rfl
theorem sh_6 {G : JG} {S : JS} (h : Lay G S) : S[6]? = some (20, 16) := lay_sh h (i := 6) rfl
theorem sh_7 {G : JG} {S : JS} (h : Lay G S) : S[7]? = some (1, 4) := lay_sh h (i := 7) rfl
theorem sh_8 {G : JG} {S : JS} (h : Lay G S) : S[8]? = some (20, 192) := lay_sh h (i := 8) rfl
theorem sh_9 {G : JG} {S : JS} (h : Lay G S) : S[9]? = some (20, 12) := lay_sh h (i := 9) rfl
theorem sh_10 {G : JG} {S : JS} (h : Lay G S) : S[10]? = some (20, 16) := lay_sh h (i := 10) rfl
theorem sh_11 {G : JG} {S : JS} (h : Lay G S) : S[11]? = some (20, 16) := lay_sh h (i := 11) rfl
theorem sh_12 {G : JG} {S : JS} (h : Lay G S) : S[12]? = some (8, 10) := lay_sh h (i := 12) rfl
theorem sh_13 {G : JG} {S : JS} (h : Lay G S) : S[13]? = some (22, 1000) := lay_sh h (i := 13) rfl
theorem sh_14 {G : JG} {S : JS} (h : Lay G S) : S[14]? = some (0, 7) := lay_sh h (i := 14) rfl
theorem sh_15 {G : JG} {S : JS} (h : Lay G S) : S[15]? = some (3, 10) := lay_sh h (i := 15) rfl
theorem sh_16 {G : JG} {S : JS} (h : Lay G S) : S[16]? = some (20, 14) := lay_sh h (i := 16) rfl
theorem sh_17 {G : JG} {S : JS} (h : Lay G S) : S[17]? = some (20, 64) := lay_sh h (i := 17) rfl
theorem sh_18 {G : JG} {S : JS} (h : Lay G S) : S[18]? = some (20, 4) := lay_sh h (i := 18) rfl
theorem sh_19 {G : JG} {S : JS} (h : Lay G S) : S[19]? = some (20, 16) := lay_sh h (i := 19) rfl
theorem sh_20 {G : JG} {S : JS} (h : Lay G S) : S[20]? = some (10, 20) := lay_sh h (i := 20) rfl
theorem sh_21 {G : JG} {S : JS} (h : Lay G S) : S[21]? = some (1, 4) := lay_sh h (i := 21) rfl
theorem sh_22 {G : JG} {S : JS} (h : Lay G S) : S[22]? = some (20, 192) := lay_sh h (i := 22) rfl
theorem sh_23 {G : JG} {S : JS} (h : Lay G S) : S[23]? = some (20, 12) := lay_sh h (i := 23) rfl
theorem sh_24 {G : JG} {S : JS} (h : Lay G S) : S[24]? = some (20, 16) := lay_sh h (i := 24) rfl
theorem sh_25 {G : JG} {S : JS} (h : Lay G S) : S[25]? = some (20, 16) := lay_sh h (i := 25) rfl
theorem sh_26 {G : JG} {S : JS} (h : Lay G S) : S[26]? = some (0, 7) := lay_sh h (i := 26) rfl
theorem sh_27 {G : JG} {S : JS} (h : Lay G S) : S[27]? = some (20, 169) := lay_sh h (i := 27) rfl
theorem sh_28 {G : JG} {S : JS} (h : Lay G S) : S[28]? = some (20, 169) := lay_sh h (i := 28) rfl
theorem sh_29 {G : JG} {S : JS} (h : Lay G S) : S[29]? = some (20, 169) := lay_sh h (i := 29) rfl
theorem sh_30 {G : JG} {S : JS} (h : Lay G S) : S[30]? = some (6, 13) := lay_sh h (i := 30) rfl
theorem sh_31 {G : JG} {S : JS} (h : Lay G S) : S[31]? = some (30, 6) := lay_sh h (i := 31) rfl
theorem sh_32 {G : JG} {S : JS} (h : Lay G S) : S[32]? = some (23, 169) := lay_sh h (i := 32) rfl
theorem sh_33 {G : JG} {S : JS} (h : Lay G S) : S[33]? = some (2, 15) := lay_sh h (i := 33) rfl
theorem sh_34 {G : JG} {S : JS} (h : Lay G S) : S[34]? = some (1, 4) := lay_sh h (i := 34) rfl
theorem sh_35 {G : JG} {S : JS} (h : Lay G S) : S[35]? = some (20, 192) := lay_sh h (i := 35) rfl
theorem sh_36 {G : JG} {S : JS} (h : Lay G S) : S[36]? = some (20, 12) := lay_sh h (i := 36) rfl
theorem sh_37 {G : JG} {S : JS} (h : Lay G S) : S[37]? = some (20, 16) := lay_sh h (i := 37) rfl
theorem sh_38 {G : JG} {S : JS} (h : Lay G S) : S[38]? = some (20, 16) := lay_sh h (i := 38) rfl
theorem sh_39 {G : JG} {S : JS} (h : Lay G S) : S[39]? = some (0, 7) := lay_sh h (i := 39) rfl
theorem sh_40 {G : JG} {S : JS} (h : Lay G S) : S[40]? = some (20, 12) := lay_sh h (i := 40) rfl
theorem sh_41 {G : JG} {S : JS} (h : Lay G S) : S[41]? = some (23, 64) := lay_sh h (i := 41) rfl
theorem sh_42 {G : JG} {S : JS} (h : Lay G S) : S[42]? = some (37, 40) := lay_sh h (i := 42) rfl
theorem sh_43 {G : JG} {S : JS} (h : Lay G S) : S[43]? = some (35, 4) := lay_sh h (i := 43) rfl
theorem sh_44 {G : JG} {S : JS} (h : Lay G S) : S[44]? = some (4, 17) := lay_sh h (i := 44) rfl
theorem sh_45 {G : JG} {S : JS} (h : Lay G S) : S[45]? = some (21, 18) := lay_sh h (i := 45) rfl
theorem sh_46 {G : JG} {S : JS} (h : Lay G S) : S[46]? = some (23, 18) := lay_sh h (i := 46) rfl
theorem sh_47 {G : JG} {S : JS} (h : Lay G S) : S[47]? = some (20, 18) := lay_sh h (i := 47) rfl
theorem sh_48 {G : JG} {S : JS} (h : Lay G S) : S[48]? = some (20, 18) := lay_sh h (i := 48) rfl
theorem sh_49 {G : JG} {S : JS} (h : Lay G S) : S[49]? = some (20, 18) := lay_sh h (i := 49) rfl
theorem sh_50 {G : JG} {S : JS} (h : Lay G S) : S[50]? = some (20, 18) := lay_sh h (i := 50) rfl
theorem sh_51 {G : JG} {S : JS} (h : Lay G S) : S[51]? = some (20, 18) := lay_sh h (i := 51) rfl
theorem sh_52 {G : JG} {S : JS} (h : Lay G S) : S[52]? = some (20, 18) := lay_sh h (i := 52) rfl
theorem sh_53 {G : JG} {S : JS} (h : Lay G S) : S[53]? = some (21, 18) := lay_sh h (i := 53) rfl
theorem sh_54 {G : JG} {S : JS} (h : Lay G S) : S[54]? = some (20, 1000) := lay_sh h (i := 54) rfl
theorem sh_55 {G : JG} {S : JS} (h : Lay G S) : S[55]? = some (4, 17) := lay_sh h (i := 55) rfl
theorem sh_56 {G : JG} {S : JS} (h : Lay G S) : S[56]? = some (21, 18) := lay_sh h (i := 56) rfl
theorem sh_57 {G : JG} {S : JS} (h : Lay G S) : S[57]? = some (23, 18) := lay_sh h (i := 57) rfl
theorem sh_58 {G : JG} {S : JS} (h : Lay G S) : S[58]? = some (20, 18) := lay_sh h (i := 58) rfl
theorem sh_59 {G : JG} {S : JS} (h : Lay G S) : S[59]? = some (20, 18) := lay_sh h (i := 59) rfl
theorem sh_60 {G : JG} {S : JS} (h : Lay G S) : S[60]? = some (20, 18) := lay_sh h (i := 60) rfl
theorem sh_61 {G : JG} {S : JS} (h : Lay G S) : S[61]? = some (20, 18) := lay_sh h (i := 61) rfl
theorem sh_62 {G : JG} {S : JS} (h : Lay G S) : S[62]? = some (20, 18) := lay_sh h (i := 62) rfl
theorem sh_63 {G : JG} {S : JS} (h : Lay G S) : S[63]? = some (20, 18) := lay_sh h (i := 63) rfl
theorem sh_64 {G : JG} {S : JS} (h : Lay G S) : S[64]? = some (21, 18) := lay_sh h (i := 64) rfl
theorem sh_65 {G : JG} {S : JS} (h : Lay G S) : S[65]? = some (20, 1000) := lay_sh h (i := 65) rfl
theorem sh_66 {G : JG} {S : JS} (h : Lay G S) : S[66]? = some (12, 98) := lay_sh h (i := 66) rfl
theorem sh_67 {G : JG} {S : JS} (h : Lay G S) : S[67]? = some (21, 12) := lay_sh h (i := 67) rfl
theorem sh_68 {G : JG} {S : JS} (h : Lay G S) : S[68]? = some (20, 192) := lay_sh h (i := 68) rfl
theorem sh_69 {G : JG} {S : JS} (h : Lay G S) : S[69]? = some (20, 144) := lay_sh h (i := 69) rfl
theorem sh_70 {G : JG} {S : JS} (h : Lay G S) : S[70]? = some (21, 144) := lay_sh h (i := 70) rfl
theorem sh_71 {G : JG} {S : JS} (h : Lay G S) : S[71]? = some (20, 256) := lay_sh h (i := 71) rfl
theorem sh_72 {G : JG} {S : JS} (h : Lay G S) : S[72]? = some (21, 16) := lay_sh h (i := 72) rfl
theorem sh_73 {G : JG} {S : JS} (h : Lay G S) : S[73]? = some (21, 16) := lay_sh h (i := 73) rfl
theorem sh_74 {G : JG} {S : JS} (h : Lay G S) : S[74]? = some (20, 1000) := lay_sh h (i := 74) rfl
theorem sh_75 {G : JG} {S : JS} (h : Lay G S) : S[75]? = some (20, 36) := lay_sh h (i := 75) rfl
theorem sh_76 {G : JG} {S : JS} (h : Lay G S) : S[76]? = some (21, 36) := lay_sh h (i := 76) rfl
theorem sh_77 {G : JG} {S : JS} (h : Lay G S) : S[77]? = some (20, 36) := lay_sh h (i := 77) rfl
theorem sh_78 {G : JG} {S : JS} (h : Lay G S) : S[78]? = some (20, 36) := lay_sh h (i := 78) rfl
theorem sh_79 {G : JG} {S : JS} (h : Lay G S) : S[79]? = some (20, 36) := lay_sh h (i := 79) rfl
theorem sh_80 {G : JG} {S : JS} (h : Lay G S) : S[80]? = some (21, 36) := lay_sh h (i := 80) rfl
theorem sh_81 {G : JG} {S : JS} (h : Lay G S) : S[81]? = some (20, 36) := lay_sh h (i := 81) rfl
theorem sh_82 {G : JG} {S : JS} (h : Lay G S) : S[82]? = some (20, 36) := lay_sh h (i := 82) rfl
theorem sh_83 {G : JG} {S : JS} (h : Lay G S) : S[83]? = some (20, 2000) := lay_sh h (i := 83) rfl
theorem sh_84 {G : JG} {S : JS} (h : Lay G S) : S[84]? = some (20, 7) := lay_sh h (i := 84) rfl
theorem sh_85 {G : JG} {S : JS} (h : Lay G S) : S[85]? = some (21, 7) := lay_sh h (i := 85) rfl
theorem sh_86 {G : JG} {S : JS} (h : Lay G S) : S[86]? = some (20, 7) := lay_sh h (i := 86) rfl
theorem sh_87 {G : JG} {S : JS} (h : Lay G S) : S[87]? = some (20, 7) := lay_sh h (i := 87) rfl
theorem sh_88 {G : JG} {S : JS} (h : Lay G S) : S[88]? = some (20, 7) := lay_sh h (i := 88) rfl
theorem sh_89 {G : JG} {S : JS} (h : Lay G S) : S[89]? = some (20, 7) := lay_sh h (i := 89) rfl
theorem sh_90 {G : JG} {S : JS} (h : Lay G S) : S[90]? = some (20, 7) := lay_sh h (i := 90) rfl
theorem sh_91 {G : JG} {S : JS} (h : Lay G S) : S[91]? = some (20, 7) := lay_sh h (i := 91) rfl
theorem sh_92 {G : JG} {S : JS} (h : Lay G S) : S[92]? = some (20, 7) := lay_sh h (i := 92) rfl
theorem sh_93 {G : JG} {S : JS} (h : Lay G S) : S[93]? = some (20, 7) := lay_sh h (i := 93) rfl
theorem sh_94 {G : JG} {S : JS} (h : Lay G S) : S[94]? = some (20, 7) := lay_sh h (i := 94) rfl
theorem sh_95 {G : JG} {S : JS} (h : Lay G S) : S[95]? = some (20, 20) := lay_sh h (i := 95) rfl
theorem sh_96 {G : JG} {S : JS} (h : Lay G S) : S[96]? = some (20, 40) := lay_sh h (i := 96) rfl
theorem sh_97 {G : JG} {S : JS} (h : Lay G S) : S[97]? = some (20, 40) := lay_sh h (i := 97) rfl
theorem sh_98 {G : JG} {S : JS} (h : Lay G S) : S[98]? = some (20, 40) := lay_sh h (i := 98) rfl
theorem sh_99 {G : JG} {S : JS} (h : Lay G S) : S[99]? = some (20, 40) := lay_sh h (i := 99) rfl
theorem sh_100 {G : JG} {S : JS} (h : Lay G S) : S[100]? = some (20, 40) := lay_sh h (i := 100) rfl
theorem sh_101 {G : JG} {S : JS} (h : Lay G S) : S[101]? = some (20, 40) := lay_sh h (i := 101) rfl
theorem sh_102 {G : JG} {S : JS} (h : Lay G S) : S[102]? = some (20, 40) := lay_sh h (i := 102) rfl
theorem sh_103 {G : JG} {S : JS} (h : Lay G S) : S[103]? = some (20, 40) := lay_sh h (i := 103) rfl
theorem sh_104 {G : JG} {S : JS} (h : Lay G S) : S[104]? = some (21, 40) := lay_sh h (i := 104) rfl
theorem sh_105 {G : JG} {S : JS} (h : Lay G S) : S[105]? = some (20, 40) := lay_sh h (i := 105) rfl
theorem sh_106 {G : JG} {S : JS} (h : Lay G S) : S[106]? = some (20, 40) := lay_sh h (i := 106) rfl
theorem sh_107 {G : JG} {S : JS} (h : Lay G S) : S[107]? = some (21, 40) := lay_sh h (i := 107) rfl
theorem sh_108 {G : JG} {S : JS} (h : Lay G S) : S[108]? = some (21, 40) := lay_sh h (i := 108) rfl
theorem sh_109 {G : JG} {S : JS} (h : Lay G S) : S[109]? = some (20, 640) := lay_sh h (i := 109) rfl
theorem sh_110 {G : JG} {S : JS} (h : Lay G S) : S[110]? = some (20, 640) := lay_sh h (i := 110) rfl
theorem sh_111 {G : JG} {S : JS} (h : Lay G S) : S[111]? = some (20, 640) := lay_sh h (i := 111) rfl
theorem sh_112 {G : JG} {S : JS} (h : Lay G S) : S[112]? = some (20, 640) := lay_sh h (i := 112) rfl
theorem sh_113 {G : JG} {S : JS} (h : Lay G S) : S[113]? = some (21, 640) := lay_sh h (i := 113) rfl
theorem sh_114 {G : JG} {S : JS} (h : Lay G S) : S[114]? = some (20, 169) := lay_sh h (i := 114) rfl
theorem sh_115 {G : JG} {S : JS} (h : Lay G S) : S[115]? = some (20, 169) := lay_sh h (i := 115) rfl
theorem sh_116 {G : JG} {S : JS} (h : Lay G S) : S[116]? = some (20, 169) := lay_sh h (i := 116) rfl
theorem sh_117 {G : JG} {S : JS} (h : Lay G S) : S[117]? = some (20, 169) := lay_sh h (i := 117) rfl
theorem sh_118 {G : JG} {S : JS} (h : Lay G S) : S[118]? = some (21, 169) := lay_sh h (i := 118) rfl
theorem sh_119 {G : JG} {S : JS} (h : Lay G S) : S[119]? = some (21, 4096) := lay_sh h (i := 119) rfl
theorem sh_120 {G : JG} {S : JS} (h : Lay G S) : S[120]? = some (20, 12) := lay_sh h (i := 120) rfl
theorem sh_121 {G : JG} {S : JS} (h : Lay G S) : S[121]? = some (20, 6) := lay_sh h (i := 121) rfl
theorem sh_122 {G : JG} {S : JS} (h : Lay G S) : S[122]? = some (20, 6) := lay_sh h (i := 122) rfl
theorem sh_123 {G : JG} {S : JS} (h : Lay G S) : S[123]? = some (20, 6) := lay_sh h (i := 123) rfl
theorem sh_124 {G : JG} {S : JS} (h : Lay G S) : S[124]? = some (20, 6) := lay_sh h (i := 124) rfl
theorem sh_125 {G : JG} {S : JS} (h : Lay G S) : S[125]? = some (20, 6) := lay_sh h (i := 125) rfl
theorem sh_126 {G : JG} {S : JS} (h : Lay G S) : S[126]? = some (20, 6) := lay_sh h (i := 126) rfl
theorem sh_127 {G : JG} {S : JS} (h : Lay G S) : S[127]? = some (20, 4) := lay_sh h (i := 127) rfl
theorem sh_128 {G : JG} {S : JS} (h : Lay G S) : S[128]? = some (21, 48) := lay_sh h (i := 128) rfl
theorem sh_129 {G : JG} {S : JS} (h : Lay G S) : S[129]? = some (20, 768) := lay_sh h (i := 129) rfl
theorem sh_130 {G : JG} {S : JS} (h : Lay G S) : S[130]? = some (20, 4) := lay_sh h (i := 130) rfl
theorem sh_131 {G : JG} {S : JS} (h : Lay G S) : S[131]? = some (20, 4) := lay_sh h (i := 131) rfl
theorem sh_132 {G : JG} {S : JS} (h : Lay G S) : S[132]? = some (20, 2560) := lay_sh h (i := 132) rfl
theorem sh_133 {G : JG} {S : JS} (h : Lay G S) : S[133]? = some (21, 2560) := lay_sh h (i := 133) rfl
theorem sh_134 {G : JG} {S : JS} (h : Lay G S) : S[134]? = some (20, 160) := lay_sh h (i := 134) rfl
theorem sh_135 {G : JG} {S : JS} (h : Lay G S) : S[135]? = some (20, 160) := lay_sh h (i := 135) rfl
theorem ly1_0 {G : JG} {S : JS} {t : Nat} (h : Lay G S) (ht : S[t]? = some (1, 4)) : G t 0 = some (t + 1) ∧ S[t + 1]? = some (20, 192) := (h.2.2.1 t ht).1
theorem ly1_1 {G : JG} {S : JS} {t : Nat} (h : Lay G S) (ht : S[t]? = some (1, 4)) : G t 1 = some (t + 2) ∧ S[t + 2]? = some (20, 12) := (h.2.2.1 t ht).2.1
theorem ly1_2 {G : JG} {S : JS} {t : Nat} (h : Lay G S) (ht : S[t]? = some (1, 4)) : G t 2 = some (t + 3) ∧ S[t + 3]? = some (20, 16) := (h.2.2.1 t ht).2.2.1
theorem ly1_3 {G : JG} {S : JS} {t : Nat} (h : Lay G S) (ht : S[t]? = some (1, 4)) : G t 3 = some (t + 4) ∧ S[t + 4]? = some (20, 16) := (h.2.2.1 t ht).2.2.2
theorem ly4_0 {G : JG} {S : JS} {t : Nat} (h : Lay G S) (ht : S[t]? = some (4, 17)) : G t 0 = some (t + 1) ∧ S[t + 1]? = some (21, 18) := (h.2.2.2.1 t ht).1
theorem ly4_1 {G : JG} {S : JS} {t : Nat} (h : Lay G S) (ht : S[t]? = some (4, 17)) : G t 1 = some (t + 2) ∧ S[t + 2]? = some (23, 18) := (h.2.2.2.1 t ht).2.1
theorem ly4_2 {G : JG} {S : JS} {t : Nat} (h : Lay G S) (ht : S[t]? = some (4, 17)) : G t 2 = some (t + 3) ∧ S[t + 3]? = some (20, 18) := (h.2.2.2.1 t ht).2.2.1
theorem ly4_3 {G : JG} {S : JS} {t : Nat} (h : Lay G S) (ht : S[t]? = some (4, 17)) : G t 3 = some (t + 4) ∧ S[t + 4]? = some (20, 18) := (h.2.2.2.1 t ht).2.2.2.1
theorem ly4_4 {G : JG} {S : JS} {t : Nat} (h : Lay G S) (ht : S[t]? = some (4, 17)) : G t 4 = some (t + 5) ∧ S[t + 5]? = some (20, 18) := (h.2.2.2.1 t ht).2.2.2.2.1
theorem ly4_5 {G : JG} {S : JS} {t : Nat} (h : Lay G S) (ht : S[t]? = some (4, 17)) : G t 5 = some (t + 6) ∧ S[t + 6]? = some (20, 18) := (h.2.2.2.1 t ht).2.2.2.2.2.1
theorem ly4_6 {G : JG} {S : JS} {t : Nat} (h : Lay G S) (ht : S[t]? = some (4, 17)) : G t 6 = some (t + 7) ∧ S[t + 7]? = some (20, 18) := (h.2.2.2.1 t ht).2.2.2.2.2.2.1
theorem ly4_7 {G : JG} {S : JS} {t : Nat} (h : Lay G S) (ht : S[t]? = some (4, 17)) : G t 7 = some (t + 8) ∧ S[t + 8]? = some (20, 18) := (h.2.2.2.1 t ht).2.2.2.2.2.2.2.1
theorem ly4_8 {G : JG} {S : JS} {t : Nat} (h : Lay G S) (ht : S[t]? = some (4, 17)) : G t 8 = some (t + 9) ∧ S[t + 9]? = some (21, 18) := (h.2.2.2.1 t ht).2.2.2.2.2.2.2.2.1
theorem ly4_9 {G : JG} {S : JS} {t : Nat} (h : Lay G S) (ht : S[t]? = some (4, 17)) : G t 9 = some (t + 10) ∧ S[t + 10]? = some (20, 1000) := (h.2.2.2.1 t ht).2.2.2.2.2.2.2.2.2
theorem ly5_0 {G : JG} {S : JS} {t : Nat} (h : Lay G S) (ht : S[t]? = some (5, 6)) : G t 0 = some (t + 1) ∧ S[t + 1]? = some (1, 4) := (h.2.2.2.2.1 t ht).1
theorem ly5_1 {G : JG} {S : JS} {t : Nat} (h : Lay G S) (ht : S[t]? = some (5, 6)) : G t 1 = some (t + 6) ∧ S[t + 6]? = some (20, 760) := (h.2.2.2.2.1 t ht).2
theorem ly7_0 {G : JG} {S : JS} {t : Nat} (h : Lay G S) (ht : S[t]? = some (7, 9)) : G t 0 = some (t + 1) ∧ S[t + 1]? = some (0, 7) := (h.2.2.2.2.2 t ht).1
theorem ly7_1 {G : JG} {S : JS} {t : Nat} (h : Lay G S) (ht : S[t]? = some (7, 9)) : G t 1 = some (t + 2) ∧ S[t + 2]? = some (20, 16) := (h.2.2.2.2.2 t ht).2.1
theorem ly7_2 {G : JG} {S : JS} {t : Nat} (h : Lay G S) (ht : S[t]? = some (7, 9)) : G t 2 = some (t + 3) ∧ S[t + 3]? = some (20, 16) := (h.2.2.2.2.2 t ht).2.2.1
theorem ly7_3 {G : JG} {S : JS} {t : Nat} (h : Lay G S) (ht : S[t]? = some (7, 9)) : G t 3 = some (t + 4) ∧ S[t + 4]? = some (20, 16) := (h.2.2.2.2.2 t ht).2.2.2.1
theorem ly7_4 {G : JG} {S : JS} {t : Nat} (h : Lay G S) (ht : S[t]? = some (7, 9)) : G t 4 = some (t + 5) ∧ S[t + 5]? = some (20, 19) := (h.2.2.2.2.2 t ht).2.2.2.2
theorem j_nei {x c : Int32} {n : Int} (h : ¬ x = c) (hn : c.toInt = n) : ¬ x.toInt = n := fun e => h (Int32.toInt_inj.mp (e.trans hn.symm))
theorem j_out4 {x : Int32} (h0 : ¬ x = 0) (h1 : ¬ x = 1) (h2 : ¬ x = 2) (h3 : ¬ x = 3) : x.toInt < 0 ∨ 3 < x.toInt := by
  have g0 := j_nei h0 (n := 0) (by decide)
  have g1 := j_nei h1 (n := 1) (by decide)
  have g2 := j_nei h2 (n := 2) (by decide)
  have g3 := j_nei h3 (n := 3) (by decide)
  omega
theorem j_out11 {x : Int32} (h0 : ¬ x = 0) (h1 : ¬ x = 1) (h2 : ¬ x = 2) (h3 : ¬ x = 3) (h4 : ¬ x = 4) (h5 : ¬ x = 5) (h6 : ¬ x = 6) (h7 : ¬ x = 7) (h8 : ¬ x = 8) (h9 : ¬ x = 9) (h10 : ¬ x = 10) : x.toInt < 0 ∨ 10 < x.toInt := by
  have g0 := j_nei h0 (n := 0) (by decide)
  have g1 := j_nei h1 (n := 1) (by decide)
  have g2 := j_nei h2 (n := 2) (by decide)
  have g3 := j_nei h3 (n := 3) (by decide)
  have g4 := j_nei h4 (n := 4) (by decide)
  have g5 := j_nei h5 (n := 5) (by decide)
  have g6 := j_nei h6 (n := 6) (by decide)
  have g7 := j_nei h7 (n := 7) (by decide)
  have g8 := j_nei h8 (n := 8) (by decide)
  have g9 := j_nei h9 (n := 9) (by decide)
  have g10 := j_nei h10 (n := 10) (by decide)
  omega
theorem j_out8 {x : Int32} (h0 : ¬ x = 0) (h1 : ¬ x = 1) (h2 : ¬ x = 2) (h3 : ¬ x = 3) (h4 : ¬ x = 4) (h5 : ¬ x = 5) (h6 : ¬ x = 6) (h7 : ¬ x = 7) : x.toInt < 0 ∨ 7 < x.toInt := by
  have g0 := j_nei h0 (n := 0) (by decide)
  have g1 := j_nei h1 (n := 1) (by decide)
  have g2 := j_nei h2 (n := 2) (by decide)
  have g3 := j_nei h3 (n := 3) (by decide)
  have g4 := j_nei h4 (n := 4) (by decide)
  have g5 := j_nei h5 (n := 5) (by decide)
  have g6 := j_nei h6 (n := 6) (by decide)
  have g7 := j_nei h7 (n := 7) (by decide)
  omega
theorem j_out12 {x : Int32} (h0 : ¬ x = 0) (h1 : ¬ x = 1) (h2 : ¬ x = 2) (h3 : ¬ x = 3) (h4 : ¬ x = 4) (h5 : ¬ x = 5) (h6 : ¬ x = 6) (h7 : ¬ x = 7) (h8 : ¬ x = 8) (h9 : ¬ x = 9) (h10 : ¬ x = 10) (h11 : ¬ x = 11) : x.toInt < 0 ∨ 11 < x.toInt := by
  have g0 := j_nei h0 (n := 0) (by decide)
  have g1 := j_nei h1 (n := 1) (by decide)
  have g2 := j_nei h2 (n := 2) (by decide)
  have g3 := j_nei h3 (n := 3) (by decide)
  have g4 := j_nei h4 (n := 4) (by decide)
  have g5 := j_nei h5 (n := 5) (by decide)
  have g6 := j_nei h6 (n := 6) (by decide)
  have g7 := j_nei h7 (n := 7) (by decide)
  have g8 := j_nei h8 (n := 8) (by decide)
  have g9 := j_nei h9 (n := 9) (by decide)
  have g10 := j_nei h10 (n := 10) (by decide)
  have g11 := j_nei h11 (n := 11) (by decide)
  omega
theorem j_out30 {x : Int32} (h0 : ¬ x = 0) (h1 : ¬ x = 1) (h2 : ¬ x = 2) (h3 : ¬ x = 3) (h4 : ¬ x = 4) (h5 : ¬ x = 5) (h6 : ¬ x = 6) (h7 : ¬ x = 7) (h8 : ¬ x = 8) (h9 : ¬ x = 9) (h10 : ¬ x = 10) (h11 : ¬ x = 11) (h12 : ¬ x = 12) (h13 : ¬ x = 13) (h14 : ¬ x = 14) (h15 : ¬ x = 15) (h16 : ¬ x = 16) (h17 : ¬ x = 17) (h18 : ¬ x = 18) (h19 : ¬ x = 19) (h20 : ¬ x = 20) (h21 : ¬ x = 21) (h22 : ¬ x = 22) (h23 : ¬ x = 23) (h24 : ¬ x = 24) (h25 : ¬ x = 25) (h26 : ¬ x = 26) (h27 : ¬ x = 27) (h28 : ¬ x = 28) (h29 : ¬ x = 29) : x.toInt < 0 ∨ 29 < x.toInt := by
  have g0 := j_nei h0 (n := 0) (by decide)
  have g1 := j_nei h1 (n := 1) (by decide)
  have g2 := j_nei h2 (n := 2) (by decide)
  have g3 := j_nei h3 (n := 3) (by decide)
  have g4 := j_nei h4 (n := 4) (by decide)
  have g5 := j_nei h5 (n := 5) (by decide)
  have g6 := j_nei h6 (n := 6) (by decide)
  have g7 := j_nei h7 (n := 7) (by decide)
  have g8 := j_nei h8 (n := 8) (by decide)
  have g9 := j_nei h9 (n := 9) (by decide)
  have g10 := j_nei h10 (n := 10) (by decide)
  have g11 := j_nei h11 (n := 11) (by decide)
  have g12 := j_nei h12 (n := 12) (by decide)
  have g13 := j_nei h13 (n := 13) (by decide)
  have g14 := j_nei h14 (n := 14) (by decide)
  have g15 := j_nei h15 (n := 15) (by decide)
  have g16 := j_nei h16 (n := 16) (by decide)
  have g17 := j_nei h17 (n := 17) (by decide)
  have g18 := j_nei h18 (n := 18) (by decide)
  have g19 := j_nei h19 (n := 19) (by decide)
  have g20 := j_nei h20 (n := 20) (by decide)
  have g21 := j_nei h21 (n := 21) (by decide)
  have g22 := j_nei h22 (n := 22) (by decide)
  have g23 := j_nei h23 (n := 23) (by decide)
  have g24 := j_nei h24 (n := 24) (by decide)
  have g25 := j_nei h25 (n := 25) (by decide)
  have g26 := j_nei h26 (n := 26) (by decide)
  have g27 := j_nei h27 (n := 27) (by decide)
  have g28 := j_nei h28 (n := 28) (by decide)
  have g29 := j_nei h29 (n := 29) (by decide)
  omega
theorem j_out10 {x : Int32} (h0 : ¬ x = 0) (h1 : ¬ x = 1) (h2 : ¬ x = 2) (h3 : ¬ x = 3) (h4 : ¬ x = 4) (h5 : ¬ x = 5) (h6 : ¬ x = 6) (h7 : ¬ x = 7) (h8 : ¬ x = 8) (h9 : ¬ x = 9) : x.toInt < 0 ∨ 9 < x.toInt := by
  have g0 := j_nei h0 (n := 0) (by decide)
  have g1 := j_nei h1 (n := 1) (by decide)
  have g2 := j_nei h2 (n := 2) (by decide)
  have g3 := j_nei h3 (n := 3) (by decide)
  have g4 := j_nei h4 (n := 4) (by decide)
  have g5 := j_nei h5 (n := 5) (by decide)
  have g6 := j_nei h6 (n := 6) (by decide)
  have g7 := j_nei h7 (n := 7) (by decide)
  have g8 := j_nei h8 (n := 8) (by decide)
  have g9 := j_nei h9 (n := 9) (by decide)
  omega
