theorem inX0 : ∀ w ∈ u_ws RX0 TX0 13, w ∈ TB := fun w h => by
  have h1 : w ∈ ([73, 75, 77, 79, 81, 83, 85, 87, 89, 91, 93, 95, 97] : List Nat).filterMap (fun i => tables_1[i]?) := by
    have e : u_ws RX0 TX0 13 = ([73, 75, 77, 79, 81, 83, 85, 87, 89, 91, 93, 95, 97] : List Nat).filterMap (fun i => tables_1[i]?) := by decide +kernel
    rw [← e]; exact h
  obtain ⟨i, -, hi⟩ := List.mem_filterMap.mp h1
  refine TB_t (List.mem_of_getElem? hi) ?_
  obtain ⟨k, hk, rfl⟩ := List.mem_map.mp h
  unfold u_lay
  split <;> rfl
theorem inX1 : ∀ w ∈ u_ws RX1 TX1 6, w ∈ TB := fun w h => by
  have h1 : w ∈ ([264, 266, 268, 270, 272, 274] : List Nat).filterMap (fun i => tables_1[i]?) := by
    have e : u_ws RX1 TX1 6 = ([264, 266, 268, 270, 272, 274] : List Nat).filterMap (fun i => tables_1[i]?) := by decide +kernel
    rw [← e]; exact h
  obtain ⟨i, -, hi⟩ := List.mem_filterMap.mp h1
  refine TB_t (List.mem_of_getElem? hi) ?_
  obtain ⟨k, hk, rfl⟩ := List.mem_map.mp h
  unfold u_lay
  split <;> rfl
theorem inX2 : ∀ w ∈ u_ws RX2 TX2 8, w ∈ TB := fun w h => by
  have h1 : w ∈ ([227, 229, 231, 233, 235, 237, 239, 241] : List Nat).filterMap (fun i => tables_1[i]?) := by
    have e : u_ws RX2 TX2 8 = ([227, 229, 231, 233, 235, 237, 239, 241] : List Nat).filterMap (fun i => tables_1[i]?) := by decide +kernel
    rw [← e]; exact h
  obtain ⟨i, -, hi⟩ := List.mem_filterMap.mp h1
  refine TB_t (List.mem_of_getElem? hi) ?_
  obtain ⟨k, hk, rfl⟩ := List.mem_map.mp h
  unfold u_lay
  split <;> rfl
theorem inX3 : ∀ w ∈ u_ws RX3 TX3 9, w ∈ TB := fun w h => by
  have h1 : w ∈ ([912, 914, 916, 918, 920, 922, 924, 926, 928] : List Nat).filterMap (fun i => tables_1[i]?) := by
    have e : u_ws RX3 TX3 9 = ([912, 914, 916, 918, 920, 922, 924, 926, 928] : List Nat).filterMap (fun i => tables_1[i]?) := by decide +kernel
    rw [← e]; exact h
  obtain ⟨i, -, hi⟩ := List.mem_filterMap.mp h1
  refine TB_t (List.mem_of_getElem? hi) ?_
  obtain ⟨k, hk, rfl⟩ := List.mem_map.mp h
  unfold u_lay
  split <;> rfl
theorem inX4 : ∀ w ∈ u_ws RX4 TX4 8, w ∈ TB := fun w h => by
  have h1 : w ∈ ([174, 176, 178, 180, 182, 184, 186, 188] : List Nat).filterMap (fun i => tables_1[i]?) := by
    have e : u_ws RX4 TX4 8 = ([174, 176, 178, 180, 182, 184, 186, 188] : List Nat).filterMap (fun i => tables_1[i]?) := by decide +kernel
    rw [← e]; exact h
  obtain ⟨i, -, hi⟩ := List.mem_filterMap.mp h1
  refine TB_t (List.mem_of_getElem? hi) ?_
  obtain ⟨k, hk, rfl⟩ := List.mem_map.mp h
  unfold u_lay
  split <;> rfl
theorem inX5 : ∀ w ∈ u_ws RX5 TX5 5, w ∈ TB := fun w h => by
  have h1 : w ∈ ([149, 151, 153, 155, 157] : List Nat).filterMap (fun i => tables_1[i]?) := by
    have e : u_ws RX5 TX5 5 = ([149, 151, 153, 155, 157] : List Nat).filterMap (fun i => tables_1[i]?) := by decide +kernel
    rw [← e]; exact h
  obtain ⟨i, -, hi⟩ := List.mem_filterMap.mp h1
  refine TB_t (List.mem_of_getElem? hi) ?_
  obtain ⟨k, hk, rfl⟩ := List.mem_map.mp h
  unfold u_lay
  split <;> rfl
theorem inX6 : ∀ w ∈ u_ws RX6 TX6 2, w ∈ TB := fun w h => by
  have h1 : w ∈ ([115, 117] : List Nat).filterMap (fun i => tables_1[i]?) := by
    have e : u_ws RX6 TX6 2 = ([115, 117] : List Nat).filterMap (fun i => tables_1[i]?) := by decide +kernel
    rw [← e]; exact h
  obtain ⟨i, -, hi⟩ := List.mem_filterMap.mp h1
  refine TB_t (List.mem_of_getElem? hi) ?_
  obtain ⟨k, hk, rfl⟩ := List.mem_map.mp h
  unfold u_lay
  split <;> rfl
theorem inX7 : ∀ w ∈ u_ws RX7 TX7 1, w ∈ TB := fun w h => by
  have h1 : w ∈ ([135] : List Nat).filterMap (fun i => tables_1[i]?) := by
    have e : u_ws RX7 TX7 1 = ([135] : List Nat).filterMap (fun i => tables_1[i]?) := by decide +kernel
    rw [← e]; exact h
  obtain ⟨i, -, hi⟩ := List.mem_filterMap.mp h1
  refine TB_t (List.mem_of_getElem? hi) ?_
  obtain ⟨k, hk, rfl⟩ := List.mem_map.mp h
  unfold u_lay
  split <;> rfl
theorem inX8 : ∀ w ∈ u_ws RX8 TX8 18, w ∈ TB := fun w h => by
  have h1 : w ∈ ([1346, 1348, 1350, 1352, 1354, 1356, 1358, 1360, 1362, 1364, 1366, 1368, 1370, 1372, 1374, 1376, 1378, 1380] : List Nat).filterMap (fun i => tables_1[i]?) := by
    have e : u_ws RX8 TX8 18 = ([1346, 1348, 1350, 1352, 1354, 1356, 1358, 1360, 1362, 1364, 1366, 1368, 1370, 1372, 1374, 1376, 1378, 1380] : List Nat).filterMap (fun i => tables_1[i]?) := by decide +kernel
    rw [← e]; exact h
  obtain ⟨i, -, hi⟩ := List.mem_filterMap.mp h1
  refine TB_t (List.mem_of_getElem? hi) ?_
  obtain ⟨k, hk, rfl⟩ := List.mem_map.mp h
  unfold u_lay
  split <;> rfl
theorem inX9 : ∀ w ∈ u_ws RX9 TX9 6, w ∈ TB := fun w h => by
  have h1 : w ∈ ([1218, 1220, 1222, 1224, 1226, 1228] : List Nat).filterMap (fun i => tables_1[i]?) := by
    have e : u_ws RX9 TX9 6 = ([1218, 1220, 1222, 1224, 1226, 1228] : List Nat).filterMap (fun i => tables_1[i]?) := by decide +kernel
    rw [← e]; exact h
  obtain ⟨i, -, hi⟩ := List.mem_filterMap.mp h1
  refine TB_t (List.mem_of_getElem? hi) ?_
  obtain ⟨k, hk, rfl⟩ := List.mem_map.mp h
  unfold u_lay
  split <;> rfl
theorem inX10 : ∀ w ∈ u_ws RX10 TX10 3, w ∈ TB := fun w h => by
  have h1 : w ∈ ([204, 206, 208] : List Nat).filterMap (fun i => tables_1[i]?) := by
    have e : u_ws RX10 TX10 3 = ([204, 206, 208] : List Nat).filterMap (fun i => tables_1[i]?) := by decide +kernel
    rw [← e]; exact h
  obtain ⟨i, -, hi⟩ := List.mem_filterMap.mp h1
  refine TB_t (List.mem_of_getElem? hi) ?_
  obtain ⟨k, hk, rfl⟩ := List.mem_map.mp h
  unfold u_lay
  split <;> rfl
theorem inX11 : ∀ w ∈ u_ws RX11 TX11 16, w ∈ TB := fun w h => by
  have h1 : w ∈ ([293, 295, 297, 299, 301, 303, 305, 307, 309, 311, 313, 315, 317, 319, 321, 323] : List Nat).filterMap (fun i => tables_1[i]?) := by
    have e : u_ws RX11 TX11 16 = ([293, 295, 297, 299, 301, 303, 305, 307, 309, 311, 313, 315, 317, 319, 321, 323] : List Nat).filterMap (fun i => tables_1[i]?) := by decide +kernel
    rw [← e]; exact h
  obtain ⟨i, -, hi⟩ := List.mem_filterMap.mp h1
  refine TB_t (List.mem_of_getElem? hi) ?_
  obtain ⟨k, hk, rfl⟩ := List.mem_map.mp h
  unfold u_lay
  split <;> rfl
theorem dfX0 : ∀ k, k < 13 → defaultValue (tyX0 k) = if fty 2 k = 1 then Value.long 0 else if fty 2 k = 2 then Value.null else Value.int 0 := by decide +kernel
theorem dfX1 : ∀ k, k < 6 → defaultValue (tyX1 k) = if fty 3 k = 1 then Value.long 0 else if fty 3 k = 2 then Value.null else Value.int 0 := by decide +kernel
theorem dfX2 : ∀ k, k < 8 → defaultValue (tyX2 k) = if fty 4 k = 1 then Value.long 0 else if fty 4 k = 2 then Value.null else Value.int 0 := by decide +kernel
theorem dfX3 : ∀ k, k < 9 → defaultValue (tyX3 k) = if fty 5 k = 1 then Value.long 0 else if fty 5 k = 2 then Value.null else Value.int 0 := by decide +kernel
theorem dfX4 : ∀ k, k < 8 → defaultValue (tyX4 k) = if fty 6 k = 1 then Value.long 0 else if fty 6 k = 2 then Value.null else Value.int 0 := by decide +kernel
theorem dfX5 : ∀ k, k < 5 → defaultValue (tyX5 k) = if fty 7 k = 1 then Value.long 0 else if fty 7 k = 2 then Value.null else Value.int 0 := by decide +kernel
theorem dfX6 : ∀ k, k < 2 → defaultValue (tyX6 k) = if fty 8 k = 1 then Value.long 0 else if fty 8 k = 2 then Value.null else Value.int 0 := by decide +kernel
theorem dfX7 : ∀ k, k < 1 → defaultValue (tyX7 k) = if fty 9 k = 1 then Value.long 0 else if fty 9 k = 2 then Value.null else Value.int 0 := by decide +kernel
theorem dfX8 : ∀ k, k < 18 → defaultValue (tyX8 k) = if fty 10 k = 1 then Value.long 0 else if fty 10 k = 2 then Value.null else Value.int 0 := by decide +kernel
theorem dfX9 : ∀ k, k < 6 → defaultValue (tyX9 k) = if fty 11 k = 1 then Value.long 0 else if fty 11 k = 2 then Value.null else Value.int 0 := by decide +kernel
theorem dfX10 : ∀ k, k < 3 → defaultValue (tyX10 k) = if fty 12 k = 1 then Value.long 0 else if fty 12 k = 2 then Value.null else Value.int 0 := by decide +kernel
theorem fk_X0_0 : fty 2 0 ≠ 1 ∧ fty 2 0 ≠ 2 := by decide
theorem fk_X0_1 : fty 2 1 ≠ 1 ∧ fty 2 1 ≠ 2 := by decide
theorem fk_X0_2 : fty 2 2 = 2 := by decide
theorem fk_X0_3 : fty 2 3 = 2 := by decide
theorem fk_X0_4 : fty 2 4 ≠ 1 ∧ fty 2 4 ≠ 2 := by decide
theorem fk_X0_5 : fty 2 5 ≠ 1 ∧ fty 2 5 ≠ 2 := by decide
theorem fk_X0_6 : fty 2 6 ≠ 1 ∧ fty 2 6 ≠ 2 := by decide
theorem fk_X0_7 : fty 2 7 = 2 := by decide
theorem fk_X0_8 : fty 2 8 ≠ 1 ∧ fty 2 8 ≠ 2 := by decide
theorem fk_X0_9 : fty 2 9 ≠ 1 ∧ fty 2 9 ≠ 2 := by decide
theorem fk_X0_10 : fty 2 10 ≠ 1 ∧ fty 2 10 ≠ 2 := by decide
theorem fk_X0_11 : fty 2 11 = 2 := by decide
theorem fk_X0_12 : fty 2 12 ≠ 1 ∧ fty 2 12 ≠ 2 := by decide
theorem fk_X1_0 : fty 3 0 = 2 := by decide
theorem fk_X1_1 : fty 3 1 ≠ 1 ∧ fty 3 1 ≠ 2 := by decide
theorem fk_X1_2 : fty 3 2 ≠ 1 ∧ fty 3 2 ≠ 2 := by decide
theorem fk_X1_3 : fty 3 3 ≠ 1 ∧ fty 3 3 ≠ 2 := by decide
theorem fk_X1_4 : fty 3 4 ≠ 1 ∧ fty 3 4 ≠ 2 := by decide
theorem fk_X1_5 : fty 3 5 ≠ 1 ∧ fty 3 5 ≠ 2 := by decide
theorem fk_X10_0 : fty 12 0 ≠ 1 ∧ fty 12 0 ≠ 2 := by decide
theorem fk_X10_1 : fty 12 1 = 2 := by decide
theorem fk_X10_2 : fty 12 2 ≠ 1 ∧ fty 12 2 ≠ 2 := by decide
theorem fk_X11_0 : fty 13 0 = 2 := by decide
theorem fk_X11_1 : fty 13 1 = 2 := by decide
theorem fk_X11_2 : fty 13 2 = 2 := by decide
theorem fk_X11_3 : fty 13 3 = 2 := by decide
theorem fk_X11_4 : fty 13 4 = 2 := by decide
theorem fk_X11_5 : fty 13 5 = 2 := by decide
theorem fk_X11_6 : fty 13 6 = 2 := by decide
theorem fk_X11_7 : fty 13 7 = 2 := by decide
theorem fk_X11_8 : fty 13 8 = 2 := by decide
theorem fk_X11_9 : fty 13 9 ≠ 1 ∧ fty 13 9 ≠ 2 := by decide
theorem fk_X11_10 : fty 13 10 ≠ 1 ∧ fty 13 10 ≠ 2 := by decide
theorem fk_X11_11 : fty 13 11 ≠ 1 ∧ fty 13 11 ≠ 2 := by decide
theorem fk_X11_12 : fty 13 12 ≠ 1 ∧ fty 13 12 ≠ 2 := by decide
theorem fk_X11_13 : fty 13 13 ≠ 1 ∧ fty 13 13 ≠ 2 := by decide
theorem fk_X11_14 : fty 13 14 ≠ 1 ∧ fty 13 14 ≠ 2 := by decide
theorem fk_X11_15 : fty 13 15 ≠ 1 ∧ fty 13 15 ≠ 2 := by decide
theorem fk_X2_0 : fty 4 0 = 2 := by decide
theorem fk_X2_1 : fty 4 1 ≠ 1 ∧ fty 4 1 ≠ 2 := by decide
theorem fk_X2_2 : fty 4 2 ≠ 1 ∧ fty 4 2 ≠ 2 := by decide
theorem fk_X2_3 : fty 4 3 = 1 := by decide
theorem fk_X2_4 : fty 4 4 ≠ 1 ∧ fty 4 4 ≠ 2 := by decide
theorem fk_X2_5 : fty 4 5 = 1 := by decide
theorem fk_X2_6 : fty 4 6 = 2 := by decide
theorem fk_X2_7 : fty 4 7 = 1 := by decide
theorem fk_X3_0 : fty 5 0 = 2 := by decide
theorem fk_X3_1 : fty 5 1 = 2 := by decide
theorem fk_X3_2 : fty 5 2 ≠ 1 ∧ fty 5 2 ≠ 2 := by decide
theorem fk_X3_3 : fty 5 3 ≠ 1 ∧ fty 5 3 ≠ 2 := by decide
theorem fk_X3_4 : fty 5 4 = 2 := by decide
theorem fk_X3_5 : fty 5 5 = 2 := by decide
theorem fk_X3_6 : fty 5 6 = 2 := by decide
theorem fk_X3_7 : fty 5 7 = 1 := by decide
theorem fk_X3_8 : fty 5 8 ≠ 1 ∧ fty 5 8 ≠ 2 := by decide
theorem fk_X4_0 : fty 6 0 = 1 := by decide
theorem fk_X4_1 : fty 6 1 = 2 := by decide
theorem fk_X4_2 : fty 6 2 = 2 := by decide
theorem fk_X4_3 : fty 6 3 = 2 := by decide
theorem fk_X4_4 : fty 6 4 = 2 := by decide
theorem fk_X4_5 : fty 6 5 ≠ 1 ∧ fty 6 5 ≠ 2 := by decide
theorem fk_X4_6 : fty 6 6 = 2 := by decide
theorem fk_X4_7 : fty 6 7 = 2 := by decide
theorem fk_X5_0 : fty 7 0 = 2 := by decide
theorem fk_X5_1 : fty 7 1 = 2 := by decide
theorem fk_X5_2 : fty 7 2 ≠ 1 ∧ fty 7 2 ≠ 2 := by decide
theorem fk_X5_3 : fty 7 3 ≠ 1 ∧ fty 7 3 ≠ 2 := by decide
theorem fk_X5_4 : fty 7 4 ≠ 1 ∧ fty 7 4 ≠ 2 := by decide
theorem fk_X6_0 : fty 8 0 = 2 := by decide
theorem fk_X6_1 : fty 8 1 ≠ 1 ∧ fty 8 1 ≠ 2 := by decide
theorem fk_X7_0 : fty 9 0 = 2 := by decide
theorem fk_X8_0 : fty 10 0 ≠ 1 ∧ fty 10 0 ≠ 2 := by decide
theorem fk_X8_1 : fty 10 1 = 2 := by decide
theorem fk_X8_2 : fty 10 2 = 2 := by decide
theorem fk_X8_3 : fty 10 3 = 2 := by decide
theorem fk_X8_4 : fty 10 4 ≠ 1 ∧ fty 10 4 ≠ 2 := by decide
theorem fk_X8_5 : fty 10 5 = 2 := by decide
theorem fk_X8_6 : fty 10 6 ≠ 1 ∧ fty 10 6 ≠ 2 := by decide
theorem fk_X8_7 : fty 10 7 = 2 := by decide
theorem fk_X8_8 : fty 10 8 ≠ 1 ∧ fty 10 8 ≠ 2 := by decide
theorem fk_X8_9 : fty 10 9 = 2 := by decide
theorem fk_X8_10 : fty 10 10 ≠ 1 ∧ fty 10 10 ≠ 2 := by decide
theorem fk_X8_11 : fty 10 11 = 2 := by decide
theorem fk_X8_12 : fty 10 12 = 1 := by decide
theorem fk_X8_13 : fty 10 13 = 1 := by decide
theorem fk_X8_14 : fty 10 14 = 1 := by decide
theorem fk_X8_15 : fty 10 15 ≠ 1 ∧ fty 10 15 ≠ 2 := by decide
theorem fk_X8_16 : fty 10 16 ≠ 1 ∧ fty 10 16 ≠ 2 := by decide
theorem fk_X8_17 : fty 10 17 ≠ 1 ∧ fty 10 17 ≠ 2 := by decide
theorem fk_X9_0 : fty 11 0 = 2 := by decide
theorem fk_X9_1 : fty 11 1 ≠ 1 ∧ fty 11 1 ≠ 2 := by decide
theorem fk_X9_2 : fty 11 2 ≠ 1 ∧ fty 11 2 ≠ 2 := by decide
theorem fk_X9_3 : fty 11 3 ≠ 1 ∧ fty 11 3 ≠ 2 := by decide
theorem fk_X9_4 : fty 11 4 ≠ 1 ∧ fty 11 4 ≠ 2 := by decide
theorem fk_X9_5 : fty 11 5 ≠ 1 ∧ fty 11 5 ≠ 2 := by decide
theorem ft_X0_0 : parseFieldDescriptor (TX0 0).2.2.1 = some .int := by decide +kernel
theorem ft_X0_1 : parseFieldDescriptor (TX0 1).2.2.1 = some .boolean := by decide +kernel
theorem ft_X0_2 : parseFieldDescriptor (TX0 2).2.2.1 = some (.object "TopicBroker$Session") := by decide +kernel
theorem ft_X0_3 : parseFieldDescriptor (TX0 3).2.2.1 = some (.array .int) := by decide +kernel
theorem ft_X0_4 : parseFieldDescriptor (TX0 4).2.2.1 = some .int := by decide +kernel
theorem ft_X0_5 : parseFieldDescriptor (TX0 5).2.2.1 = some .boolean := by decide +kernel
theorem ft_X0_6 : parseFieldDescriptor (TX0 6).2.2.1 = some .int := by decide +kernel
theorem ft_X0_7 : parseFieldDescriptor (TX0 7).2.2.1 = some (.array .int) := by decide +kernel
theorem ft_X0_8 : parseFieldDescriptor (TX0 8).2.2.1 = some .int := by decide +kernel
theorem ft_X0_9 : parseFieldDescriptor (TX0 9).2.2.1 = some .int := by decide +kernel
theorem ft_X0_10 : parseFieldDescriptor (TX0 10).2.2.1 = some .int := by decide +kernel
theorem ft_X0_11 : parseFieldDescriptor (TX0 11).2.2.1 = some (.array (.object "TopicBroker$Row")) := by decide +kernel
theorem ft_X0_12 : parseFieldDescriptor (TX0 12).2.2.1 = some .int := by decide +kernel
theorem ft_X1_0 : parseFieldDescriptor (TX1 0).2.2.1 = some (.object "TopicBroker$Message") := by decide +kernel
theorem ft_X1_1 : parseFieldDescriptor (TX1 1).2.2.1 = some .int := by decide +kernel
theorem ft_X1_2 : parseFieldDescriptor (TX1 2).2.2.1 = some .boolean := by decide +kernel
theorem ft_X1_3 : parseFieldDescriptor (TX1 3).2.2.1 = some .int := by decide +kernel
theorem ft_X1_4 : parseFieldDescriptor (TX1 4).2.2.1 = some .int := by decide +kernel
theorem ft_X1_5 : parseFieldDescriptor (TX1 5).2.2.1 = some .boolean := by decide +kernel
theorem ft_X10_0 : parseFieldDescriptor (TX10 0).2.2.1 = some .int := by decide +kernel
theorem ft_X10_1 : parseFieldDescriptor (TX10 1).2.2.1 = some (.array .int) := by decide +kernel
theorem ft_X10_2 : parseFieldDescriptor (TX10 2).2.2.1 = some .int := by decide +kernel
theorem ft_X11_0 : parseFieldDescriptor (TX11 0).2.2.1 = some (.array (.object "TopicBroker$Connection")) := by decide +kernel
theorem ft_X11_1 : parseFieldDescriptor (TX11 1).2.2.1 = some (.array (.object "TopicBroker$Session")) := by decide +kernel
theorem ft_X11_2 : parseFieldDescriptor (TX11 2).2.2.1 = some (.object "TopicBroker$Retained") := by decide +kernel
theorem ft_X11_3 : parseFieldDescriptor (TX11 3).2.2.1 = some (.object "TopicBroker$Reader") := by decide +kernel
theorem ft_X11_4 : parseFieldDescriptor (TX11 4).2.2.1 = some (.object "TopicBroker$Properties") := by decide +kernel
theorem ft_X11_5 : parseFieldDescriptor (TX11 5).2.2.1 = some (.object "TopicBroker$Writer") := by decide +kernel
theorem ft_X11_6 : parseFieldDescriptor (TX11 6).2.2.1 = some (.object "TopicBroker$Greeting") := by decide +kernel
theorem ft_X11_7 : parseFieldDescriptor (TX11 7).2.2.1 = some (.object "TopicBroker$Delivery") := by decide +kernel
theorem ft_X11_8 : parseFieldDescriptor (TX11 8).2.2.1 = some (.array .int) := by decide +kernel
theorem ft_X11_10 : parseFieldDescriptor (TX11 10).2.2.1 = some .int := by decide +kernel
theorem ft_X11_11 : parseFieldDescriptor (TX11 11).2.2.1 = some .int := by decide +kernel
theorem ft_X11_12 : parseFieldDescriptor (TX11 12).2.2.1 = some .int := by decide +kernel
theorem ft_X11_13 : parseFieldDescriptor (TX11 13).2.2.1 = some .int := by decide +kernel
theorem ft_X11_14 : parseFieldDescriptor (TX11 14).2.2.1 = some .int := by decide +kernel
theorem ft_X11_15 : parseFieldDescriptor (TX11 15).2.2.1 = some .int := by decide +kernel
theorem ft_X2_0 : parseFieldDescriptor (TX2 0).2.2.1 = some (.object "TopicBroker$Row") := by decide +kernel
theorem ft_X2_1 : parseFieldDescriptor (TX2 1).2.2.1 = some .boolean := by decide +kernel
theorem ft_X2_2 : parseFieldDescriptor (TX2 2).2.2.1 = some .int := by decide +kernel
theorem ft_X2_3 : parseFieldDescriptor (TX2 3).2.2.1 = some .long := by decide +kernel
theorem ft_X2_4 : parseFieldDescriptor (TX2 4).2.2.1 = some .int := by decide +kernel
theorem ft_X2_5 : parseFieldDescriptor (TX2 5).2.2.1 = some .long := by decide +kernel
theorem ft_X2_6 : parseFieldDescriptor (TX2 6).2.2.1 = some (.object "TopicBroker$Message") := by decide +kernel
theorem ft_X2_7 : parseFieldDescriptor (TX2 7).2.2.1 = some .long := by decide +kernel
theorem ft_X3_0 : parseFieldDescriptor (TX3 0).2.2.1 = some (.object "TopicBroker$Row") := by decide +kernel
theorem ft_X3_1 : parseFieldDescriptor (TX3 1).2.2.1 = some (.object "TopicBroker$Row") := by decide +kernel
theorem ft_X3_2 : parseFieldDescriptor (TX3 2).2.2.1 = some .int := by decide +kernel
theorem ft_X3_3 : parseFieldDescriptor (TX3 3).2.2.1 = some .boolean := by decide +kernel
theorem ft_X3_4 : parseFieldDescriptor (TX3 4).2.2.1 = some (.object "TopicBroker$Row") := by decide +kernel
theorem ft_X3_5 : parseFieldDescriptor (TX3 5).2.2.1 = some (.object "TopicBroker$Row") := by decide +kernel
theorem ft_X3_6 : parseFieldDescriptor (TX3 6).2.2.1 = some (.object "TopicBroker$Row") := by decide +kernel
theorem ft_X3_7 : parseFieldDescriptor (TX3 7).2.2.1 = some .long := by decide +kernel
theorem ft_X3_8 : parseFieldDescriptor (TX3 8).2.2.1 = some .int := by decide +kernel
theorem ft_X4_0 : parseFieldDescriptor (TX4 0).2.2.1 = some .long := by decide +kernel
theorem ft_X4_1 : parseFieldDescriptor (TX4 1).2.2.1 = some (.array .long) := by decide +kernel
theorem ft_X4_2 : parseFieldDescriptor (TX4 2).2.2.1 = some (.array .int) := by decide +kernel
theorem ft_X4_3 : parseFieldDescriptor (TX4 3).2.2.1 = some (.array .int) := by decide +kernel
theorem ft_X4_4 : parseFieldDescriptor (TX4 4).2.2.1 = some (.array .int) := by decide +kernel
theorem ft_X4_5 : parseFieldDescriptor (TX4 5).2.2.1 = some .int := by decide +kernel
theorem ft_X4_6 : parseFieldDescriptor (TX4 6).2.2.1 = some (.array .int) := by decide +kernel
theorem ft_X4_7 : parseFieldDescriptor (TX4 7).2.2.1 = some (.object "TopicBroker$Row") := by decide +kernel
theorem ft_X5_0 : parseFieldDescriptor (TX5 0).2.2.1 = some (.object "TopicBroker$Row") := by decide +kernel
theorem ft_X5_1 : parseFieldDescriptor (TX5 1).2.2.1 = some (.array .int) := by decide +kernel
theorem ft_X5_2 : parseFieldDescriptor (TX5 2).2.2.1 = some .int := by decide +kernel
theorem ft_X5_3 : parseFieldDescriptor (TX5 3).2.2.1 = some .int := by decide +kernel
theorem ft_X5_4 : parseFieldDescriptor (TX5 4).2.2.1 = some .int := by decide +kernel
theorem ft_X6_0 : parseFieldDescriptor (TX6 0).2.2.1 = some (.array (.object "TopicBroker$Message")) := by decide +kernel
theorem ft_X6_1 : parseFieldDescriptor (TX6 1).2.2.1 = some .int := by decide +kernel
theorem ft_X7_0 : parseFieldDescriptor (TX7 0).2.2.1 = some (.array .int) := by decide +kernel
theorem ft_X8_0 : parseFieldDescriptor (TX8 0).2.2.1 = some .int := by decide +kernel
theorem ft_X8_1 : parseFieldDescriptor (TX8 1).2.2.1 = some (.object "TopicBroker$Row") := by decide +kernel
theorem ft_X8_2 : parseFieldDescriptor (TX8 2).2.2.1 = some (.object "TopicBroker$Connection") := by decide +kernel
theorem ft_X8_3 : parseFieldDescriptor (TX8 3).2.2.1 = some (.array (.object "TopicBroker$Subscription")) := by decide +kernel
theorem ft_X8_4 : parseFieldDescriptor (TX8 4).2.2.1 = some .int := by decide +kernel
theorem ft_X8_5 : parseFieldDescriptor (TX8 5).2.2.1 = some (.array (.object "TopicBroker$Delivery")) := by decide +kernel
theorem ft_X8_6 : parseFieldDescriptor (TX8 6).2.2.1 = some .int := by decide +kernel
theorem ft_X8_7 : parseFieldDescriptor (TX8 7).2.2.1 = some (.array (.object "TopicBroker$Delivery")) := by decide +kernel
theorem ft_X8_8 : parseFieldDescriptor (TX8 8).2.2.1 = some .int := by decide +kernel
theorem ft_X8_9 : parseFieldDescriptor (TX8 9).2.2.1 = some (.array .int) := by decide +kernel
theorem ft_X8_10 : parseFieldDescriptor (TX8 10).2.2.1 = some .int := by decide +kernel
theorem ft_X8_11 : parseFieldDescriptor (TX8 11).2.2.1 = some (.object "TopicBroker$Message") := by decide +kernel
theorem ft_X8_12 : parseFieldDescriptor (TX8 12).2.2.1 = some .long := by decide +kernel
theorem ft_X8_13 : parseFieldDescriptor (TX8 13).2.2.1 = some .long := by decide +kernel
theorem ft_X8_14 : parseFieldDescriptor (TX8 14).2.2.1 = some .long := by decide +kernel
theorem ft_X8_15 : parseFieldDescriptor (TX8 15).2.2.1 = some .int := by decide +kernel
theorem ft_X8_16 : parseFieldDescriptor (TX8 16).2.2.1 = some .int := by decide +kernel
theorem ft_X8_17 : parseFieldDescriptor (TX8 17).2.2.1 = some .int := by decide +kernel
theorem ft_X9_0 : parseFieldDescriptor (TX9 0).2.2.1 = some (.object "TopicBroker$Row") := by decide +kernel
theorem ft_X9_1 : parseFieldDescriptor (TX9 1).2.2.1 = some .int := by decide +kernel
theorem ft_X9_2 : parseFieldDescriptor (TX9 2).2.2.1 = some .int := by decide +kernel
theorem ft_X9_3 : parseFieldDescriptor (TX9 3).2.2.1 = some .int := by decide +kernel
theorem ft_X9_4 : parseFieldDescriptor (TX9 4).2.2.1 = some .int := by decide +kernel
theorem ft_X9_5 : parseFieldDescriptor (TX9 5).2.2.1 = some .int := by decide +kernel
theorem cf_X0_15 : Cond.fieldLink RX0 15 (TX0 7).1 (TX0 7).2.1 (TX0 7).2.2.1 ∈ TB := tw_62
theorem cf_X0_20 : Cond.fieldLink RX0 20 (TX0 11).1 (TX0 11).2.1 (TX0 11).2.2.1 ∈ TB := tw_70
theorem cf_X0_24 : Cond.fieldLink RX0 24 (TX0 0).1 (TX0 0).2.1 (TX0 0).2.2.1 ∈ TB := tw_48
theorem cf_X0_28 : Cond.fieldLink RX0 28 (TX0 1).1 (TX0 1).2.1 (TX0 1).2.2.1 ∈ TB := tw_50
theorem cf_X0_32 : Cond.fieldLink RX0 32 (TX0 4).1 (TX0 4).2.1 (TX0 4).2.2.1 ∈ TB := tw_56
theorem cf_X0_35 : Cond.fieldLink RX0 35 (TX0 2).1 (TX0 2).2.1 (TX0 2).2.2.1 ∈ TB := tw_52
theorem cf_X0_39 : Cond.fieldLink RX0 39 (TX0 5).1 (TX0 5).2.1 (TX0 5).2.2.1 ∈ TB := tw_58
theorem cf_X0_42 : Cond.fieldLink RX0 42 (TX0 8).1 (TX0 8).2.1 (TX0 8).2.2.1 ∈ TB := tw_64
theorem cf_X0_45 : Cond.fieldLink RX0 45 (TX0 10).1 (TX0 10).2.1 (TX0 10).2.2.1 ∈ TB := tw_68
theorem cf_X0_52 : Cond.fieldLink RX0 52 (TX0 9).1 (TX0 9).2.1 (TX0 9).2.2.1 ∈ TB := tw_66
theorem cf_X0_55 : Cond.fieldLink RX0 55 (TX10 2).1 (TX10 2).2.1 (TX10 2).2.2.1 ∈ TB := tw_203
theorem cf_X0_64 : Cond.fieldLink RX0 64 (TX10 0).1 (TX10 0).2.1 (TX10 0).2.2.1 ∈ TB := tw_199
theorem cf_X0_67 : Cond.fieldLink RX0 67 (TX10 1).1 (TX10 1).2.1 (TX10 1).2.2.1 ∈ TB := tw_201
theorem cf_X0_76 : Cond.fieldLink RX0 76 (TX0 6).1 (TX0 6).2.1 (TX0 6).2.2.1 ∈ TB := tw_60
theorem cf_X0_81 : Cond.fieldLink RX0 81 (TX8 16).1 (TX8 16).2.1 (TX8 16).2.2.1 ∈ TB := tw_1342
theorem cf_X0_88 : Cond.fieldLink RX0 88 (TX0 12).1 (TX0 12).2.1 (TX0 12).2.2.1 ∈ TB := tw_71
theorem cf_X0_9 : Cond.fieldLink RX0 9 (TX0 3).1 (TX0 3).2.1 (TX0 3).2.2.1 ∈ TB := tw_54
theorem cf_X10_100 : Cond.fieldLink RX10 100 (TX3 1).1 (TX3 1).2.1 (TX3 1).2.2.1 ∈ TB := tw_894
theorem cf_X10_15 : Cond.fieldLink RX10 15 (TX10 0).1 (TX10 0).2.1 (TX10 0).2.2.1 ∈ TB := tw_198
theorem cf_X10_19 : Cond.fieldLink RX10 19 (TX10 2).1 (TX10 2).2.1 (TX10 2).2.2.1 ∈ TB := tw_202
theorem cf_X10_22 : Cond.fieldLink RX10 22 (TX7 0).1 (TX7 0).2.1 (TX7 0).2.2.1 ∈ TB := tw_134
theorem cf_X10_32 : Cond.fieldLink RX10 32 (TX1 0).1 (TX1 0).2.1 (TX1 0).2.2.1 ∈ TB := tw_251
theorem cf_X10_38 : Cond.fieldLink RX10 38 (TX1 1).1 (TX1 1).2.1 (TX1 1).2.2.1 ∈ TB := tw_255
theorem cf_X10_41 : Cond.fieldLink RX10 41 (TX1 2).1 (TX1 2).2.1 (TX1 2).2.2.1 ∈ TB := tw_257
theorem cf_X10_49 : Cond.fieldLink RX10 49 (TX3 0).1 (TX3 0).2.1 (TX3 0).2.2.1 ∈ TB := tw_890
theorem cf_X10_65 : Cond.fieldLink RX10 65 (TX1 4).1 (TX1 4).2.1 (TX1 4).2.2.1 ∈ TB := tw_261
theorem cf_X10_68 : Cond.fieldLink RX10 68 (TX3 7).1 (TX3 7).2.1 (TX3 7).2.2.1 ∈ TB := tw_908
theorem cf_X10_74 : Cond.fieldLink RX10 74 (TX1 3).1 (TX1 3).2.1 (TX1 3).2.2.1 ∈ TB := tw_259
theorem cf_X10_77 : Cond.fieldLink RX10 77 (TX3 4).1 (TX3 4).2.1 (TX3 4).2.2.1 ∈ TB := tw_901
theorem cf_X10_80 : Cond.fieldLink RX10 80 (TX3 5).1 (TX3 5).2.1 (TX3 5).2.2.1 ∈ TB := tw_903
theorem cf_X10_83 : Cond.fieldLink RX10 83 (TX3 6).1 (TX3 6).2.1 (TX3 6).2.2.1 ∈ TB := tw_905
theorem cf_X10_9 : Cond.fieldLink RX10 9 (TX10 1).1 (TX10 1).2.1 (TX10 1).2.2.1 ∈ TB := tw_200
theorem cf_X11_11 : Cond.fieldLink RX11 11 (TX11 0).1 (TX11 0).2.1 (TX11 0).2.2.1 ∈ TB := tw_277
theorem cf_X11_131 : Cond.fieldLink RX11 131 (TX11 9).1 (TX11 9).2.1 (TX11 9).2.2.1 ∈ TB := tw_286
theorem cf_X11_134 : Cond.fieldLink RX11 134 (TX11 13).1 (TX11 13).2.1 (TX11 13).2.2.1 ∈ TB := tw_290
theorem cf_X11_151 : Cond.fieldLink RX11 151 (TX8 2).1 (TX8 2).2.1 (TX8 2).2.2.1 ∈ TB := tw_1312
theorem cf_X11_158 : Cond.fieldLink RX11 158 (TX8 4).1 (TX8 4).2.1 (TX8 4).2.2.1 ∈ TB := tw_1316
theorem cf_X11_161 : Cond.fieldLink RX11 161 (TX8 6).1 (TX8 6).2.1 (TX8 6).2.2.1 ∈ TB := tw_1320
theorem cf_X11_164 : Cond.fieldLink RX11 164 (TX8 8).1 (TX8 8).2.1 (TX8 8).2.2.1 ∈ TB := tw_1323
theorem cf_X11_167 : Cond.fieldLink RX11 167 (TX8 10).1 (TX8 10).2.1 (TX8 10).2.2.1 ∈ TB := tw_1325
theorem cf_X11_170 : Cond.fieldLink RX11 170 (TX8 11).1 (TX8 11).2.1 (TX8 11).2.2.1 ∈ TB := tw_1328
theorem cf_X11_174 : Cond.fieldLink RX11 174 (TX8 1).1 (TX8 1).2.1 (TX8 1).2.2.1 ∈ TB := tw_1310
theorem cf_X11_190 : Cond.fieldLink RX11 190 (TX8 13).1 (TX8 13).2.1 (TX8 13).2.2.1 ∈ TB := tw_1334
theorem cf_X11_20 : Cond.fieldLink RX11 20 (TX11 1).1 (TX11 1).2.1 (TX11 1).2.2.1 ∈ TB := tw_278
theorem cf_X11_201 : Cond.fieldLink RX11 201 (TX9 2).1 (TX9 2).2.1 (TX9 2).2.2.1 ∈ TB := tw_1213
theorem cf_X11_206 : Cond.fieldLink RX11 206 (TX9 3).1 (TX9 3).2.1 (TX9 3).2.2.1 ∈ TB := tw_1215
theorem cf_X11_209 : Cond.fieldLink RX11 209 (TX9 0).1 (TX9 0).2.1 (TX9 0).2.2.1 ∈ TB := tw_1210
theorem cf_X11_212 : Cond.fieldLink RX11 212 (TX9 4).1 (TX9 4).2.1 (TX9 4).2.2.1 ∈ TB := tw_1216
theorem cf_X11_219 : Cond.fieldLink RX11 219 (TX3 0).1 (TX3 0).2.1 (TX3 0).2.2.1 ∈ TB := tw_891
theorem cf_X11_224 : Cond.fieldLink RX11 224 (TX3 1).1 (TX3 1).2.1 (TX3 1).2.2.1 ∈ TB := tw_895
theorem cf_X11_227 : Cond.fieldLink RX11 227 (TX3 2).1 (TX3 2).2.1 (TX3 2).2.2.1 ∈ TB := tw_897
theorem cf_X11_244 : Cond.fieldLink RX11 244 (TX6 1).1 (TX6 1).2.1 (TX6 1).2.2.1 ∈ TB := tw_114
theorem cf_X11_249 : Cond.fieldLink RX11 249 (TX11 11).1 (TX11 11).2.1 (TX11 11).2.2.1 ∈ TB := tw_288
theorem cf_X11_252 : Cond.fieldLink RX11 252 (TX11 12).1 (TX11 12).2.1 (TX11 12).2.2.1 ∈ TB := tw_289
theorem cf_X11_255 : Cond.fieldLink RX11 255 (TX11 14).1 (TX11 14).2.1 (TX11 14).2.2.1 ∈ TB := tw_291
theorem cf_X11_261 : Cond.fieldLink RX11 261 (TX8 3).1 (TX8 3).2.1 (TX8 3).2.2.1 ∈ TB := tw_1314
theorem cf_X11_265 : Cond.fieldLink RX11 265 (TX0 6).1 (TX0 6).2.1 (TX0 6).2.2.1 ∈ TB := tw_61
theorem cf_X11_268 : Cond.fieldLink RX11 268 (TX0 12).1 (TX0 12).2.1 (TX0 12).2.2.1 ∈ TB := tw_72
theorem cf_X11_27 : Cond.fieldLink RX11 27 (TX11 2).1 (TX11 2).2.1 (TX11 2).2.2.1 ∈ TB := tw_279
theorem cf_X11_271 : Cond.fieldLink RX11 271 (TX0 7).1 (TX0 7).2.1 (TX0 7).2.2.1 ∈ TB := tw_63
theorem cf_X11_274 : Cond.fieldLink RX11 274 (TX0 9).1 (TX0 9).2.1 (TX0 9).2.2.1 ∈ TB := tw_67
theorem cf_X11_277 : Cond.fieldLink RX11 277 (TX0 10).1 (TX0 10).2.1 (TX0 10).2.2.1 ∈ TB := tw_69
theorem cf_X11_286 : Cond.fieldLink RX11 286 (TX0 2).1 (TX0 2).2.1 (TX0 2).2.2.1 ∈ TB := tw_53
theorem cf_X11_34 : Cond.fieldLink RX11 34 (TX11 3).1 (TX11 3).2.1 (TX11 3).2.2.1 ∈ TB := tw_280
theorem cf_X11_341 : Cond.fieldLink RX11 341 (TX5 4).1 (TX5 4).2.1 (TX5 4).2.2.1 ∈ TB := tw_148
theorem cf_X11_362 : Cond.fieldLink RX11 362 (TX2 0).1 (TX2 0).2.1 (TX2 0).2.2.1 ∈ TB := tw_218
theorem cf_X11_375 : Cond.fieldLink RX11 375 (TX2 1).1 (TX2 1).2.1 (TX2 1).2.2.1 ∈ TB := tw_220
theorem cf_X11_402 : Cond.fieldLink RX11 402 (TX11 15).1 (TX11 15).2.1 (TX11 15).2.2.1 ∈ TB := tw_292
theorem cf_X11_41 : Cond.fieldLink RX11 41 (TX11 4).1 (TX11 4).2.1 (TX11 4).2.2.1 ∈ TB := tw_281
theorem cf_X11_435 : Cond.fieldLink RX11 435 (TX8 5).1 (TX8 5).2.1 (TX8 5).2.2.1 ∈ TB := tw_1318
theorem cf_X11_439 : Cond.fieldLink RX11 439 (TX1 5).1 (TX1 5).2.1 (TX1 5).2.2.1 ∈ TB := tw_263
theorem cf_X11_442 : Cond.fieldLink RX11 442 (TX1 4).1 (TX1 4).2.1 (TX1 4).2.2.1 ∈ TB := tw_262
theorem cf_X11_48 : Cond.fieldLink RX11 48 (TX11 5).1 (TX11 5).2.1 (TX11 5).2.2.1 ∈ TB := tw_282
theorem cf_X11_485 : Cond.fieldLink RX11 485 (TX3 8).1 (TX3 8).2.1 (TX3 8).2.2.1 ∈ TB := tw_911
theorem cf_X11_492 : Cond.fieldLink RX11 492 (TX3 3).1 (TX3 3).2.1 (TX3 3).2.2.1 ∈ TB := tw_899
theorem cf_X11_523 : Cond.fieldLink RX11 523 (TX8 0).1 (TX8 0).2.1 (TX8 0).2.2.1 ∈ TB := tw_1308
theorem cf_X11_524 : Cond.fieldLink RX11 524 (TX9 5).1 (TX9 5).2.1 (TX9 5).2.2.1 ∈ TB := tw_1217
theorem cf_X11_545 : Cond.fieldLink RX11 545 (TX8 14).1 (TX8 14).2.1 (TX8 14).2.2.1 ∈ TB := tw_1337
theorem cf_X11_55 : Cond.fieldLink RX11 55 (TX11 6).1 (TX11 6).2.1 (TX11 6).2.2.1 ∈ TB := tw_283
theorem cf_X11_558 : Cond.fieldLink RX11 558 (TX1 0).1 (TX1 0).2.1 (TX1 0).2.2.1 ∈ TB := tw_252
theorem cf_X11_575 : Cond.fieldLink RX11 575 (TX5 2).1 (TX5 2).2.1 (TX5 2).2.2.1 ∈ TB := tw_143
theorem cf_X11_597 : Cond.fieldLink RX11 597 (TX6 0).1 (TX6 0).2.1 (TX6 0).2.2.1 ∈ TB := tw_112
theorem cf_X11_608 : Cond.fieldLink RX11 608 (TX8 17).1 (TX8 17).2.1 (TX8 17).2.2.1 ∈ TB := tw_1345
theorem cf_X11_610 : Cond.fieldLink RX11 610 (TX8 12).1 (TX8 12).2.1 (TX8 12).2.2.1 ∈ TB := tw_1332
theorem cf_X11_619 : Cond.fieldLink RX11 619 (TX0 5).1 (TX0 5).2.1 (TX0 5).2.2.1 ∈ TB := tw_59
theorem cf_X11_62 : Cond.fieldLink RX11 62 (TX11 7).1 (TX11 7).2.1 (TX11 7).2.2.1 ∈ TB := tw_284
theorem cf_X11_66 : Cond.fieldLink RX11 66 (TX11 8).1 (TX11 8).2.1 (TX11 8).2.2.1 ∈ TB := tw_285
theorem cf_X11_87 : Cond.fieldLink RX11 87 (TX11 10).1 (TX11 10).2.1 (TX11 10).2.2.1 ∈ TB := tw_287
theorem cf_X1_13 : Cond.fieldLink RX1 13 (TX1 1).1 (TX1 1).2.1 (TX1 1).2.2.1 ∈ TB := tw_253
theorem cf_X1_17 : Cond.fieldLink RX1 17 (TX1 2).1 (TX1 2).2.1 (TX1 2).2.2.1 ∈ TB := tw_256
theorem cf_X1_21 : Cond.fieldLink RX1 21 (TX1 3).1 (TX1 3).2.1 (TX1 3).2.2.1 ∈ TB := tw_258
theorem cf_X1_7 : Cond.fieldLink RX1 7 (TX1 0).1 (TX1 0).2.1 (TX1 0).2.2.1 ∈ TB := tw_250
theorem cf_X2_118 : Cond.fieldLink RX2 118 (TX5 4).1 (TX5 4).2.1 (TX5 4).2.2.1 ∈ TB := tw_147
theorem cf_X2_125 : Cond.fieldLink RX2 125 (TX8 13).1 (TX8 13).2.1 (TX8 13).2.2.1 ∈ TB := tw_1333
theorem cf_X2_128 : Cond.fieldLink RX2 128 (TX8 15).1 (TX8 15).2.1 (TX8 15).2.2.1 ∈ TB := tw_1338
theorem cf_X2_129 : Cond.fieldLink RX2 129 (TX8 14).1 (TX8 14).2.1 (TX8 14).2.2.1 ∈ TB := tw_1336
theorem cf_X2_130 : Cond.fieldLink RX2 130 (TX8 16).1 (TX8 16).2.1 (TX8 16).2.2.1 ∈ TB := tw_1341
theorem cf_X2_131 : Cond.fieldLink RX2 131 (TX8 11).1 (TX8 11).2.1 (TX8 11).2.2.1 ∈ TB := tw_1327
theorem cf_X2_132 : Cond.fieldLink RX2 132 (TX8 12).1 (TX8 12).2.1 (TX8 12).2.2.1 ∈ TB := tw_1330
theorem cf_X2_49 : Cond.fieldLink RX2 49 (TX2 1).1 (TX2 1).2.1 (TX2 1).2.2.1 ∈ TB := tw_219
theorem cf_X2_56 : Cond.fieldLink RX2 56 (TX2 2).1 (TX2 2).2.1 (TX2 2).2.2.1 ∈ TB := tw_221
theorem cf_X2_76 : Cond.fieldLink RX2 76 (TX2 3).1 (TX2 3).2.1 (TX2 3).2.2.1 ∈ TB := tw_222
theorem cf_X2_82 : Cond.fieldLink RX2 82 (TX2 4).1 (TX2 4).2.1 (TX2 4).2.2.1 ∈ TB := tw_223
theorem cf_X2_87 : Cond.fieldLink RX2 87 (TX2 5).1 (TX2 5).2.1 (TX2 5).2.2.1 ∈ TB := tw_224
theorem cf_X2_90 : Cond.fieldLink RX2 90 (TX2 0).1 (TX2 0).2.1 (TX2 0).2.2.1 ∈ TB := tw_217
theorem cf_X2_94 : Cond.fieldLink RX2 94 (TX2 6).1 (TX2 6).2.1 (TX2 6).2.2.1 ∈ TB := tw_225
theorem cf_X2_98 : Cond.fieldLink RX2 98 (TX2 7).1 (TX2 7).2.1 (TX2 7).2.2.1 ∈ TB := tw_226
theorem cf_X3_15 : Cond.fieldLink RX3 15 (TX3 1).1 (TX3 1).2.1 (TX3 1).2.2.1 ∈ TB := tw_892
theorem cf_X3_18 : Cond.fieldLink RX3 18 (TX3 2).1 (TX3 2).2.1 (TX3 2).2.2.1 ∈ TB := tw_896
theorem cf_X3_22 : Cond.fieldLink RX3 22 (TX3 3).1 (TX3 3).2.1 (TX3 3).2.2.1 ∈ TB := tw_898
theorem cf_X3_26 : Cond.fieldLink RX3 26 (TX3 7).1 (TX3 7).2.1 (TX3 7).2.2.1 ∈ TB := tw_906
theorem cf_X3_30 : Cond.fieldLink RX3 30 (TX3 8).1 (TX3 8).2.1 (TX3 8).2.2.1 ∈ TB := tw_910
theorem cf_X3_9 : Cond.fieldLink RX3 9 (TX3 0).1 (TX3 0).2.1 (TX3 0).2.2.1 ∈ TB := tw_888
theorem cf_X4_125 : Cond.fieldLink RX4 125 (TX3 4).1 (TX3 4).2.1 (TX3 4).2.2.1 ∈ TB := tw_900
theorem cf_X4_131 : Cond.fieldLink RX4 131 (TX3 5).1 (TX3 5).2.1 (TX3 5).2.2.1 ∈ TB := tw_902
theorem cf_X4_140 : Cond.fieldLink RX4 140 (TX3 6).1 (TX3 6).2.1 (TX3 6).2.2.1 ∈ TB := tw_904
theorem cf_X4_148 : Cond.fieldLink RX4 148 (TX3 7).1 (TX3 7).2.1 (TX3 7).2.2.1 ∈ TB := tw_907
theorem cf_X4_15 : Cond.fieldLink RX4 15 (TX4 2).1 (TX4 2).2.1 (TX4 2).2.2.1 ∈ TB := tw_168
theorem cf_X4_19 : Cond.fieldLink RX4 19 (TX4 3).1 (TX4 3).2.1 (TX4 3).2.2.1 ∈ TB := tw_169
theorem cf_X4_22 : Cond.fieldLink RX4 22 (TX4 4).1 (TX4 4).2.1 (TX4 4).2.2.1 ∈ TB := tw_170
theorem cf_X4_25 : Cond.fieldLink RX4 25 (TX4 6).1 (TX4 6).2.1 (TX4 6).2.2.1 ∈ TB := tw_172
theorem cf_X4_28 : Cond.fieldLink RX4 28 (TX4 0).1 (TX4 0).2.1 (TX4 0).2.2.1 ∈ TB := tw_166
theorem cf_X4_32 : Cond.fieldLink RX4 32 (TX4 5).1 (TX4 5).2.1 (TX4 5).2.2.1 ∈ TB := tw_171
theorem cf_X4_36 : Cond.fieldLink RX4 36 (TX4 7).1 (TX4 7).2.1 (TX4 7).2.2.1 ∈ TB := tw_173
theorem cf_X4_43 : Cond.fieldLink RX4 43 (TX5 1).1 (TX5 1).2.1 (TX5 1).2.2.1 ∈ TB := tw_140
theorem cf_X4_56 : Cond.fieldLink RX4 56 (TX5 3).1 (TX5 3).2.1 (TX5 3).2.2.1 ∈ TB := tw_145
theorem cf_X4_59 : Cond.fieldLink RX4 59 (TX5 2).1 (TX5 2).2.1 (TX5 2).2.2.1 ∈ TB := tw_142
theorem cf_X4_9 : Cond.fieldLink RX4 9 (TX4 1).1 (TX4 1).2.1 (TX4 1).2.2.1 ∈ TB := tw_167
theorem cf_X5_14 : Cond.fieldLink RX5 14 (TX5 0).1 (TX5 0).2.1 (TX5 0).2.2.1 ∈ TB := tw_138
theorem cf_X5_20 : Cond.fieldLink RX5 20 (TX7 0).1 (TX7 0).2.1 (TX7 0).2.2.1 ∈ TB := tw_133
theorem cf_X5_24 : Cond.fieldLink RX5 24 (TX5 1).1 (TX5 1).2.1 (TX5 1).2.2.1 ∈ TB := tw_139
theorem cf_X5_25 : Cond.fieldLink RX5 25 (TX5 2).1 (TX5 2).2.1 (TX5 2).2.2.1 ∈ TB := tw_141
theorem cf_X5_35 : Cond.fieldLink RX5 35 (TX5 3).1 (TX5 3).2.1 (TX5 3).2.2.1 ∈ TB := tw_144
theorem cf_X5_38 : Cond.fieldLink RX5 38 (TX5 4).1 (TX5 4).2.1 (TX5 4).2.2.1 ∈ TB := tw_146
theorem cf_X6_11 : Cond.fieldLink RX6 11 (TX6 0).1 (TX6 0).2.1 (TX6 0).2.2.1 ∈ TB := tw_111
theorem cf_X6_17 : Cond.fieldLink RX6 17 (TX6 1).1 (TX6 1).2.1 (TX6 1).2.2.1 ∈ TB := tw_113
theorem cf_X6_21 : Cond.fieldLink RX6 21 (TX3 0).1 (TX3 0).2.1 (TX3 0).2.2.1 ∈ TB := tw_889
theorem cf_X6_31 : Cond.fieldLink RX6 31 (TX3 1).1 (TX3 1).2.1 (TX3 1).2.2.1 ∈ TB := tw_893
theorem cf_X7_9 : Cond.fieldLink RX7 9 (TX7 0).1 (TX7 0).2.1 (TX7 0).2.2.1 ∈ TB := tw_132
theorem cf_X8_103 : Cond.fieldLink RX8 103 (TX8 17).1 (TX8 17).2.1 (TX8 17).2.2.1 ∈ TB := tw_1344
theorem cf_X8_106 : Cond.fieldLink RX8 106 (TX8 12).1 (TX8 12).2.1 (TX8 12).2.2.1 ∈ TB := tw_1331
theorem cf_X8_11 : Cond.fieldLink RX8 11 (TX8 3).1 (TX8 3).2.1 (TX8 3).2.2.1 ∈ TB := tw_1313
theorem cf_X8_110 : Cond.fieldLink RX8 110 (TX8 13).1 (TX8 13).2.1 (TX8 13).2.2.1 ∈ TB := tw_1335
theorem cf_X8_19 : Cond.fieldLink RX8 19 (TX8 5).1 (TX8 5).2.1 (TX8 5).2.2.1 ∈ TB := tw_1317
theorem cf_X8_23 : Cond.fieldLink RX8 23 (TX8 7).1 (TX8 7).2.1 (TX8 7).2.2.1 ∈ TB := tw_1321
theorem cf_X8_26 : Cond.fieldLink RX8 26 (TX8 9).1 (TX8 9).2.1 (TX8 9).2.2.1 ∈ TB := tw_1324
theorem cf_X8_30 : Cond.fieldLink RX8 30 (TX8 0).1 (TX8 0).2.1 (TX8 0).2.2.1 ∈ TB := tw_1307
theorem cf_X8_34 : Cond.fieldLink RX8 34 (TX8 1).1 (TX8 1).2.1 (TX8 1).2.2.1 ∈ TB := tw_1309
theorem cf_X8_38 : Cond.fieldLink RX8 38 (TX8 4).1 (TX8 4).2.1 (TX8 4).2.2.1 ∈ TB := tw_1315
theorem cf_X8_41 : Cond.fieldLink RX8 41 (TX9 0).1 (TX9 0).2.1 (TX9 0).2.2.1 ∈ TB := tw_1209
theorem cf_X8_61 : Cond.fieldLink RX8 61 (TX9 2).1 (TX9 2).2.1 (TX9 2).2.2.1 ∈ TB := tw_1212
theorem cf_X8_64 : Cond.fieldLink RX8 64 (TX9 3).1 (TX9 3).2.1 (TX9 3).2.2.1 ∈ TB := tw_1214
theorem cf_X8_67 : Cond.fieldLink RX8 67 (TX8 2).1 (TX8 2).2.1 (TX8 2).2.2.1 ∈ TB := tw_1311
theorem cf_X8_71 : Cond.fieldLink RX8 71 (TX8 6).1 (TX8 6).2.1 (TX8 6).2.2.1 ∈ TB := tw_1319
theorem cf_X8_74 : Cond.fieldLink RX8 74 (TX8 15).1 (TX8 15).2.1 (TX8 15).2.2.1 ∈ TB := tw_1339
theorem cf_X8_83 : Cond.fieldLink RX8 83 (TX1 4).1 (TX1 4).2.1 (TX1 4).2.2.1 ∈ TB := tw_260
theorem cf_X8_84 : Cond.fieldLink RX8 84 (TX1 1).1 (TX1 1).2.1 (TX1 1).2.2.1 ∈ TB := tw_254
theorem cf_X8_91 : Cond.fieldLink RX8 91 (TX8 8).1 (TX8 8).2.1 (TX8 8).2.2.1 ∈ TB := tw_1322
theorem cf_X8_94 : Cond.fieldLink RX8 94 (TX8 10).1 (TX8 10).2.1 (TX8 10).2.2.1 ∈ TB := tw_1326
theorem cf_X8_97 : Cond.fieldLink RX8 97 (TX8 11).1 (TX8 11).2.1 (TX8 11).2.2.1 ∈ TB := tw_1329
theorem cf_X9_13 : Cond.fieldLink RX9 13 (TX9 1).1 (TX9 1).2.1 (TX9 1).2.2.1 ∈ TB := tw_1211
theorem cf_X9_7 : Cond.fieldLink RX9 7 (TX9 0).1 (TX9 0).2.1 (TX9 0).2.2.1 ∈ TB := tw_1208
theorem cl_J7_343 : Cond.methodLink RJ7 343 yJ7_checkLength_df160 ∈ TB := tw_510
theorem cl_J7_351 : Cond.methodLink RJ7 351 yJ7_copyOfRangeInt_feecc ∈ TB := tw_507
theorem cl_X0_48 : Cond.methodLink RX0 48 yX0_following ∈ TB := tw_465
theorem cl_X0_60 : Cond.methodLink RX0 60 yX10_width ∈ TB := tw_1014
theorem cl_X0_79 : Cond.methodLink RX0 79 yX7_count ∈ TB := tw_989
theorem cl_X10_28 : Cond.methodLink RX10 28 yX10_width ∈ TB := tw_1115
theorem cl_X10_45 : Cond.methodLink RX10 45 yX10_begin ∈ TB := tw_1107
theorem cl_X10_55 : Cond.methodLink RX10 55 yX7_count ∈ TB := tw_1108
theorem cl_X10_58 : Cond.methodLink RX10 58 yX10_two ∈ TB := tw_1109
theorem cl_X10_61 : Cond.methodLink RX10 61 yX10_raw ∈ TB := tw_1110
theorem cl_X10_86 : Cond.methodLink RX10 86 yX10_variable ∈ TB := tw_1116
theorem cl_X10_89 : Cond.methodLink RX10 89 yX10_one ∈ TB := tw_1120
theorem cl_X10_92 : Cond.methodLink RX10 92 yX3_left ∈ TB := tw_1121
theorem cl_X10_96 : Cond.methodLink RX10 96 yX10_four ∈ TB := tw_1122
theorem cl_X11_103 : Cond.methodLink RX11 103 yX11_lost ∈ TB := tw_1275
theorem cl_X11_15 : Cond.methodLink RX11 15 yX0_init ∈ TB := tw_42
theorem cl_X11_178 : Cond.methodLink RX11 178 yX7_count ∈ TB := tw_973
theorem cl_X11_194 : Cond.methodLink RX11 194 yX7_at ∈ TB := tw_338
theorem cl_X11_215 : Cond.methodLink RX11 215 yX6_get ∈ TB := tw_334
theorem cl_X11_241 : Cond.methodLink RX11 241 yX11_countSessions ∈ TB := tw_955
theorem cl_X11_280 : Cond.methodLink RX11 280 yX5_begin ∈ TB := tw_473
theorem cl_X11_283 : Cond.methodLink RX11 283 yX0_type ∈ TB := tw_480
theorem cl_X11_290 : Cond.methodLink RX11 290 yX2_read ∈ TB := tw_484
theorem cl_X11_294 : Cond.methodLink RX11 294 yX11_greeted ∈ TB := tw_951
theorem cl_X11_297 : Cond.methodLink RX11 297 yX11_publish ∈ TB := tw_968
theorem cl_X11_301 : Cond.methodLink RX11 301 yX11_answered ∈ TB := tw_1139
theorem cl_X11_305 : Cond.methodLink RX11 305 yX11_subscribe ∈ TB := tw_1168
theorem cl_X11_308 : Cond.methodLink RX11 308 yX11_unsubscribe ∈ TB := tw_1235
theorem cl_X11_311 : Cond.methodLink RX11 311 yX11_ping ∈ TB := tw_1244
theorem cl_X11_315 : Cond.methodLink RX11 315 yX11_leave ∈ TB := tw_1248
theorem cl_X11_319 : Cond.methodLink RX11 319 yX11_sayFarewell ∈ TB := tw_1271
theorem cl_X11_322 : Cond.methodLink RX11 322 yX10_begin ∈ TB := tw_998
theorem cl_X11_324 : Cond.methodLink RX11 324 yX10_one ∈ TB := tw_1006
theorem cl_X11_327 : Cond.methodLink RX11 327 yX0_put ∈ TB := tw_1010
theorem cl_X11_331 : Cond.methodLink RX11 331 yX10_two ∈ TB := tw_1002
theorem cl_X11_334 : Cond.methodLink RX11 334 yX5_expect ∈ TB := tw_1143
theorem cl_X11_338 : Cond.methodLink RX11 338 yX5_finish ∈ TB := tw_1147
theorem cl_X11_344 : Cond.methodLink RX11 344 yX4_clear ∈ TB := tw_1252
theorem cl_X11_347 : Cond.methodLink RX11 347 yX5_left ∈ TB := tw_1144
theorem cl_X11_349 : Cond.methodLink RX11 349 yX5_one ∈ TB := tw_1145
theorem cl_X11_353 : Cond.methodLink RX11 353 yX4_read ∈ TB := tw_981
theorem cl_X11_356 : Cond.methodLink RX11 356 yX4_get ∈ TB := tw_983
theorem cl_X11_359 : Cond.methodLink RX11 359 yX5_fail ∈ TB := tw_967
theorem cl_X11_363 : Cond.methodLink RX11 363 yX11_find ∈ TB := tw_959
theorem cl_X11_367 : Cond.methodLink RX11 367 yX7_same ∈ TB := tw_963
theorem cl_X11_371 : Cond.methodLink RX11 371 yX11_makeId ∈ TB := tw_1258
theorem cl_X11_378 : Cond.methodLink RX11 378 yX11_end ∈ TB := tw_1291
theorem cl_X11_382 : Cond.methodLink RX11 382 yX11_makeSession ∈ TB := tw_1295
theorem cl_X11_385 : Cond.methodLink RX11 385 yX2_applyTo ∈ TB := tw_1383
theorem cl_X11_388 : Cond.methodLink RX11 388 yX11_welcome ∈ TB := tw_1387
theorem cl_X11_392 : Cond.methodLink RX11 392 yX11_sendAgain ∈ TB := tw_1395
theorem cl_X11_396 : Cond.methodLink RX11 396 yX11_goOn ∈ TB := tw_1156
theorem cl_X11_399 : Cond.methodLink RX11 399 yX11_autoId ∈ TB := tw_1262
theorem cl_X11_416 : Cond.methodLink RX11 416 yX7_init ∈ TB := tw_1270
theorem cl_X11_419 : Cond.methodLink RX11 419 yX8_init ∈ TB := tw_1300
theorem cl_X11_422 : Cond.methodLink RX11 422 yX10_variable ∈ TB := tw_1391
theorem cl_X11_427 : Cond.methodLink RX11 427 yX10_four ∈ TB := tw_1393
theorem cl_X11_431 : Cond.methodLink RX11 431 yX10_raw ∈ TB := tw_1394
theorem cl_X11_443 : Cond.methodLink RX11 443 yX11_answer ∈ TB := tw_994
theorem cl_X11_447 : Cond.methodLink RX11 447 yX11_deliver ∈ TB := tw_1099
theorem cl_X11_451 : Cond.methodLink RX11 451 yX5_row ∈ TB := tw_972
theorem cl_X11_455 : Cond.methodLink RX11 455 yX7_isTopic ∈ TB := tw_974
theorem cl_X11_459 : Cond.methodLink RX11 459 yX5_number ∈ TB := tw_975
theorem cl_X11_463 : Cond.methodLink RX11 463 yX4_checkResponse ∈ TB := tw_982
theorem cl_X11_467 : Cond.methodLink RX11 467 yX4_has ∈ TB := tw_984
theorem cl_X11_471 : Cond.methodLink RX11 471 yX0_resolve ∈ TB := tw_985
theorem cl_X11_475 : Cond.methodLink RX11 475 yX8_holds ∈ TB := tw_990
theorem cl_X11_478 : Cond.methodLink RX11 478 yX5_rest ∈ TB := tw_1020
theorem cl_X11_481 : Cond.methodLink RX11 481 yX4_message ∈ TB := tw_1024
theorem cl_X11_488 : Cond.methodLink RX11 488 yX11_carry ∈ TB := tw_1025
theorem cl_X11_495 : Cond.methodLink RX11 495 yX6_keep ∈ TB := tw_1029
theorem cl_X11_498 : Cond.methodLink RX11 498 yX11_distribute ∈ TB := tw_1049
theorem cl_X11_502 : Cond.methodLink RX11 502 yX8_hold ∈ TB := tw_1135
theorem cl_X11_505 : Cond.methodLink RX11 505 yX9_matches ∈ TB := tw_1053
theorem cl_X11_508 : Cond.methodLink RX11 508 yX11_receiver ∈ TB := tw_1059
theorem cl_X11_512 : Cond.methodLink RX11 512 yX8_indexOf ∈ TB := tw_1067
theorem cl_X11_516 : Cond.methodLink RX11 516 yX11_hand ∈ TB := tw_1072
theorem cl_X11_520 : Cond.methodLink RX11 520 yX9_isShared ∈ TB := tw_1063
theorem cl_X11_525 : Cond.methodLink RX11 525 yX8_maySend ∈ TB := tw_1077
theorem cl_X11_528 : Cond.methodLink RX11 528 yX3_isGone ∈ TB := tw_1082
theorem cl_X11_531 : Cond.methodLink RX11 531 yX1_become ∈ TB := tw_1083
theorem cl_X11_535 : Cond.methodLink RX11 535 yX8_queue ∈ TB := tw_1087
theorem cl_X11_539 : Cond.methodLink RX11 539 yX8_depart ∈ TB := tw_1091
theorem cl_X11_542 : Cond.methodLink RX11 542 yX10_publish ∈ TB := tw_1103
theorem cl_X11_548 : Cond.methodLink RX11 548 yX10_total ∈ TB := tw_1127
theorem cl_X11_551 : Cond.methodLink RX11 551 yX8_arrive ∈ TB := tw_1131
theorem cl_X11_554 : Cond.methodLink RX11 554 yX8_unqueue ∈ TB := tw_1160
theorem cl_X11_562 : Cond.methodLink RX11 562 yX11_received ∈ TB := tw_1148
theorem cl_X11_566 : Cond.methodLink RX11 566 yX8_letGo ∈ TB := tw_1164
theorem cl_X11_569 : Cond.methodLink RX11 569 yX8_onTheWay ∈ TB := tw_1152
theorem cl_X11_577 : Cond.methodLink RX11 577 yX11_checkEntries ∈ TB := tw_1173
theorem cl_X11_580 : Cond.methodLink RX11 580 yX8_owes ∈ TB := tw_1179
theorem cl_X11_584 : Cond.methodLink RX11 584 yX8_subscribe ∈ TB := tw_1198
theorem cl_X11_587 : Cond.methodLink RX11 587 yX11_giveRetained ∈ TB := tw_1231
theorem cl_X11_593 : Cond.methodLink RX11 593 yX7_begins ∈ TB := tw_1178
theorem cl_X11_603 : Cond.methodLink RX11 603 yX8_unsubscribe ∈ TB := tw_1240
theorem cl_X11_605 : Cond.methodLink RX11 605 yX0_close ∈ TB := tw_1279
theorem cl_X11_613 : Cond.methodLink RX11 613 yX11_comes ∈ TB := tw_1283
theorem cl_X11_616 : Cond.methodLink RX11 616 yX11_remove ∈ TB := tw_1287
theorem cl_X11_622 : Cond.methodLink RX11 622 yX6_purge ∈ TB := tw_1492
theorem cl_X11_625 : Cond.methodLink RX11 625 yX0_quietUntil ∈ TB := tw_1465
theorem cl_X11_628 : Cond.methodLink RX11 628 yX8_willTime ∈ TB := tw_1475
theorem cl_X11_631 : Cond.methodLink RX11 631 yX8_endTime ∈ TB := tw_1480
theorem cl_X2_101 : Cond.methodLink RX2 101 yX2_readWill ∈ TB := tw_864
theorem cl_X2_105 : Cond.methodLink RX2 105 yX5_finish ∈ TB := tw_946
theorem cl_X2_110 : Cond.methodLink RX2 110 yX4_checkResponse ∈ TB := tw_869
theorem cl_X2_114 : Cond.methodLink RX2 114 yX7_isTopic ∈ TB := tw_877
theorem cl_X2_121 : Cond.methodLink RX2 121 yX4_message ∈ TB := tw_878
theorem cl_X2_15 : Cond.methodLink RX2 15 yX5_row ∈ TB := tw_496
theorem cl_X2_19 : Cond.methodLink RX2 19 yX7_count ∈ TB := tw_768
theorem cl_X2_32 : Cond.methodLink RX2 32 yX7_begins ∈ TB := tw_774
theorem cl_X2_36 : Cond.methodLink RX2 36 yX5_fail ∈ TB := tw_804
theorem cl_X2_40 : Cond.methodLink RX2 40 yX5_one ∈ TB := tw_805
theorem cl_X2_43 : Cond.methodLink RX2 43 yX2_checkFlags ∈ TB := tw_809
theorem cl_X2_53 : Cond.methodLink RX2 53 yX5_two ∈ TB := tw_813
theorem cl_X2_62 : Cond.methodLink RX2 62 yX4_read ∈ TB := tw_818
theorem cl_X2_68 : Cond.methodLink RX2 68 yX4_has ∈ TB := tw_857
theorem cl_X2_72 : Cond.methodLink RX2 72 yX4_get ∈ TB := tw_858
theorem cl_X2_9 : Cond.methodLink RX2 9 yX5_expect ∈ TB := tw_488
theorem cl_X3_35 : Cond.methodLink RX3 35 yX3_left ∈ TB := tw_1045
theorem cl_X4_104 : Cond.methodLink RX4 104 yX7_isTopic ∈ TB := tw_873
theorem cl_X4_110 : Cond.methodLink RX4 110 yX7_init ∈ TB := tw_938
theorem cl_X4_115 : Cond.methodLink RX4 115 yX3_init ∈ TB := tw_884
theorem cl_X4_121 : Cond.methodLink RX4 121 yX4_raw ∈ TB := tw_933
theorem cl_X4_134 : Cond.methodLink RX4 134 yJ7_copyOf_59c91 ∈ TB := tw_941
theorem cl_X4_144 : Cond.methodLink RX4 144 yX4_get ∈ TB := tw_945
theorem cl_X4_40 : Cond.methodLink RX4 40 yX4_clear ∈ TB := tw_822
theorem cl_X4_48 : Cond.methodLink RX4 48 yX5_variable ∈ TB := tw_826
theorem cl_X4_52 : Cond.methodLink RX4 52 yX5_has ∈ TB := tw_830
theorem cl_X4_62 : Cond.methodLink RX4 62 yX5_left ∈ TB := tw_831
theorem cl_X4_65 : Cond.methodLink RX4 65 yX5_one ∈ TB := tw_835
theorem cl_X4_68 : Cond.methodLink RX4 68 yX4_has ∈ TB := tw_836
theorem cl_X4_69 : Cond.methodLink RX4 69 yX5_fail ∈ TB := tw_840
theorem cl_X4_73 : Cond.methodLink RX4 73 yX4_value ∈ TB := tw_841
theorem cl_X4_77 : Cond.methodLink RX4 77 yX4_addUser ∈ TB := tw_851
theorem cl_X4_81 : Cond.methodLink RX4 81 yX5_four ∈ TB := tw_845
theorem cl_X4_85 : Cond.methodLink RX4 85 yX5_two ∈ TB := tw_849
theorem cl_X4_88 : Cond.methodLink RX4 88 yX5_row ∈ TB := tw_850
theorem cl_X5_11 : Cond.methodLink RX5 11 yX7_init ∈ TB := tw_128
theorem cl_X5_41 : Cond.methodLink RX5 41 yX5_fail ∈ TB := tw_492
theorem cl_X5_45 : Cond.methodLink RX5 45 yX5_has ∈ TB := tw_500
theorem cl_X5_49 : Cond.methodLink RX5 49 yX5_two ∈ TB := tw_979
theorem cl_X5_53 : Cond.methodLink RX5 53 yJ7_copyOfRange_feecc ∈ TB := tw_504
theorem cl_X5_59 : Cond.methodLink RX5 59 yX7_isUtf8 ∈ TB := tw_764
theorem cl_X5_63 : Cond.methodLink RX5 63 yX5_left ∈ TB := tw_950
theorem cl_X6_25 : Cond.methodLink RX6 25 yX7_same ∈ TB := tw_1033
theorem cl_X6_34 : Cond.methodLink RX6 34 yX7_count ∈ TB := tw_1034
theorem cl_X6_37 : Cond.methodLink RX6 37 yX6_discard ∈ TB := tw_1035
theorem cl_X6_47 : Cond.methodLink RX6 47 yX3_isGone ∈ TB := tw_1040
theorem cl_X7_21 : Cond.methodLink RX7 21 yX7_at ∈ TB := tw_779
theorem cl_X7_31 : Cond.methodLink RX7 31 yX7_begins ∈ TB := tw_1189
theorem cl_X7_35 : Cond.methodLink RX7 35 yX7_behindName ∈ TB := tw_1190
theorem cl_X7_38 : Cond.methodLink RX7 38 yX7_hasLevels ∈ TB := tw_1194
theorem cl_X8_44 : Cond.methodLink RX8 44 yX7_same ∈ TB := tw_1071
theorem cl_X8_50 : Cond.methodLink RX8 50 yX8_indexOf ∈ TB := tw_1183
theorem cl_X8_54 : Cond.methodLink RX8 54 yX7_filterStart ∈ TB := tw_1184
theorem cl_X8_58 : Cond.methodLink RX8 58 yX9_init ∈ TB := tw_1204
theorem cl_X8_87 : Cond.methodLink RX8 87 yX8_isUsed ∈ TB := tw_1095
theorem cl_X9_17 : Cond.methodLink RX9 17 yX7_at ∈ TB := tw_1057
theorem cl_X9_23 : Cond.methodLink RX9 23 yX7_count ∈ TB := tw_1058
theorem cc_J7_checkLength_df160 : Cond.code yJ7_checkLength_df160 cJ7_checkLength_df160 2 none ∈ TB := tw_512
theorem cs_J7_checkLength_df160 : Cond.static yJ7_checkLength_df160 ∈ TB := tw_511
theorem cd_J7_checkLength_df160 : yJ7_checkLength_df160.cls ≠ "java/lang/invoke/MethodHandle" ∧ yJ7_checkLength_df160.cls ≠ "java/lang/invoke/VarHandle" ∧ (parseMethodDescriptor yJ7_checkLength_df160.desc).map (fun d => d.parameters.length) = some 2 := by decide +kernel
theorem cc_J7_copyOfRangeInt_feecc : Cond.code yJ7_copyOfRangeInt_feecc cJ7_copyOfRangeInt_feecc 5 (some (.array .int)) ∈ TB := tw_509
theorem cs_J7_copyOfRangeInt_feecc : Cond.static yJ7_copyOfRangeInt_feecc ∈ TB := tw_508
theorem cd_J7_copyOfRangeInt_feecc : yJ7_copyOfRangeInt_feecc.cls ≠ "java/lang/invoke/MethodHandle" ∧ yJ7_copyOfRangeInt_feecc.cls ≠ "java/lang/invoke/VarHandle" ∧ (parseMethodDescriptor yJ7_copyOfRangeInt_feecc.desc).map (fun d => d.parameters.length) = some 3 := by decide +kernel
theorem cc_J7_copyOfRange_feecc : Cond.code yJ7_copyOfRange_feecc cJ7_copyOfRange_feecc 3 (some (.array .int)) ∈ TB := tw_506
theorem cs_J7_copyOfRange_feecc : Cond.static yJ7_copyOfRange_feecc ∈ TB := tw_505
theorem cd_J7_copyOfRange_feecc : yJ7_copyOfRange_feecc.cls ≠ "java/lang/invoke/MethodHandle" ∧ yJ7_copyOfRange_feecc.cls ≠ "java/lang/invoke/VarHandle" ∧ (parseMethodDescriptor yJ7_copyOfRange_feecc.desc).map (fun d => d.parameters.length) = some 3 := by decide +kernel
theorem cc_J7_copyOf_59c91 : Cond.code yJ7_copyOf_59c91 cJ7_copyOf_59c91 3 (some (.array .int)) ∈ TB := tw_943
theorem cs_J7_copyOf_59c91 : Cond.static yJ7_copyOf_59c91 ∈ TB := tw_942
theorem cd_J7_copyOf_59c91 : yJ7_copyOf_59c91.cls ≠ "java/lang/invoke/MethodHandle" ∧ yJ7_copyOf_59c91.cls ≠ "java/lang/invoke/VarHandle" ∧ (parseMethodDescriptor yJ7_copyOf_59c91.desc).map (fun d => d.parameters.length) = some 2 := by decide +kernel
theorem cc_X0_close : Cond.code yX0_close cX0_close 2 none ∈ TB := tw_1282
theorem cn_X0_close : Cond.instanceMethod yX0_close ∈ TB := tw_1280
theorem ce_X0_close : Cond.selects RX0 yX0_close yX0_close ∈ TB := tw_1281
theorem cd_X0_close : yX0_close.cls ≠ "java/lang/invoke/MethodHandle" ∧ yX0_close.cls ≠ "java/lang/invoke/VarHandle" ∧ (parseMethodDescriptor yX0_close.desc).map (fun d => d.parameters.length) = some 0 := by decide +kernel
theorem cc_X0_following : Cond.code yX0_following cX0_following 3 (some .int) ∈ TB := tw_468
theorem cn_X0_following : Cond.instanceMethod yX0_following ∈ TB := tw_466
theorem ce_X0_following : Cond.selects RX0 yX0_following yX0_following ∈ TB := tw_467
theorem cd_X0_following : yX0_following.cls ≠ "java/lang/invoke/MethodHandle" ∧ yX0_following.cls ≠ "java/lang/invoke/VarHandle" ∧ (parseMethodDescriptor yX0_following.desc).map (fun d => d.parameters.length) = some 0 := by decide +kernel
theorem cc_X0_init : Cond.code yX0_init cX0_init 2 none ∈ TB := tw_44
theorem cn_X0_init : Cond.instanceMethod yX0_init ∈ TB := tw_43
theorem cd_X0_init : yX0_init.cls ≠ "java/lang/invoke/MethodHandle" ∧ yX0_init.cls ≠ "java/lang/invoke/VarHandle" ∧ (parseMethodDescriptor yX0_init.desc).map (fun d => d.parameters.length) = some 1 := by decide +kernel
theorem cc_X0_put : Cond.code yX0_put cX0_put 5 none ∈ TB := tw_1013
theorem cn_X0_put : Cond.instanceMethod yX0_put ∈ TB := tw_1011
theorem ce_X0_put : Cond.selects RX0 yX0_put yX0_put ∈ TB := tw_1012
theorem cd_X0_put : yX0_put.cls ≠ "java/lang/invoke/MethodHandle" ∧ yX0_put.cls ≠ "java/lang/invoke/VarHandle" ∧ (parseMethodDescriptor yX0_put.desc).map (fun d => d.parameters.length) = some 1 := by decide +kernel
theorem cc_X0_quietUntil : Cond.code yX0_quietUntil cX0_quietUntil 1 (some .long) ∈ TB := tw_1468
theorem cn_X0_quietUntil : Cond.instanceMethod yX0_quietUntil ∈ TB := tw_1466
theorem ce_X0_quietUntil : Cond.selects RX0 yX0_quietUntil yX0_quietUntil ∈ TB := tw_1467
theorem cd_X0_quietUntil : yX0_quietUntil.cls ≠ "java/lang/invoke/MethodHandle" ∧ yX0_quietUntil.cls ≠ "java/lang/invoke/VarHandle" ∧ (parseMethodDescriptor yX0_quietUntil.desc).map (fun d => d.parameters.length) = some 0 := by decide +kernel
theorem cc_X0_resolve : Cond.code yX0_resolve cX0_resolve 4 (some (.object "TopicBroker$Row")) ∈ TB := tw_988
theorem cn_X0_resolve : Cond.instanceMethod yX0_resolve ∈ TB := tw_986
theorem ce_X0_resolve : Cond.selects RX0 yX0_resolve yX0_resolve ∈ TB := tw_987
theorem cd_X0_resolve : yX0_resolve.cls ≠ "java/lang/invoke/MethodHandle" ∧ yX0_resolve.cls ≠ "java/lang/invoke/VarHandle" ∧ (parseMethodDescriptor yX0_resolve.desc).map (fun d => d.parameters.length) = some 2 := by decide +kernel
theorem cc_X0_type : Cond.code yX0_type cX0_type 1 (some .int) ∈ TB := tw_483
theorem cn_X0_type : Cond.instanceMethod yX0_type ∈ TB := tw_481
theorem ce_X0_type : Cond.selects RX0 yX0_type yX0_type ∈ TB := tw_482
theorem cd_X0_type : yX0_type.cls ≠ "java/lang/invoke/MethodHandle" ∧ yX0_type.cls ≠ "java/lang/invoke/VarHandle" ∧ (parseMethodDescriptor yX0_type.desc).map (fun d => d.parameters.length) = some 0 := by decide +kernel
theorem cc_X10_begin : Cond.code yX10_begin cX10_begin 2 none ∈ TB := tw_1001
theorem cn_X10_begin : Cond.instanceMethod yX10_begin ∈ TB := tw_999
theorem ce_X10_begin : Cond.selects RX10 yX10_begin yX10_begin ∈ TB := tw_1000
theorem cd_X10_begin : yX10_begin.cls ≠ "java/lang/invoke/MethodHandle" ∧ yX10_begin.cls ≠ "java/lang/invoke/VarHandle" ∧ (parseMethodDescriptor yX10_begin.desc).map (fun d => d.parameters.length) = some 1 := by decide +kernel
theorem cc_X10_four : Cond.code yX10_four cX10_four 4 none ∈ TB := tw_1125
theorem cn_X10_four : Cond.instanceMethod yX10_four ∈ TB := tw_1123
theorem ce_X10_four : Cond.selects RX10 yX10_four yX10_four ∈ TB := tw_1124
theorem cd_X10_four : yX10_four.cls ≠ "java/lang/invoke/MethodHandle" ∧ yX10_four.cls ≠ "java/lang/invoke/VarHandle" ∧ (parseMethodDescriptor yX10_four.desc).map (fun d => d.parameters.length) = some 1 := by decide +kernel
theorem cc_X10_init : Cond.code yX10_init cX10_init 1 none ∈ TB := tw_196
theorem cn_X10_init : Cond.instanceMethod yX10_init ∈ TB := tw_195
theorem cd_X10_init : yX10_init.cls ≠ "java/lang/invoke/MethodHandle" ∧ yX10_init.cls ≠ "java/lang/invoke/VarHandle" ∧ (parseMethodDescriptor yX10_init.desc).map (fun d => d.parameters.length) = some 0 := by decide +kernel
theorem cc_X10_one : Cond.code yX10_one cX10_one 2 none ∈ TB := tw_1009
theorem cn_X10_one : Cond.instanceMethod yX10_one ∈ TB := tw_1007
theorem ce_X10_one : Cond.selects RX10 yX10_one yX10_one ∈ TB := tw_1008
theorem cd_X10_one : yX10_one.cls ≠ "java/lang/invoke/MethodHandle" ∧ yX10_one.cls ≠ "java/lang/invoke/VarHandle" ∧ (parseMethodDescriptor yX10_one.desc).map (fun d => d.parameters.length) = some 1 := by decide +kernel
theorem cc_X10_publish : Cond.code yX10_publish cX10_publish 7 none ∈ TB := tw_1106
theorem cn_X10_publish : Cond.instanceMethod yX10_publish ∈ TB := tw_1104
theorem ce_X10_publish : Cond.selects RX10 yX10_publish yX10_publish ∈ TB := tw_1105
theorem cd_X10_publish : yX10_publish.cls ≠ "java/lang/invoke/MethodHandle" ∧ yX10_publish.cls ≠ "java/lang/invoke/VarHandle" ∧ (parseMethodDescriptor yX10_publish.desc).map (fun d => d.parameters.length) = some 3 := by decide +kernel
theorem cc_X10_raw : Cond.code yX10_raw cX10_raw 3 none ∈ TB := tw_1113
theorem cn_X10_raw : Cond.instanceMethod yX10_raw ∈ TB := tw_1111
theorem ce_X10_raw : Cond.selects RX10 yX10_raw yX10_raw ∈ TB := tw_1112
theorem cd_X10_raw : yX10_raw.cls ≠ "java/lang/invoke/MethodHandle" ∧ yX10_raw.cls ≠ "java/lang/invoke/VarHandle" ∧ (parseMethodDescriptor yX10_raw.desc).map (fun d => d.parameters.length) = some 1 := by decide +kernel
theorem cc_X10_total : Cond.code yX10_total cX10_total 1 (some .int) ∈ TB := tw_1130
theorem cn_X10_total : Cond.instanceMethod yX10_total ∈ TB := tw_1128
theorem ce_X10_total : Cond.selects RX10 yX10_total yX10_total ∈ TB := tw_1129
theorem cd_X10_total : yX10_total.cls ≠ "java/lang/invoke/MethodHandle" ∧ yX10_total.cls ≠ "java/lang/invoke/VarHandle" ∧ (parseMethodDescriptor yX10_total.desc).map (fun d => d.parameters.length) = some 0 := by decide +kernel
theorem cc_X10_two : Cond.code yX10_two cX10_two 2 none ∈ TB := tw_1005
theorem cn_X10_two : Cond.instanceMethod yX10_two ∈ TB := tw_1003
theorem ce_X10_two : Cond.selects RX10 yX10_two yX10_two ∈ TB := tw_1004
theorem cd_X10_two : yX10_two.cls ≠ "java/lang/invoke/MethodHandle" ∧ yX10_two.cls ≠ "java/lang/invoke/VarHandle" ∧ (parseMethodDescriptor yX10_two.desc).map (fun d => d.parameters.length) = some 1 := by decide +kernel
theorem cc_X10_variable : Cond.code yX10_variable cX10_variable 4 none ∈ TB := tw_1119
theorem cn_X10_variable : Cond.instanceMethod yX10_variable ∈ TB := tw_1117
theorem ce_X10_variable : Cond.selects RX10 yX10_variable yX10_variable ∈ TB := tw_1118
theorem cd_X10_variable : yX10_variable.cls ≠ "java/lang/invoke/MethodHandle" ∧ yX10_variable.cls ≠ "java/lang/invoke/VarHandle" ∧ (parseMethodDescriptor yX10_variable.desc).map (fun d => d.parameters.length) = some 1 := by decide +kernel
theorem cc_X10_width : Cond.code yX10_width cX10_width 2 (some .int) ∈ TB := tw_1017
theorem cn_X10_width : Cond.instanceMethod yX10_width ∈ TB := tw_1015
theorem ce_X10_width : Cond.selects RX10 yX10_width yX10_width ∈ TB := tw_1016
theorem cd_X10_width : yX10_width.cls ≠ "java/lang/invoke/MethodHandle" ∧ yX10_width.cls ≠ "java/lang/invoke/VarHandle" ∧ (parseMethodDescriptor yX10_width.desc).map (fun d => d.parameters.length) = some 1 := by decide +kernel
theorem cc_X11_answer : Cond.code yX11_answer cX11_answer 5 none ∈ TB := tw_997
theorem cn_X11_answer : Cond.instanceMethod yX11_answer ∈ TB := tw_996
theorem ce_X11_answer : Cond.selects RX11 yX11_answer yX11_answer ∈ TB := tp_7
theorem cd_X11_answer : yX11_answer.cls ≠ "java/lang/invoke/MethodHandle" ∧ yX11_answer.cls ≠ "java/lang/invoke/VarHandle" ∧ (parseMethodDescriptor yX11_answer.desc).map (fun d => d.parameters.length) = some 4 := by decide +kernel
theorem cc_X11_answered : Cond.code yX11_answered cX11_answered 8 (some .int) ∈ TB := tw_1142
theorem cn_X11_answered : Cond.instanceMethod yX11_answered ∈ TB := tw_1141
theorem ce_X11_answered : Cond.selects RX11 yX11_answered yX11_answered ∈ TB := tp_13
theorem cd_X11_answered : yX11_answered.cls ≠ "java/lang/invoke/MethodHandle" ∧ yX11_answered.cls ≠ "java/lang/invoke/VarHandle" ∧ (parseMethodDescriptor yX11_answered.desc).map (fun d => d.parameters.length) = some 4 := by decide +kernel
theorem cc_X11_autoId : Cond.code yX11_autoId cX11_autoId 5 (some (.object "TopicBroker$Row")) ∈ TB := tw_1265
theorem cn_X11_autoId : Cond.instanceMethod yX11_autoId ∈ TB := tw_1264
theorem ce_X11_autoId : Cond.selects RX11 yX11_autoId yX11_autoId ∈ TB := tp_24
theorem cd_X11_autoId : yX11_autoId.cls ≠ "java/lang/invoke/MethodHandle" ∧ yX11_autoId.cls ≠ "java/lang/invoke/VarHandle" ∧ (parseMethodDescriptor yX11_autoId.desc).map (fun d => d.parameters.length) = some 0 := by decide +kernel
theorem cc_X11_carry : Cond.code yX11_carry cX11_carry 6 none ∈ TB := tw_1028
theorem cn_X11_carry : Cond.instanceMethod yX11_carry ∈ TB := tw_1027
theorem ce_X11_carry : Cond.selects RX11 yX11_carry yX11_carry ∈ TB := tp_8
theorem cd_X11_carry : yX11_carry.cls ≠ "java/lang/invoke/MethodHandle" ∧ yX11_carry.cls ≠ "java/lang/invoke/VarHandle" ∧ (parseMethodDescriptor yX11_carry.desc).map (fun d => d.parameters.length) = some 4 := by decide +kernel
theorem cc_X11_checkEntries : Cond.code yX11_checkEntries cX11_checkEntries 6 (some .int) ∈ TB := tw_1176
theorem cn_X11_checkEntries : Cond.instanceMethod yX11_checkEntries ∈ TB := tw_1175
theorem ce_X11_checkEntries : Cond.selects RX11 yX11_checkEntries yX11_checkEntries ∈ TB := tp_17
theorem cd_X11_checkEntries : yX11_checkEntries.cls ≠ "java/lang/invoke/MethodHandle" ∧ yX11_checkEntries.cls ≠ "java/lang/invoke/VarHandle" ∧ (parseMethodDescriptor yX11_checkEntries.desc).map (fun d => d.parameters.length) = some 0 := by decide +kernel
theorem cc_X11_comes : Cond.code yX11_comes cX11_comes 3 none ∈ TB := tw_1286
theorem cn_X11_comes : Cond.instanceMethod yX11_comes ∈ TB := tw_1285
theorem ce_X11_comes : Cond.selects RX11 yX11_comes yX11_comes ∈ TB := tp_27
theorem cd_X11_comes : yX11_comes.cls ≠ "java/lang/invoke/MethodHandle" ∧ yX11_comes.cls ≠ "java/lang/invoke/VarHandle" ∧ (parseMethodDescriptor yX11_comes.desc).map (fun d => d.parameters.length) = some 1 := by decide +kernel
theorem cc_X11_countSessions : Cond.code yX11_countSessions cX11_countSessions 3 (some .int) ∈ TB := tw_958
theorem cn_X11_countSessions : Cond.instanceMethod yX11_countSessions ∈ TB := tw_957
theorem ce_X11_countSessions : Cond.selects RX11 yX11_countSessions yX11_countSessions ∈ TB := tp_4
theorem cd_X11_countSessions : yX11_countSessions.cls ≠ "java/lang/invoke/MethodHandle" ∧ yX11_countSessions.cls ≠ "java/lang/invoke/VarHandle" ∧ (parseMethodDescriptor yX11_countSessions.desc).map (fun d => d.parameters.length) = some 0 := by decide +kernel
theorem cc_X11_deliver : Cond.code yX11_deliver cX11_deliver 4 none ∈ TB := tw_1102
theorem cn_X11_deliver : Cond.instanceMethod yX11_deliver ∈ TB := tw_1101
theorem ce_X11_deliver : Cond.selects RX11 yX11_deliver yX11_deliver ∈ TB := tp_12
theorem cd_X11_deliver : yX11_deliver.cls ≠ "java/lang/invoke/MethodHandle" ∧ yX11_deliver.cls ≠ "java/lang/invoke/VarHandle" ∧ (parseMethodDescriptor yX11_deliver.desc).map (fun d => d.parameters.length) = some 3 := by decide +kernel
theorem cc_X11_distribute : Cond.code yX11_distribute cX11_distribute 11 (some .boolean) ∈ TB := tw_1052
theorem cn_X11_distribute : Cond.instanceMethod yX11_distribute ∈ TB := tw_1051
theorem ce_X11_distribute : Cond.selects RX11 yX11_distribute yX11_distribute ∈ TB := tp_9
theorem cd_X11_distribute : yX11_distribute.cls ≠ "java/lang/invoke/MethodHandle" ∧ yX11_distribute.cls ≠ "java/lang/invoke/VarHandle" ∧ (parseMethodDescriptor yX11_distribute.desc).map (fun d => d.parameters.length) = some 2 := by decide +kernel
theorem cc_X11_end : Cond.code yX11_end cX11_end 2 none ∈ TB := tw_1294
theorem cn_X11_end : Cond.instanceMethod yX11_end ∈ TB := tw_1293
theorem ce_X11_end : Cond.selects RX11 yX11_end yX11_end ∈ TB := tp_29
theorem cd_X11_end : yX11_end.cls ≠ "java/lang/invoke/MethodHandle" ∧ yX11_end.cls ≠ "java/lang/invoke/VarHandle" ∧ (parseMethodDescriptor yX11_end.desc).map (fun d => d.parameters.length) = some 1 := by decide +kernel
theorem cc_X11_find : Cond.code yX11_find cX11_find 4 (some (.object "TopicBroker$Session")) ∈ TB := tw_962
theorem cn_X11_find : Cond.instanceMethod yX11_find ∈ TB := tw_961
theorem ce_X11_find : Cond.selects RX11 yX11_find yX11_find ∈ TB := tp_5
theorem cd_X11_find : yX11_find.cls ≠ "java/lang/invoke/MethodHandle" ∧ yX11_find.cls ≠ "java/lang/invoke/VarHandle" ∧ (parseMethodDescriptor yX11_find.desc).map (fun d => d.parameters.length) = some 1 := by decide +kernel
theorem cc_X11_giveRetained : Cond.code yX11_giveRetained cX11_giveRetained 6 none ∈ TB := tw_1234
theorem cn_X11_giveRetained : Cond.instanceMethod yX11_giveRetained ∈ TB := tw_1233
theorem ce_X11_giveRetained : Cond.selects RX11 yX11_giveRetained yX11_giveRetained ∈ TB := tp_18
theorem cd_X11_giveRetained : yX11_giveRetained.cls ≠ "java/lang/invoke/MethodHandle" ∧ yX11_giveRetained.cls ≠ "java/lang/invoke/VarHandle" ∧ (parseMethodDescriptor yX11_giveRetained.desc).map (fun d => d.parameters.length) = some 2 := by decide +kernel
theorem cc_X11_goOn : Cond.code yX11_goOn cX11_goOn 4 none ∈ TB := tw_1159
theorem cn_X11_goOn : Cond.instanceMethod yX11_goOn ∈ TB := tw_1158
theorem ce_X11_goOn : Cond.selects RX11 yX11_goOn yX11_goOn ∈ TB := tp_15
theorem cd_X11_goOn : yX11_goOn.cls ≠ "java/lang/invoke/MethodHandle" ∧ yX11_goOn.cls ≠ "java/lang/invoke/VarHandle" ∧ (parseMethodDescriptor yX11_goOn.desc).map (fun d => d.parameters.length) = some 1 := by decide +kernel
theorem cc_X11_greeted : Cond.code yX11_greeted cX11_greeted 1 (some .int) ∈ TB := tw_954
theorem cn_X11_greeted : Cond.instanceMethod yX11_greeted ∈ TB := tw_953
theorem ce_X11_greeted : Cond.selects RX11 yX11_greeted yX11_greeted ∈ TB := tp_3
theorem cd_X11_greeted : yX11_greeted.cls ≠ "java/lang/invoke/MethodHandle" ∧ yX11_greeted.cls ≠ "java/lang/invoke/VarHandle" ∧ (parseMethodDescriptor yX11_greeted.desc).map (fun d => d.parameters.length) = some 0 := by decide +kernel
theorem cc_X11_hand : Cond.code yX11_hand cX11_hand 9 (some (.object "TopicBroker$Delivery")) ∈ TB := tw_1075
theorem cn_X11_hand : Cond.instanceMethod yX11_hand ∈ TB := tw_1074
theorem ce_X11_hand : Cond.selects RX11 yX11_hand yX11_hand ∈ TB := tp_11
theorem cd_X11_hand : yX11_hand.cls ≠ "java/lang/invoke/MethodHandle" ∧ yX11_hand.cls ≠ "java/lang/invoke/VarHandle" ∧ (parseMethodDescriptor yX11_hand.desc).map (fun d => d.parameters.length) = some 4 := by decide +kernel
theorem cc_X11_leave : Cond.code yX11_leave cX11_leave 6 (some .int) ∈ TB := tw_1251
theorem cn_X11_leave : Cond.instanceMethod yX11_leave ∈ TB := tw_1250
theorem ce_X11_leave : Cond.selects RX11 yX11_leave yX11_leave ∈ TB := tp_21
theorem cd_X11_leave : yX11_leave.cls ≠ "java/lang/invoke/MethodHandle" ∧ yX11_leave.cls ≠ "java/lang/invoke/VarHandle" ∧ (parseMethodDescriptor yX11_leave.desc).map (fun d => d.parameters.length) = some 2 := by decide +kernel
theorem cc_X11_lost : Cond.code yX11_lost cX11_lost 3 none ∈ TB := tw_1278
theorem cn_X11_lost : Cond.instanceMethod yX11_lost ∈ TB := tw_1277
theorem ce_X11_lost : Cond.selects RX11 yX11_lost yX11_lost ∈ TB := tp_26
theorem cd_X11_lost : yX11_lost.cls ≠ "java/lang/invoke/MethodHandle" ∧ yX11_lost.cls ≠ "java/lang/invoke/VarHandle" ∧ (parseMethodDescriptor yX11_lost.desc).map (fun d => d.parameters.length) = some 1 := by decide +kernel
theorem cc_X11_makeId : Cond.code yX11_makeId cX11_makeId 3 (some (.object "TopicBroker$Row")) ∈ TB := tw_1261
theorem cn_X11_makeId : Cond.instanceMethod yX11_makeId ∈ TB := tw_1260
theorem ce_X11_makeId : Cond.selects RX11 yX11_makeId yX11_makeId ∈ TB := tp_23
theorem cd_X11_makeId : yX11_makeId.cls ≠ "java/lang/invoke/MethodHandle" ∧ yX11_makeId.cls ≠ "java/lang/invoke/VarHandle" ∧ (parseMethodDescriptor yX11_makeId.desc).map (fun d => d.parameters.length) = some 0 := by decide +kernel
theorem cc_X11_makeSession : Cond.code yX11_makeSession cX11_makeSession 3 (some (.object "TopicBroker$Session")) ∈ TB := tw_1298
theorem cn_X11_makeSession : Cond.instanceMethod yX11_makeSession ∈ TB := tw_1297
theorem ce_X11_makeSession : Cond.selects RX11 yX11_makeSession yX11_makeSession ∈ TB := tp_30
theorem cd_X11_makeSession : yX11_makeSession.cls ≠ "java/lang/invoke/MethodHandle" ∧ yX11_makeSession.cls ≠ "java/lang/invoke/VarHandle" ∧ (parseMethodDescriptor yX11_makeSession.desc).map (fun d => d.parameters.length) = some 1 := by decide +kernel
theorem cc_X11_ping : Cond.code yX11_ping cX11_ping 3 (some .int) ∈ TB := tw_1247
theorem cn_X11_ping : Cond.instanceMethod yX11_ping ∈ TB := tw_1246
theorem ce_X11_ping : Cond.selects RX11 yX11_ping yX11_ping ∈ TB := tp_20
theorem cd_X11_ping : yX11_ping.cls ≠ "java/lang/invoke/MethodHandle" ∧ yX11_ping.cls ≠ "java/lang/invoke/VarHandle" ∧ (parseMethodDescriptor yX11_ping.desc).map (fun d => d.parameters.length) = some 2 := by decide +kernel
theorem cc_X11_publish : Cond.code yX11_publish cX11_publish 9 (some .int) ∈ TB := tw_971
theorem cn_X11_publish : Cond.instanceMethod yX11_publish ∈ TB := tw_970
theorem ce_X11_publish : Cond.selects RX11 yX11_publish yX11_publish ∈ TB := tp_6
theorem cd_X11_publish : yX11_publish.cls ≠ "java/lang/invoke/MethodHandle" ∧ yX11_publish.cls ≠ "java/lang/invoke/VarHandle" ∧ (parseMethodDescriptor yX11_publish.desc).map (fun d => d.parameters.length) = some 3 := by decide +kernel
theorem cc_X11_received : Cond.code yX11_received cX11_received 6 none ∈ TB := tw_1151
theorem cn_X11_received : Cond.instanceMethod yX11_received ∈ TB := tw_1150
theorem ce_X11_received : Cond.selects RX11 yX11_received yX11_received ∈ TB := tp_14
theorem cd_X11_received : yX11_received.cls ≠ "java/lang/invoke/MethodHandle" ∧ yX11_received.cls ≠ "java/lang/invoke/VarHandle" ∧ (parseMethodDescriptor yX11_received.desc).map (fun d => d.parameters.length) = some 4 := by decide +kernel
theorem cc_X11_receiver : Cond.code yX11_receiver cX11_receiver 12 (some (.object "TopicBroker$Session")) ∈ TB := tw_1062
theorem cn_X11_receiver : Cond.instanceMethod yX11_receiver ∈ TB := tw_1061
theorem ce_X11_receiver : Cond.selects RX11 yX11_receiver yX11_receiver ∈ TB := tp_10
theorem cd_X11_receiver : yX11_receiver.cls ≠ "java/lang/invoke/MethodHandle" ∧ yX11_receiver.cls ≠ "java/lang/invoke/VarHandle" ∧ (parseMethodDescriptor yX11_receiver.desc).map (fun d => d.parameters.length) = some 3 := by decide +kernel
theorem cc_X11_remove : Cond.code yX11_remove cX11_remove 2 none ∈ TB := tw_1290
theorem cn_X11_remove : Cond.instanceMethod yX11_remove ∈ TB := tw_1289
theorem ce_X11_remove : Cond.selects RX11 yX11_remove yX11_remove ∈ TB := tp_28
theorem cd_X11_remove : yX11_remove.cls ≠ "java/lang/invoke/MethodHandle" ∧ yX11_remove.cls ≠ "java/lang/invoke/VarHandle" ∧ (parseMethodDescriptor yX11_remove.desc).map (fun d => d.parameters.length) = some 1 := by decide +kernel
theorem cc_X11_sayFarewell : Cond.code yX11_sayFarewell cX11_sayFarewell 3 none ∈ TB := tw_1274
theorem cn_X11_sayFarewell : Cond.instanceMethod yX11_sayFarewell ∈ TB := tw_1273
theorem ce_X11_sayFarewell : Cond.selects RX11 yX11_sayFarewell yX11_sayFarewell ∈ TB := tp_25
theorem cd_X11_sayFarewell : yX11_sayFarewell.cls ≠ "java/lang/invoke/MethodHandle" ∧ yX11_sayFarewell.cls ≠ "java/lang/invoke/VarHandle" ∧ (parseMethodDescriptor yX11_sayFarewell.desc).map (fun d => d.parameters.length) = some 2 := by decide +kernel
theorem cc_X11_sendAgain : Cond.code yX11_sendAgain cX11_sendAgain 6 none ∈ TB := tw_1398
theorem cn_X11_sendAgain : Cond.instanceMethod yX11_sendAgain ∈ TB := tw_1397
theorem ce_X11_sendAgain : Cond.selects RX11 yX11_sendAgain yX11_sendAgain ∈ TB := tp_32
theorem cd_X11_sendAgain : yX11_sendAgain.cls ≠ "java/lang/invoke/MethodHandle" ∧ yX11_sendAgain.cls ≠ "java/lang/invoke/VarHandle" ∧ (parseMethodDescriptor yX11_sendAgain.desc).map (fun d => d.parameters.length) = some 2 := by decide +kernel
theorem cc_X11_subscribe : Cond.code yX11_subscribe cX11_subscribe 11 (some .int) ∈ TB := tw_1171
theorem cn_X11_subscribe : Cond.instanceMethod yX11_subscribe ∈ TB := tw_1170
theorem ce_X11_subscribe : Cond.selects RX11 yX11_subscribe yX11_subscribe ∈ TB := tp_16
theorem cd_X11_subscribe : yX11_subscribe.cls ≠ "java/lang/invoke/MethodHandle" ∧ yX11_subscribe.cls ≠ "java/lang/invoke/VarHandle" ∧ (parseMethodDescriptor yX11_subscribe.desc).map (fun d => d.parameters.length) = some 3 := by decide +kernel
theorem cc_X11_unsubscribe : Cond.code yX11_unsubscribe cX11_unsubscribe 8 (some .int) ∈ TB := tw_1238
theorem cn_X11_unsubscribe : Cond.instanceMethod yX11_unsubscribe ∈ TB := tw_1237
theorem ce_X11_unsubscribe : Cond.selects RX11 yX11_unsubscribe yX11_unsubscribe ∈ TB := tp_19
theorem cd_X11_unsubscribe : yX11_unsubscribe.cls ≠ "java/lang/invoke/MethodHandle" ∧ yX11_unsubscribe.cls ≠ "java/lang/invoke/VarHandle" ∧ (parseMethodDescriptor yX11_unsubscribe.desc).map (fun d => d.parameters.length) = some 3 := by decide +kernel
theorem cc_X11_welcome : Cond.code yX11_welcome cX11_welcome 5 none ∈ TB := tw_1390
theorem cn_X11_welcome : Cond.instanceMethod yX11_welcome ∈ TB := tw_1389
theorem ce_X11_welcome : Cond.selects RX11 yX11_welcome yX11_welcome ∈ TB := tp_31
theorem cd_X11_welcome : yX11_welcome.cls ≠ "java/lang/invoke/MethodHandle" ∧ yX11_welcome.cls ≠ "java/lang/invoke/VarHandle" ∧ (parseMethodDescriptor yX11_welcome.desc).map (fun d => d.parameters.length) = some 4 := by decide +kernel
theorem cc_X1_become : Cond.code yX1_become cX1_become 5 none ∈ TB := tw_1086
theorem cn_X1_become : Cond.instanceMethod yX1_become ∈ TB := tw_1084
theorem ce_X1_become : Cond.selects RX1 yX1_become yX1_become ∈ TB := tw_1085
theorem cd_X1_become : yX1_become.cls ≠ "java/lang/invoke/MethodHandle" ∧ yX1_become.cls ≠ "java/lang/invoke/VarHandle" ∧ (parseMethodDescriptor yX1_become.desc).map (fun d => d.parameters.length) = some 4 := by decide +kernel
theorem cc_X1_init : Cond.code yX1_init cX1_init 1 none ∈ TB := tw_248
theorem cn_X1_init : Cond.instanceMethod yX1_init ∈ TB := tw_247
theorem cd_X1_init : yX1_init.cls ≠ "java/lang/invoke/MethodHandle" ∧ yX1_init.cls ≠ "java/lang/invoke/VarHandle" ∧ (parseMethodDescriptor yX1_init.desc).map (fun d => d.parameters.length) = some 0 := by decide +kernel
theorem cc_X2_applyTo : Cond.code yX2_applyTo cX2_applyTo 2 none ∈ TB := tw_1386
theorem cn_X2_applyTo : Cond.instanceMethod yX2_applyTo ∈ TB := tw_1384
theorem ce_X2_applyTo : Cond.selects RX2 yX2_applyTo yX2_applyTo ∈ TB := tw_1385
theorem cd_X2_applyTo : yX2_applyTo.cls ≠ "java/lang/invoke/MethodHandle" ∧ yX2_applyTo.cls ≠ "java/lang/invoke/VarHandle" ∧ (parseMethodDescriptor yX2_applyTo.desc).map (fun d => d.parameters.length) = some 1 := by decide +kernel
theorem cc_X2_checkFlags : Cond.code yX2_checkFlags cX2_checkFlags 4 none ∈ TB := tw_812
theorem cn_X2_checkFlags : Cond.instanceMethod yX2_checkFlags ∈ TB := tw_810
theorem ce_X2_checkFlags : Cond.selects RX2 yX2_checkFlags yX2_checkFlags ∈ TB := tw_811
theorem cd_X2_checkFlags : yX2_checkFlags.cls ≠ "java/lang/invoke/MethodHandle" ∧ yX2_checkFlags.cls ≠ "java/lang/invoke/VarHandle" ∧ (parseMethodDescriptor yX2_checkFlags.desc).map (fun d => d.parameters.length) = some 2 := by decide +kernel
theorem cc_X2_init : Cond.code yX2_init cX2_init 1 none ∈ TB := tw_215
theorem cn_X2_init : Cond.instanceMethod yX2_init ∈ TB := tw_214
theorem cd_X2_init : yX2_init.cls ≠ "java/lang/invoke/MethodHandle" ∧ yX2_init.cls ≠ "java/lang/invoke/VarHandle" ∧ (parseMethodDescriptor yX2_init.desc).map (fun d => d.parameters.length) = some 0 := by decide +kernel
theorem cc_X2_read : Cond.code yX2_read cX2_read 7 none ∈ TB := tw_487
theorem cn_X2_read : Cond.instanceMethod yX2_read ∈ TB := tw_485
theorem ce_X2_read : Cond.selects RX2 yX2_read yX2_read ∈ TB := tw_486
theorem cd_X2_read : yX2_read.cls ≠ "java/lang/invoke/MethodHandle" ∧ yX2_read.cls ≠ "java/lang/invoke/VarHandle" ∧ (parseMethodDescriptor yX2_read.desc).map (fun d => d.parameters.length) = some 3 := by decide +kernel
theorem cc_X2_readWill : Cond.code yX2_readWill cX2_readWill 6 none ∈ TB := tw_867
theorem cn_X2_readWill : Cond.instanceMethod yX2_readWill ∈ TB := tw_865
theorem ce_X2_readWill : Cond.selects RX2 yX2_readWill yX2_readWill ∈ TB := tw_866
theorem cd_X2_readWill : yX2_readWill.cls ≠ "java/lang/invoke/MethodHandle" ∧ yX2_readWill.cls ≠ "java/lang/invoke/VarHandle" ∧ (parseMethodDescriptor yX2_readWill.desc).map (fun d => d.parameters.length) = some 3 := by decide +kernel
theorem cc_X3_init : Cond.code yX3_init cX3_init 5 none ∈ TB := tw_886
theorem cn_X3_init : Cond.instanceMethod yX3_init ∈ TB := tw_885
theorem cd_X3_init : yX3_init.cls ≠ "java/lang/invoke/MethodHandle" ∧ yX3_init.cls ≠ "java/lang/invoke/VarHandle" ∧ (parseMethodDescriptor yX3_init.desc).map (fun d => d.parameters.length) = some 4 := by decide +kernel
theorem cc_X3_isGone : Cond.code yX3_isGone cX3_isGone 2 (some .boolean) ∈ TB := tw_1043
theorem cn_X3_isGone : Cond.instanceMethod yX3_isGone ∈ TB := tw_1041
theorem ce_X3_isGone : Cond.selects RX3 yX3_isGone yX3_isGone ∈ TB := tw_1042
theorem cd_X3_isGone : yX3_isGone.cls ≠ "java/lang/invoke/MethodHandle" ∧ yX3_isGone.cls ≠ "java/lang/invoke/VarHandle" ∧ (parseMethodDescriptor yX3_isGone.desc).map (fun d => d.parameters.length) = some 1 := by decide +kernel
theorem cc_X3_left : Cond.code yX3_left cX3_left 4 (some .long) ∈ TB := tw_1048
theorem cn_X3_left : Cond.instanceMethod yX3_left ∈ TB := tw_1046
theorem ce_X3_left : Cond.selects RX3 yX3_left yX3_left ∈ TB := tw_1047
theorem cd_X3_left : yX3_left.cls ≠ "java/lang/invoke/MethodHandle" ∧ yX3_left.cls ≠ "java/lang/invoke/VarHandle" ∧ (parseMethodDescriptor yX3_left.desc).map (fun d => d.parameters.length) = some 1 := by decide +kernel
theorem cc_X4_addUser : Cond.code yX4_addUser cX4_addUser 4 none ∈ TB := tw_854
theorem cn_X4_addUser : Cond.instanceMethod yX4_addUser ∈ TB := tw_852
theorem ce_X4_addUser : Cond.selects RX4 yX4_addUser yX4_addUser ∈ TB := tw_853
theorem cd_X4_addUser : yX4_addUser.cls ≠ "java/lang/invoke/MethodHandle" ∧ yX4_addUser.cls ≠ "java/lang/invoke/VarHandle" ∧ (parseMethodDescriptor yX4_addUser.desc).map (fun d => d.parameters.length) = some 2 := by decide +kernel
theorem cc_X4_checkResponse : Cond.code yX4_checkResponse cX4_checkResponse 2 none ∈ TB := tw_872
theorem cn_X4_checkResponse : Cond.instanceMethod yX4_checkResponse ∈ TB := tw_870
theorem ce_X4_checkResponse : Cond.selects RX4 yX4_checkResponse yX4_checkResponse ∈ TB := tw_871
theorem cd_X4_checkResponse : yX4_checkResponse.cls ≠ "java/lang/invoke/MethodHandle" ∧ yX4_checkResponse.cls ≠ "java/lang/invoke/VarHandle" ∧ (parseMethodDescriptor yX4_checkResponse.desc).map (fun d => d.parameters.length) = some 1 := by decide +kernel
theorem cc_X4_clear : Cond.code yX4_clear cX4_clear 1 none ∈ TB := tw_825
theorem cn_X4_clear : Cond.instanceMethod yX4_clear ∈ TB := tw_823
theorem ce_X4_clear : Cond.selects RX4 yX4_clear yX4_clear ∈ TB := tw_824
theorem cd_X4_clear : yX4_clear.cls ≠ "java/lang/invoke/MethodHandle" ∧ yX4_clear.cls ≠ "java/lang/invoke/VarHandle" ∧ (parseMethodDescriptor yX4_clear.desc).map (fun d => d.parameters.length) = some 0 := by decide +kernel
theorem cc_X4_get : Cond.code yX4_get cX4_get 4 (some .long) ∈ TB := tw_861
theorem cn_X4_get : Cond.instanceMethod yX4_get ∈ TB := tw_859
theorem ce_X4_get : Cond.selects RX4 yX4_get yX4_get ∈ TB := tw_860
theorem cd_X4_get : yX4_get.cls ≠ "java/lang/invoke/MethodHandle" ∧ yX4_get.cls ≠ "java/lang/invoke/VarHandle" ∧ (parseMethodDescriptor yX4_get.desc).map (fun d => d.parameters.length) = some 2 := by decide +kernel
theorem cc_X4_has : Cond.code yX4_has cX4_has 2 (some .boolean) ∈ TB := tw_839
theorem cn_X4_has : Cond.instanceMethod yX4_has ∈ TB := tw_837
theorem ce_X4_has : Cond.selects RX4 yX4_has yX4_has ∈ TB := tw_838
theorem cd_X4_has : yX4_has.cls ≠ "java/lang/invoke/MethodHandle" ∧ yX4_has.cls ≠ "java/lang/invoke/VarHandle" ∧ (parseMethodDescriptor yX4_has.desc).map (fun d => d.parameters.length) = some 1 := by decide +kernel
theorem cc_X4_init : Cond.code yX4_init cX4_init 1 none ∈ TB := tw_164
theorem cn_X4_init : Cond.instanceMethod yX4_init ∈ TB := tw_163
theorem cd_X4_init : yX4_init.cls ≠ "java/lang/invoke/MethodHandle" ∧ yX4_init.cls ≠ "java/lang/invoke/VarHandle" ∧ (parseMethodDescriptor yX4_init.desc).map (fun d => d.parameters.length) = some 0 := by decide +kernel
theorem cc_X4_message : Cond.code yX4_message cX4_message 6 (some (.object "TopicBroker$Message")) ∈ TB := tw_881
theorem cn_X4_message : Cond.instanceMethod yX4_message ∈ TB := tw_879
theorem ce_X4_message : Cond.selects RX4 yX4_message yX4_message ∈ TB := tw_880
theorem cd_X4_message : yX4_message.cls ≠ "java/lang/invoke/MethodHandle" ∧ yX4_message.cls ≠ "java/lang/invoke/VarHandle" ∧ (parseMethodDescriptor yX4_message.desc).map (fun d => d.parameters.length) = some 4 := by decide +kernel
theorem cc_X4_raw : Cond.code yX4_raw cX4_raw 7 (some (.object "TopicBroker$Row")) ∈ TB := tw_936
theorem cn_X4_raw : Cond.instanceMethod yX4_raw ∈ TB := tw_934
theorem ce_X4_raw : Cond.selects RX4 yX4_raw yX4_raw ∈ TB := tw_935
theorem cd_X4_raw : yX4_raw.cls ≠ "java/lang/invoke/MethodHandle" ∧ yX4_raw.cls ≠ "java/lang/invoke/VarHandle" ∧ (parseMethodDescriptor yX4_raw.desc).map (fun d => d.parameters.length) = some 1 := by decide +kernel
theorem cc_X4_read : Cond.code yX4_read cX4_read 9 none ∈ TB := tw_821
theorem cn_X4_read : Cond.instanceMethod yX4_read ∈ TB := tw_819
theorem ce_X4_read : Cond.selects RX4 yX4_read yX4_read ∈ TB := tw_820
theorem cd_X4_read : yX4_read.cls ≠ "java/lang/invoke/MethodHandle" ∧ yX4_read.cls ≠ "java/lang/invoke/VarHandle" ∧ (parseMethodDescriptor yX4_read.desc).map (fun d => d.parameters.length) = some 2 := by decide +kernel
theorem cc_X4_value : Cond.code yX4_value cX4_value 4 (some .long) ∈ TB := tw_844
theorem cn_X4_value : Cond.instanceMethod yX4_value ∈ TB := tw_842
theorem ce_X4_value : Cond.selects RX4 yX4_value yX4_value ∈ TB := tw_843
theorem cd_X4_value : yX4_value.cls ≠ "java/lang/invoke/MethodHandle" ∧ yX4_value.cls ≠ "java/lang/invoke/VarHandle" ∧ (parseMethodDescriptor yX4_value.desc).map (fun d => d.parameters.length) = some 2 := by decide +kernel
theorem cc_X5_begin : Cond.code yX5_begin cX5_begin 4 none ∈ TB := tw_476
theorem cn_X5_begin : Cond.instanceMethod yX5_begin ∈ TB := tw_474
theorem ce_X5_begin : Cond.selects RX5 yX5_begin yX5_begin ∈ TB := tw_475
theorem cd_X5_begin : yX5_begin.cls ≠ "java/lang/invoke/MethodHandle" ∧ yX5_begin.cls ≠ "java/lang/invoke/VarHandle" ∧ (parseMethodDescriptor yX5_begin.desc).map (fun d => d.parameters.length) = some 3 := by decide +kernel
theorem cc_X5_expect : Cond.code yX5_expect cX5_expect 3 none ∈ TB := tw_491
theorem cn_X5_expect : Cond.instanceMethod yX5_expect ∈ TB := tw_489
theorem ce_X5_expect : Cond.selects RX5 yX5_expect yX5_expect ∈ TB := tw_490
theorem cd_X5_expect : yX5_expect.cls ≠ "java/lang/invoke/MethodHandle" ∧ yX5_expect.cls ≠ "java/lang/invoke/VarHandle" ∧ (parseMethodDescriptor yX5_expect.desc).map (fun d => d.parameters.length) = some 2 := by decide +kernel
theorem cc_X5_fail : Cond.code yX5_fail cX5_fail 2 none ∈ TB := tw_495
theorem cn_X5_fail : Cond.instanceMethod yX5_fail ∈ TB := tw_493
theorem ce_X5_fail : Cond.selects RX5 yX5_fail yX5_fail ∈ TB := tw_494
theorem cd_X5_fail : yX5_fail.cls ≠ "java/lang/invoke/MethodHandle" ∧ yX5_fail.cls ≠ "java/lang/invoke/VarHandle" ∧ (parseMethodDescriptor yX5_fail.desc).map (fun d => d.parameters.length) = some 1 := by decide +kernel
theorem cc_X5_finish : Cond.code yX5_finish cX5_finish 1 none ∈ TB := tw_949
theorem cn_X5_finish : Cond.instanceMethod yX5_finish ∈ TB := tw_947
theorem ce_X5_finish : Cond.selects RX5 yX5_finish yX5_finish ∈ TB := tw_948
theorem cd_X5_finish : yX5_finish.cls ≠ "java/lang/invoke/MethodHandle" ∧ yX5_finish.cls ≠ "java/lang/invoke/VarHandle" ∧ (parseMethodDescriptor yX5_finish.desc).map (fun d => d.parameters.length) = some 0 := by decide +kernel
theorem cc_X5_four : Cond.code yX5_four cX5_four 3 (some .long) ∈ TB := tw_848
theorem cn_X5_four : Cond.instanceMethod yX5_four ∈ TB := tw_846
theorem ce_X5_four : Cond.selects RX5 yX5_four yX5_four ∈ TB := tw_847
theorem cd_X5_four : yX5_four.cls ≠ "java/lang/invoke/MethodHandle" ∧ yX5_four.cls ≠ "java/lang/invoke/VarHandle" ∧ (parseMethodDescriptor yX5_four.desc).map (fun d => d.parameters.length) = some 0 := by decide +kernel
theorem cc_X5_has : Cond.code yX5_has cX5_has 2 (some .boolean) ∈ TB := tw_503
theorem cn_X5_has : Cond.instanceMethod yX5_has ∈ TB := tw_501
theorem ce_X5_has : Cond.selects RX5 yX5_has yX5_has ∈ TB := tw_502
theorem cd_X5_has : yX5_has.cls ≠ "java/lang/invoke/MethodHandle" ∧ yX5_has.cls ≠ "java/lang/invoke/VarHandle" ∧ (parseMethodDescriptor yX5_has.desc).map (fun d => d.parameters.length) = some 1 := by decide +kernel
theorem cc_X5_init : Cond.code yX5_init cX5_init 1 none ∈ TB := tw_124
theorem cn_X5_init : Cond.instanceMethod yX5_init ∈ TB := tw_123
theorem cd_X5_init : yX5_init.cls ≠ "java/lang/invoke/MethodHandle" ∧ yX5_init.cls ≠ "java/lang/invoke/VarHandle" ∧ (parseMethodDescriptor yX5_init.desc).map (fun d => d.parameters.length) = some 0 := by decide +kernel
theorem cc_X5_left : Cond.code yX5_left cX5_left 1 (some .int) ∈ TB := tw_834
theorem cn_X5_left : Cond.instanceMethod yX5_left ∈ TB := tw_832
theorem ce_X5_left : Cond.selects RX5 yX5_left yX5_left ∈ TB := tw_833
theorem cd_X5_left : yX5_left.cls ≠ "java/lang/invoke/MethodHandle" ∧ yX5_left.cls ≠ "java/lang/invoke/VarHandle" ∧ (parseMethodDescriptor yX5_left.desc).map (fun d => d.parameters.length) = some 0 := by decide +kernel
theorem cc_X5_number : Cond.code yX5_number cX5_number 2 (some .int) ∈ TB := tw_978
theorem cn_X5_number : Cond.instanceMethod yX5_number ∈ TB := tw_976
theorem ce_X5_number : Cond.selects RX5 yX5_number yX5_number ∈ TB := tw_977
theorem cd_X5_number : yX5_number.cls ≠ "java/lang/invoke/MethodHandle" ∧ yX5_number.cls ≠ "java/lang/invoke/VarHandle" ∧ (parseMethodDescriptor yX5_number.desc).map (fun d => d.parameters.length) = some 0 := by decide +kernel
theorem cc_X5_one : Cond.code yX5_one cX5_one 1 (some .int) ∈ TB := tw_808
theorem cn_X5_one : Cond.instanceMethod yX5_one ∈ TB := tw_806
theorem ce_X5_one : Cond.selects RX5 yX5_one yX5_one ∈ TB := tw_807
theorem cd_X5_one : yX5_one.cls ≠ "java/lang/invoke/MethodHandle" ∧ yX5_one.cls ≠ "java/lang/invoke/VarHandle" ∧ (parseMethodDescriptor yX5_one.desc).map (fun d => d.parameters.length) = some 0 := by decide +kernel
theorem cc_X5_rest : Cond.code yX5_rest cX5_rest 1 (some (.object "TopicBroker$Row")) ∈ TB := tw_1023
theorem cn_X5_rest : Cond.instanceMethod yX5_rest ∈ TB := tw_1021
theorem ce_X5_rest : Cond.selects RX5 yX5_rest yX5_rest ∈ TB := tw_1022
theorem cd_X5_rest : yX5_rest.cls ≠ "java/lang/invoke/MethodHandle" ∧ yX5_rest.cls ≠ "java/lang/invoke/VarHandle" ∧ (parseMethodDescriptor yX5_rest.desc).map (fun d => d.parameters.length) = some 0 := by decide +kernel
theorem cc_X5_row : Cond.code yX5_row cX5_row 4 (some (.object "TopicBroker$Row")) ∈ TB := tw_499
theorem cn_X5_row : Cond.instanceMethod yX5_row ∈ TB := tw_497
theorem ce_X5_row : Cond.selects RX5 yX5_row yX5_row ∈ TB := tw_498
theorem cd_X5_row : yX5_row.cls ≠ "java/lang/invoke/MethodHandle" ∧ yX5_row.cls ≠ "java/lang/invoke/VarHandle" ∧ (parseMethodDescriptor yX5_row.desc).map (fun d => d.parameters.length) = some 1 := by decide +kernel
theorem cc_X5_two : Cond.code yX5_two cX5_two 1 (some .int) ∈ TB := tw_816
theorem cn_X5_two : Cond.instanceMethod yX5_two ∈ TB := tw_814
theorem ce_X5_two : Cond.selects RX5 yX5_two yX5_two ∈ TB := tw_815
theorem cd_X5_two : yX5_two.cls ≠ "java/lang/invoke/MethodHandle" ∧ yX5_two.cls ≠ "java/lang/invoke/VarHandle" ∧ (parseMethodDescriptor yX5_two.desc).map (fun d => d.parameters.length) = some 0 := by decide +kernel
theorem cc_X5_variable : Cond.code yX5_variable cX5_variable 4 (some .int) ∈ TB := tw_829
theorem cn_X5_variable : Cond.instanceMethod yX5_variable ∈ TB := tw_827
theorem ce_X5_variable : Cond.selects RX5 yX5_variable yX5_variable ∈ TB := tw_828
theorem cd_X5_variable : yX5_variable.cls ≠ "java/lang/invoke/MethodHandle" ∧ yX5_variable.cls ≠ "java/lang/invoke/VarHandle" ∧ (parseMethodDescriptor yX5_variable.desc).map (fun d => d.parameters.length) = some 0 := by decide +kernel
theorem cc_X6_discard : Cond.code yX6_discard cX6_discard 3 none ∈ TB := tw_1038
theorem cn_X6_discard : Cond.instanceMethod yX6_discard ∈ TB := tw_1036
theorem ce_X6_discard : Cond.selects RX6 yX6_discard yX6_discard ∈ TB := tw_1037
theorem cd_X6_discard : yX6_discard.cls ≠ "java/lang/invoke/MethodHandle" ∧ yX6_discard.cls ≠ "java/lang/invoke/VarHandle" ∧ (parseMethodDescriptor yX6_discard.desc).map (fun d => d.parameters.length) = some 1 := by decide +kernel
theorem cc_X6_get : Cond.code yX6_get cX6_get 2 (some (.object "TopicBroker$Message")) ∈ TB := tw_337
theorem cn_X6_get : Cond.instanceMethod yX6_get ∈ TB := tw_335
theorem ce_X6_get : Cond.selects RX6 yX6_get yX6_get ∈ TB := tw_336
theorem cd_X6_get : yX6_get.cls ≠ "java/lang/invoke/MethodHandle" ∧ yX6_get.cls ≠ "java/lang/invoke/VarHandle" ∧ (parseMethodDescriptor yX6_get.desc).map (fun d => d.parameters.length) = some 1 := by decide +kernel
theorem cc_X6_init : Cond.code yX6_init cX6_init 1 none ∈ TB := tw_107
theorem cn_X6_init : Cond.instanceMethod yX6_init ∈ TB := tw_106
theorem cd_X6_init : yX6_init.cls ≠ "java/lang/invoke/MethodHandle" ∧ yX6_init.cls ≠ "java/lang/invoke/VarHandle" ∧ (parseMethodDescriptor yX6_init.desc).map (fun d => d.parameters.length) = some 0 := by decide +kernel
theorem cc_X6_keep : Cond.code yX6_keep cX6_keep 4 (some .boolean) ∈ TB := tw_1032
theorem cn_X6_keep : Cond.instanceMethod yX6_keep ∈ TB := tw_1030
theorem ce_X6_keep : Cond.selects RX6 yX6_keep yX6_keep ∈ TB := tw_1031
theorem cd_X6_keep : yX6_keep.cls ≠ "java/lang/invoke/MethodHandle" ∧ yX6_keep.cls ≠ "java/lang/invoke/VarHandle" ∧ (parseMethodDescriptor yX6_keep.desc).map (fun d => d.parameters.length) = some 2 := by decide +kernel
theorem cc_X6_purge : Cond.code yX6_purge cX6_purge 4 none ∈ TB := tw_1495
theorem cn_X6_purge : Cond.instanceMethod yX6_purge ∈ TB := tw_1493
theorem ce_X6_purge : Cond.selects RX6 yX6_purge yX6_purge ∈ TB := tw_1494
theorem cd_X6_purge : yX6_purge.cls ≠ "java/lang/invoke/MethodHandle" ∧ yX6_purge.cls ≠ "java/lang/invoke/VarHandle" ∧ (parseMethodDescriptor yX6_purge.desc).map (fun d => d.parameters.length) = some 1 := by decide +kernel
theorem cc_X7_at : Cond.code yX7_at cX7_at 2 (some .int) ∈ TB := tw_341
theorem cn_X7_at : Cond.instanceMethod yX7_at ∈ TB := tw_339
theorem ce_X7_at : Cond.selects RX7 yX7_at yX7_at ∈ TB := tw_340
theorem cd_X7_at : yX7_at.cls ≠ "java/lang/invoke/MethodHandle" ∧ yX7_at.cls ≠ "java/lang/invoke/VarHandle" ∧ (parseMethodDescriptor yX7_at.desc).map (fun d => d.parameters.length) = some 1 := by decide +kernel
theorem cc_X7_begins : Cond.code yX7_begins cX7_begins 4 (some .boolean) ∈ TB := tw_777
theorem cn_X7_begins : Cond.instanceMethod yX7_begins ∈ TB := tw_775
theorem ce_X7_begins : Cond.selects RX7 yX7_begins yX7_begins ∈ TB := tw_776
theorem cd_X7_begins : yX7_begins.cls ≠ "java/lang/invoke/MethodHandle" ∧ yX7_begins.cls ≠ "java/lang/invoke/VarHandle" ∧ (parseMethodDescriptor yX7_begins.desc).map (fun d => d.parameters.length) = some 2 := by decide +kernel
theorem cc_X7_behindName : Cond.code yX7_behindName cX7_behindName 3 (some .int) ∈ TB := tw_1193
theorem cn_X7_behindName : Cond.instanceMethod yX7_behindName ∈ TB := tw_1191
theorem ce_X7_behindName : Cond.selects RX7 yX7_behindName yX7_behindName ∈ TB := tw_1192
theorem cd_X7_behindName : yX7_behindName.cls ≠ "java/lang/invoke/MethodHandle" ∧ yX7_behindName.cls ≠ "java/lang/invoke/VarHandle" ∧ (parseMethodDescriptor yX7_behindName.desc).map (fun d => d.parameters.length) = some 0 := by decide +kernel
theorem cc_X7_count : Cond.code yX7_count cX7_count 1 (some .int) ∈ TB := tw_771
theorem cn_X7_count : Cond.instanceMethod yX7_count ∈ TB := tw_769
theorem ce_X7_count : Cond.selects RX7 yX7_count yX7_count ∈ TB := tw_770
theorem cd_X7_count : yX7_count.cls ≠ "java/lang/invoke/MethodHandle" ∧ yX7_count.cls ≠ "java/lang/invoke/VarHandle" ∧ (parseMethodDescriptor yX7_count.desc).map (fun d => d.parameters.length) = some 0 := by decide +kernel
theorem cc_X7_filterStart : Cond.code yX7_filterStart cX7_filterStart 2 (some .int) ∈ TB := tw_1187
theorem cn_X7_filterStart : Cond.instanceMethod yX7_filterStart ∈ TB := tw_1185
theorem ce_X7_filterStart : Cond.selects RX7 yX7_filterStart yX7_filterStart ∈ TB := tw_1186
theorem cd_X7_filterStart : yX7_filterStart.cls ≠ "java/lang/invoke/MethodHandle" ∧ yX7_filterStart.cls ≠ "java/lang/invoke/VarHandle" ∧ (parseMethodDescriptor yX7_filterStart.desc).map (fun d => d.parameters.length) = some 0 := by decide +kernel
theorem cc_X7_hasLevels : Cond.code yX7_hasLevels cX7_hasLevels 5 (some .boolean) ∈ TB := tw_1197
theorem cn_X7_hasLevels : Cond.instanceMethod yX7_hasLevels ∈ TB := tw_1195
theorem ce_X7_hasLevels : Cond.selects RX7 yX7_hasLevels yX7_hasLevels ∈ TB := tw_1196
theorem cd_X7_hasLevels : yX7_hasLevels.cls ≠ "java/lang/invoke/MethodHandle" ∧ yX7_hasLevels.cls ≠ "java/lang/invoke/VarHandle" ∧ (parseMethodDescriptor yX7_hasLevels.desc).map (fun d => d.parameters.length) = some 1 := by decide +kernel
theorem cc_X7_init : Cond.code yX7_init cX7_init 2 none ∈ TB := tw_130
theorem cn_X7_init : Cond.instanceMethod yX7_init ∈ TB := tw_129
theorem cd_X7_init : yX7_init.cls ≠ "java/lang/invoke/MethodHandle" ∧ yX7_init.cls ≠ "java/lang/invoke/VarHandle" ∧ (parseMethodDescriptor yX7_init.desc).map (fun d => d.parameters.length) = some 1 := by decide +kernel
theorem cc_X7_isTopic : Cond.code yX7_isTopic cX7_isTopic 2 (some .boolean) ∈ TB := tw_876
theorem cn_X7_isTopic : Cond.instanceMethod yX7_isTopic ∈ TB := tw_874
theorem ce_X7_isTopic : Cond.selects RX7 yX7_isTopic yX7_isTopic ∈ TB := tw_875
theorem cd_X7_isTopic : yX7_isTopic.cls ≠ "java/lang/invoke/MethodHandle" ∧ yX7_isTopic.cls ≠ "java/lang/invoke/VarHandle" ∧ (parseMethodDescriptor yX7_isTopic.desc).map (fun d => d.parameters.length) = some 0 := by decide +kernel
theorem cc_X7_isUtf8 : Cond.code yX7_isUtf8 cX7_isUtf8 6 (some .boolean) ∈ TB := tw_767
theorem cn_X7_isUtf8 : Cond.instanceMethod yX7_isUtf8 ∈ TB := tw_765
theorem ce_X7_isUtf8 : Cond.selects RX7 yX7_isUtf8 yX7_isUtf8 ∈ TB := tw_766
theorem cd_X7_isUtf8 : yX7_isUtf8.cls ≠ "java/lang/invoke/MethodHandle" ∧ yX7_isUtf8.cls ≠ "java/lang/invoke/VarHandle" ∧ (parseMethodDescriptor yX7_isUtf8.desc).map (fun d => d.parameters.length) = some 0 := by decide +kernel
theorem cc_X7_same : Cond.code yX7_same cX7_same 3 (some .boolean) ∈ TB := tw_966
theorem cn_X7_same : Cond.instanceMethod yX7_same ∈ TB := tw_964
theorem ce_X7_same : Cond.selects RX7 yX7_same yX7_same ∈ TB := tw_965
theorem cd_X7_same : yX7_same.cls ≠ "java/lang/invoke/MethodHandle" ∧ yX7_same.cls ≠ "java/lang/invoke/VarHandle" ∧ (parseMethodDescriptor yX7_same.desc).map (fun d => d.parameters.length) = some 1 := by decide +kernel
theorem cc_X8_arrive : Cond.code yX8_arrive cX8_arrive 4 none ∈ TB := tw_1134
theorem cn_X8_arrive : Cond.instanceMethod yX8_arrive ∈ TB := tw_1132
theorem ce_X8_arrive : Cond.selects RX8 yX8_arrive yX8_arrive ∈ TB := tw_1133
theorem cd_X8_arrive : yX8_arrive.cls ≠ "java/lang/invoke/MethodHandle" ∧ yX8_arrive.cls ≠ "java/lang/invoke/VarHandle" ∧ (parseMethodDescriptor yX8_arrive.desc).map (fun d => d.parameters.length) = some 1 := by decide +kernel
theorem cc_X8_depart : Cond.code yX8_depart cX8_depart 3 none ∈ TB := tw_1094
theorem cn_X8_depart : Cond.instanceMethod yX8_depart ∈ TB := tw_1092
theorem ce_X8_depart : Cond.selects RX8 yX8_depart yX8_depart ∈ TB := tw_1093
theorem cd_X8_depart : yX8_depart.cls ≠ "java/lang/invoke/MethodHandle" ∧ yX8_depart.cls ≠ "java/lang/invoke/VarHandle" ∧ (parseMethodDescriptor yX8_depart.desc).map (fun d => d.parameters.length) = some 1 := by decide +kernel
theorem cc_X8_endTime : Cond.code yX8_endTime cX8_endTime 1 (some .long) ∈ TB := tw_1483
theorem cn_X8_endTime : Cond.instanceMethod yX8_endTime ∈ TB := tw_1481
theorem ce_X8_endTime : Cond.selects RX8 yX8_endTime yX8_endTime ∈ TB := tw_1482
theorem cd_X8_endTime : yX8_endTime.cls ≠ "java/lang/invoke/MethodHandle" ∧ yX8_endTime.cls ≠ "java/lang/invoke/VarHandle" ∧ (parseMethodDescriptor yX8_endTime.desc).map (fun d => d.parameters.length) = some 0 := by decide +kernel
theorem cc_X8_hold : Cond.code yX8_hold cX8_hold 2 none ∈ TB := tw_1138
theorem cn_X8_hold : Cond.instanceMethod yX8_hold ∈ TB := tw_1136
theorem ce_X8_hold : Cond.selects RX8 yX8_hold yX8_hold ∈ TB := tw_1137
theorem cd_X8_hold : yX8_hold.cls ≠ "java/lang/invoke/MethodHandle" ∧ yX8_hold.cls ≠ "java/lang/invoke/VarHandle" ∧ (parseMethodDescriptor yX8_hold.desc).map (fun d => d.parameters.length) = some 1 := by decide +kernel
theorem cc_X8_holds : Cond.code yX8_holds cX8_holds 3 (some .boolean) ∈ TB := tw_993
theorem cn_X8_holds : Cond.instanceMethod yX8_holds ∈ TB := tw_991
theorem ce_X8_holds : Cond.selects RX8 yX8_holds yX8_holds ∈ TB := tw_992
theorem cd_X8_holds : yX8_holds.cls ≠ "java/lang/invoke/MethodHandle" ∧ yX8_holds.cls ≠ "java/lang/invoke/VarHandle" ∧ (parseMethodDescriptor yX8_holds.desc).map (fun d => d.parameters.length) = some 1 := by decide +kernel
theorem cc_X8_indexOf : Cond.code yX8_indexOf cX8_indexOf 3 (some .int) ∈ TB := tw_1070
theorem cn_X8_indexOf : Cond.instanceMethod yX8_indexOf ∈ TB := tw_1068
theorem ce_X8_indexOf : Cond.selects RX8 yX8_indexOf yX8_indexOf ∈ TB := tw_1069
theorem cd_X8_indexOf : yX8_indexOf.cls ≠ "java/lang/invoke/MethodHandle" ∧ yX8_indexOf.cls ≠ "java/lang/invoke/VarHandle" ∧ (parseMethodDescriptor yX8_indexOf.desc).map (fun d => d.parameters.length) = some 1 := by decide +kernel
theorem cc_X8_init : Cond.code yX8_init cX8_init 3 none ∈ TB := tw_1302
theorem cn_X8_init : Cond.instanceMethod yX8_init ∈ TB := tw_1301
theorem cd_X8_init : yX8_init.cls ≠ "java/lang/invoke/MethodHandle" ∧ yX8_init.cls ≠ "java/lang/invoke/VarHandle" ∧ (parseMethodDescriptor yX8_init.desc).map (fun d => d.parameters.length) = some 2 := by decide +kernel
theorem cc_X8_isUsed : Cond.code yX8_isUsed cX8_isUsed 3 (some .boolean) ∈ TB := tw_1098
theorem cn_X8_isUsed : Cond.instanceMethod yX8_isUsed ∈ TB := tw_1096
theorem ce_X8_isUsed : Cond.selects RX8 yX8_isUsed yX8_isUsed ∈ TB := tw_1097
theorem cd_X8_isUsed : yX8_isUsed.cls ≠ "java/lang/invoke/MethodHandle" ∧ yX8_isUsed.cls ≠ "java/lang/invoke/VarHandle" ∧ (parseMethodDescriptor yX8_isUsed.desc).map (fun d => d.parameters.length) = some 1 := by decide +kernel
theorem cc_X8_letGo : Cond.code yX8_letGo cX8_letGo 3 (some .boolean) ∈ TB := tw_1167
theorem cn_X8_letGo : Cond.instanceMethod yX8_letGo ∈ TB := tw_1165
theorem ce_X8_letGo : Cond.selects RX8 yX8_letGo yX8_letGo ∈ TB := tw_1166
theorem cd_X8_letGo : yX8_letGo.cls ≠ "java/lang/invoke/MethodHandle" ∧ yX8_letGo.cls ≠ "java/lang/invoke/VarHandle" ∧ (parseMethodDescriptor yX8_letGo.desc).map (fun d => d.parameters.length) = some 1 := by decide +kernel
theorem cc_X8_maySend : Cond.code yX8_maySend cX8_maySend 1 (some .boolean) ∈ TB := tw_1080
theorem cn_X8_maySend : Cond.instanceMethod yX8_maySend ∈ TB := tw_1078
theorem ce_X8_maySend : Cond.selects RX8 yX8_maySend yX8_maySend ∈ TB := tw_1079
theorem cd_X8_maySend : yX8_maySend.cls ≠ "java/lang/invoke/MethodHandle" ∧ yX8_maySend.cls ≠ "java/lang/invoke/VarHandle" ∧ (parseMethodDescriptor yX8_maySend.desc).map (fun d => d.parameters.length) = some 0 := by decide +kernel
theorem cc_X8_onTheWay : Cond.code yX8_onTheWay cX8_onTheWay 4 (some (.object "TopicBroker$Delivery")) ∈ TB := tw_1155
theorem cn_X8_onTheWay : Cond.instanceMethod yX8_onTheWay ∈ TB := tw_1153
theorem ce_X8_onTheWay : Cond.selects RX8 yX8_onTheWay yX8_onTheWay ∈ TB := tw_1154
theorem cd_X8_onTheWay : yX8_onTheWay.cls ≠ "java/lang/invoke/MethodHandle" ∧ yX8_onTheWay.cls ≠ "java/lang/invoke/VarHandle" ∧ (parseMethodDescriptor yX8_onTheWay.desc).map (fun d => d.parameters.length) = some 2 := by decide +kernel
theorem cc_X8_owes : Cond.code yX8_owes cX8_owes 6 (some .int) ∈ TB := tw_1182
theorem cn_X8_owes : Cond.instanceMethod yX8_owes ∈ TB := tw_1180
theorem ce_X8_owes : Cond.selects RX8 yX8_owes yX8_owes ∈ TB := tw_1181
theorem cd_X8_owes : yX8_owes.cls ≠ "java/lang/invoke/MethodHandle" ∧ yX8_owes.cls ≠ "java/lang/invoke/VarHandle" ∧ (parseMethodDescriptor yX8_owes.desc).map (fun d => d.parameters.length) = some 2 := by decide +kernel
theorem cc_X8_queue : Cond.code yX8_queue cX8_queue 2 none ∈ TB := tw_1090
theorem cn_X8_queue : Cond.instanceMethod yX8_queue ∈ TB := tw_1088
theorem ce_X8_queue : Cond.selects RX8 yX8_queue yX8_queue ∈ TB := tw_1089
theorem cd_X8_queue : yX8_queue.cls ≠ "java/lang/invoke/MethodHandle" ∧ yX8_queue.cls ≠ "java/lang/invoke/VarHandle" ∧ (parseMethodDescriptor yX8_queue.desc).map (fun d => d.parameters.length) = some 1 := by decide +kernel
theorem cc_X8_subscribe : Cond.code yX8_subscribe cX8_subscribe 6 (some .int) ∈ TB := tw_1201
theorem cn_X8_subscribe : Cond.instanceMethod yX8_subscribe ∈ TB := tw_1199
theorem ce_X8_subscribe : Cond.selects RX8 yX8_subscribe yX8_subscribe ∈ TB := tw_1200
theorem cd_X8_subscribe : yX8_subscribe.cls ≠ "java/lang/invoke/MethodHandle" ∧ yX8_subscribe.cls ≠ "java/lang/invoke/VarHandle" ∧ (parseMethodDescriptor yX8_subscribe.desc).map (fun d => d.parameters.length) = some 3 := by decide +kernel
theorem cc_X8_unqueue : Cond.code yX8_unqueue cX8_unqueue 3 (some (.object "TopicBroker$Delivery")) ∈ TB := tw_1163
theorem cn_X8_unqueue : Cond.instanceMethod yX8_unqueue ∈ TB := tw_1161
theorem ce_X8_unqueue : Cond.selects RX8 yX8_unqueue yX8_unqueue ∈ TB := tw_1162
theorem cd_X8_unqueue : yX8_unqueue.cls ≠ "java/lang/invoke/MethodHandle" ∧ yX8_unqueue.cls ≠ "java/lang/invoke/VarHandle" ∧ (parseMethodDescriptor yX8_unqueue.desc).map (fun d => d.parameters.length) = some 0 := by decide +kernel
theorem cc_X8_unsubscribe : Cond.code yX8_unsubscribe cX8_unsubscribe 4 (some .int) ∈ TB := tw_1243
theorem cn_X8_unsubscribe : Cond.instanceMethod yX8_unsubscribe ∈ TB := tw_1241
theorem ce_X8_unsubscribe : Cond.selects RX8 yX8_unsubscribe yX8_unsubscribe ∈ TB := tw_1242
theorem cd_X8_unsubscribe : yX8_unsubscribe.cls ≠ "java/lang/invoke/MethodHandle" ∧ yX8_unsubscribe.cls ≠ "java/lang/invoke/VarHandle" ∧ (parseMethodDescriptor yX8_unsubscribe.desc).map (fun d => d.parameters.length) = some 1 := by decide +kernel
theorem cc_X8_willTime : Cond.code yX8_willTime cX8_willTime 1 (some .long) ∈ TB := tw_1478
theorem cn_X8_willTime : Cond.instanceMethod yX8_willTime ∈ TB := tw_1476
theorem ce_X8_willTime : Cond.selects RX8 yX8_willTime yX8_willTime ∈ TB := tw_1477
theorem cd_X8_willTime : yX8_willTime.cls ≠ "java/lang/invoke/MethodHandle" ∧ yX8_willTime.cls ≠ "java/lang/invoke/VarHandle" ∧ (parseMethodDescriptor yX8_willTime.desc).map (fun d => d.parameters.length) = some 0 := by decide +kernel
theorem cc_X9_init : Cond.code yX9_init cX9_init 3 none ∈ TB := tw_1206
theorem cn_X9_init : Cond.instanceMethod yX9_init ∈ TB := tw_1205
theorem cd_X9_init : yX9_init.cls ≠ "java/lang/invoke/MethodHandle" ∧ yX9_init.cls ≠ "java/lang/invoke/VarHandle" ∧ (parseMethodDescriptor yX9_init.desc).map (fun d => d.parameters.length) = some 2 := by decide +kernel
theorem cc_X9_isShared : Cond.code yX9_isShared cX9_isShared 1 (some .boolean) ∈ TB := tw_1066
theorem cn_X9_isShared : Cond.instanceMethod yX9_isShared ∈ TB := tw_1064
theorem ce_X9_isShared : Cond.selects RX9 yX9_isShared yX9_isShared ∈ TB := tw_1065
theorem cd_X9_isShared : yX9_isShared.cls ≠ "java/lang/invoke/MethodHandle" ∧ yX9_isShared.cls ≠ "java/lang/invoke/VarHandle" ∧ (parseMethodDescriptor yX9_isShared.desc).map (fun d => d.parameters.length) = some 0 := by decide +kernel
theorem cc_X9_matches : Cond.code yX9_matches cX9_matches 6 (some .boolean) ∈ TB := tw_1056
theorem cn_X9_matches : Cond.instanceMethod yX9_matches ∈ TB := tw_1054
theorem ce_X9_matches : Cond.selects RX9 yX9_matches yX9_matches ∈ TB := tw_1055
theorem cd_X9_matches : yX9_matches.cls ≠ "java/lang/invoke/MethodHandle" ∧ yX9_matches.cls ≠ "java/lang/invoke/VarHandle" ∧ (parseMethodDescriptor yX9_matches.desc).map (fun d => d.parameters.length) = some 1 := by decide +kernel
theorem ci_J7 : Cond.initialized RJ7 ∈ TB := tw_18
theorem ci_X0 : Cond.initialized RX0 ∈ TB := tw_2
theorem ci_X1 : Cond.initialized RX1 ∈ TB := tw_9
theorem ci_X10 : Cond.initialized RX10 ∈ TB := tw_7
theorem ci_X11 : Cond.initialized RX11 ∈ TB := tw_1
theorem ci_X2 : Cond.initialized RX2 ∈ TB := tw_8
theorem ci_X3 : Cond.initialized RX3 ∈ TB := tw_28
theorem ci_X4 : Cond.initialized RX4 ∈ TB := tw_6
theorem ci_X5 : Cond.initialized RX5 ∈ TB := tw_4
theorem ci_X6 : Cond.initialized RX6 ∈ TB := tw_3
theorem ci_X7 : Cond.initialized RX7 ∈ TB := tw_5
theorem ci_X8 : Cond.initialized RX8 ∈ TB := tw_30
theorem ci_X9 : Cond.initialized RX9 ∈ TB := tw_29
theorem oi_in : Cond.instanceMethod Lib.objectInit ∈ TB := tw_37
theorem oi_code : Cond.code Lib.objectInit ⟨#[0xb1]⟩ 1 none ∈ TB := tw_38
