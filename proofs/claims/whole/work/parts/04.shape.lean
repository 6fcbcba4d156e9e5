abbrev zWd : Type := Nat → Nat → Int32
def zTab : List (Nat × Nat) := [(11, 11), (10, 6), (0, 11), (20, 120), (20, 12), (20, 12), (20, 12), (20, 12), (20, 12), (20, 12), (20, 48), (20, 30), (9, 2), (20, 120), (3, 2), (22, 11), (2, 8), (20, 8), (20, 8), (20, 8), (20, 8), (20, 120), (2, 8), (20, 8), (20, 8), (20, 8), (20, 8), (20, 120), (2, 8), (20, 8), (20, 8), (20, 8), (20, 8), (20, 120), (2, 8), (20, 8), (20, 8), (20, 8), (20, 8), (20, 120), (2, 8), (20, 8), (20, 8), (20, 8), (20, 8), (20, 120), (2, 8), (20, 8), (20, 8), (20, 8), (20, 8), (20, 120), (2, 8), (20, 8), (20, 8), (20, 8), (20, 8), (20, 120), (2, 8), (20, 8), (20, 8), (20, 8), (20, 8), (20, 120), (2, 8), (20, 8), (20, 8), (20, 8), (20, 8), (20, 120), (2, 8), (20, 8), (20, 8), (20, 8), (20, 8), (20, 120), (2, 8), (20, 8), (20, 8), (20, 8), (20, 8), (20, 120), (8, 13), (20, 8), (20, 8), (20, 8), (20, 8), (20, 8), (20, 8), (20, 160), (20, 30), (20, 30), (20, 30), (20, 30), (6, 12), (20, 60), (20, 60), (20, 60), (20, 60), (20, 12), (20, 30), (20, 6), (20, 6), (10, 6), (0, 11), (20, 120), (20, 12), (20, 12), (20, 12), (20, 12), (20, 12), (20, 12), (20, 48), (20, 30), (9, 2), (20, 120), (3, 2), (22, 11), (2, 8), (20, 8), (20, 8), (20, 8), (20, 8), (20, 120), (2, 8), (20, 8), (20, 8), (20, 8), (20, 8), (20, 120), (2, 8), (20, 8), (20, 8), (20, 8), (20, 8), (20, 120), (2, 8), (20, 8), (20, 8), (20, 8), (20, 8), (20, 120), (2, 8), (20, 8), (20, 8), (20, 8), (20, 8), (20, 120), (2, 8), (20, 8), (20, 8), (20, 8), (20, 8), (20, 120), (2, 8), (20, 8), (20, 8), (20, 8), (20, 8), (20, 120), (2, 8), (20, 8), (20, 8), (20, 8), (20, 8), (20, 120), (2, 8), (20, 8), (20, 8), (20, 8), (20, 8), (20, 120), (2, 8), (20, 8), (20, 8), (20, 8), (20, 8), (20, 120), (2, 8), (20, 8), (20, 8), (20, 8), (20, 8), (20, 120), (8, 13), (20, 8), (20, 8), (20, 8), (20, 8), (20, 8), (20, 8), (20, 160), (20, 30), (20, 30), (20, 30), (20, 30), (6, 12), (20, 60), (20, 60), (20, 60), (20, 60), (20, 12), (20, 30), (20, 6), (20, 6), (20, 19200), (0, 11), (20, 120), (20, 12), (20, 12), (20, 12), (20, 12), (20, 12), (20, 12), (20, 48), (20, 30), (4, 4), (5, 3), (20, 8), (20, 8), (1, 8), (20, 4), (20, 4), (20, 2401), (20, 2401), (20, 2401), (7, 5), (20, 6), (20, 48), (20, 8), (20, 8), (12, 25), (20, 21948), (20, 21948), (20, 12), (20, 12), (20, 12), (20, 12), (20, 30), (20, 30), (20, 8), (20, 8), (21, 2401), (21, 2401), (20, 4), (20, 4), (20, 8), (20, 8), (20, 60), (20, 12)]
def zShp (k : Nat) : Nat × Nat := zTab.getD k (99, 0)
def zFkT : List (List Nat) := [[3, 0, 0, 4, 5, 6, 7, 8, 9, 10, 11], [3, 4, 1, 1, 0, 0, 7, 0], [0, 0, 3, 4, 5, 6, 0, 7], [0, 3], [1, 1, 0, 0], [0, 3, 4], [0, 3, 4, 5, 6, 0, 7, 0, 8, 0, 9, 10], [0, 0, 0, 3, 4], [0, 3, 4, 5, 6, 7, 8, 9, 0, 10, 11, 12, 13], [0, 3], [0, 3, 13, 15, 83, 95], [3, 105, 0, 207, 208, 218, 219, 222, 228, 231, 232], [0, 3, 4, 0, 5, 6, 7, 8, 9, 10, 0, 0, 0, 0, 0, 11, 12, 13, 14, 15, 16, 17, 18, 19, 20]]
def zFk (ci j : Nat) : Nat := (zFkT.getD ci []).getD j 0
theorem zTab_len : zTab.length = 250 := by decide +kernel
theorem zShp_lt {k c n : Nat} (h : zShp k = (c, n)) (hc : c < 99) : k < 250 := by
  rcases Nat.lt_or_ge k 250 with q | q
  · exact q
  · have e : zShp k = (99, 0) := by
      unfold zShp
      rw [List.getD_eq_getElem?_getD, List.getElem?_eq_none (by rw [zTab_len]; exact q)]
      rfl
    rw [e] at h
    cases h
    exact absurd hc (by decide)
def lw_gd : List Cond := lw_tbl.filter goodWord
theorem zIn {w : Cond} (i : Nat) (h : lw_tbl[i]? = some w) (hg : goodWord w = true) : w ∈ lw_gd := List.mem_filter.mpr ⟨List.mem_of_getElem? h, hg⟩
theorem zGood {ws : List Cond} (h : ∀ w ∈ ws, w ∈ lw_gd) : GoodIn lw_gd ws := fun w hw => ⟨h w hw, good_of_word (List.mem_filter.mp (h w hw)).2⟩
theorem zLy0 : ∀ k, k < 11 → lw_tbl[([141, 143, 145, 147, 149, 151, 153, 155, 157, 159, 161] : List Nat).getD k 0]? = some (u_lay RX0 TX0 k) ∧ goodWord (u_lay RX0 TX0 k) = true := by decide +kernel
theorem zUw0 : ∀ w ∈ u_ws RX0 TX0 11, w ∈ lw_gd := fun w hw => by
  obtain ⟨k, hk, rfl⟩ := List.mem_map.mp hw
  have h := zLy0 k (List.mem_range.mp hk)
  exact zIn _ h.1 h.2
theorem zLy1 : ∀ k, k < 8 → lw_tbl[([425, 427, 429, 431, 433, 435, 437, 439] : List Nat).getD k 0]? = some (u_lay RX1 TX1 k) ∧ goodWord (u_lay RX1 TX1 k) = true := by decide +kernel
theorem zUw1 : ∀ w ∈ u_ws RX1 TX1 8, w ∈ lw_gd := fun w hw => by
  obtain ⟨k, hk, rfl⟩ := List.mem_map.mp hw
  have h := zLy1 k (List.mem_range.mp hk)
  exact zIn _ h.1 h.2
theorem zLy2 : ∀ k, k < 8 → lw_tbl[([205, 207, 209, 211, 213, 215, 217, 219] : List Nat).getD k 0]? = some (u_lay RX2 TX2 k) ∧ goodWord (u_lay RX2 TX2 k) = true := by decide +kernel
theorem zUw2 : ∀ w ∈ u_ws RX2 TX2 8, w ∈ lw_gd := fun w hw => by
  obtain ⟨k, hk, rfl⟩ := List.mem_map.mp hw
  have h := zLy2 k (List.mem_range.mp hk)
  exact zIn _ h.1 h.2
theorem zLy3 : ∀ k, k < 2 → lw_tbl[([225, 227] : List Nat).getD k 0]? = some (u_lay RX3 TX3 k) ∧ goodWord (u_lay RX3 TX3 k) = true := by decide +kernel
theorem zUw3 : ∀ w ∈ u_ws RX3 TX3 2, w ∈ lw_gd := fun w hw => by
  obtain ⟨k, hk, rfl⟩ := List.mem_map.mp hw
  have h := zLy3 k (List.mem_range.mp hk)
  exact zIn _ h.1 h.2
theorem zLy4 : ∀ k, k < 4 → lw_tbl[([381, 383, 385, 387] : List Nat).getD k 0]? = some (u_lay RX4 TX4 k) ∧ goodWord (u_lay RX4 TX4 k) = true := by decide +kernel
theorem zUw4 : ∀ w ∈ u_ws RX4 TX4 4, w ∈ lw_gd := fun w hw => by
  obtain ⟨k, hk, rfl⟩ := List.mem_map.mp hw
  have h := zLy4 k (List.mem_range.mp hk)
  exact zIn _ h.1 h.2
theorem zLy5 : ∀ k, k < 3 → lw_tbl[([404, 406, 408] : List Nat).getD k 0]? = some (u_lay RX5 TX5 k) ∧ goodWord (u_lay RX5 TX5 k) = true := by decide +kernel
theorem zUw5 : ∀ w ∈ u_ws RX5 TX5 3, w ∈ lw_gd := fun w hw => by
  obtain ⟨k, hk, rfl⟩ := List.mem_map.mp hw
  have h := zLy5 k (List.mem_range.mp hk)
  exact zIn _ h.1 h.2
theorem zLy6 : ∀ k, k < 12 → lw_tbl[([319, 321, 323, 325, 327, 329, 331, 333, 335, 337, 339, 341] : List Nat).getD k 0]? = some (u_lay RX6 TX6 k) ∧ goodWord (u_lay RX6 TX6 k) = true := by decide +kernel
theorem zUw6 : ∀ w ∈ u_ws RX6 TX6 12, w ∈ lw_gd := fun w hw => by
  obtain ⟨k, hk, rfl⟩ := List.mem_map.mp hw
  have h := zLy6 k (List.mem_range.mp hk)
  exact zIn _ h.1 h.2
theorem zLy7 : ∀ k, k < 5 → lw_tbl[([454, 456, 458, 460, 462] : List Nat).getD k 0]? = some (u_lay RX7 TX7 k) ∧ goodWord (u_lay RX7 TX7 k) = true := by decide +kernel
theorem zUw7 : ∀ w ∈ u_ws RX7 TX7 5, w ∈ lw_gd := fun w hw => by
  obtain ⟨k, hk, rfl⟩ := List.mem_map.mp hw
  have h := zLy7 k (List.mem_range.mp hk)
  exact zIn _ h.1 h.2
theorem zLy8 : ∀ k, k < 13 → lw_tbl[([264, 266, 268, 270, 272, 274, 276, 278, 280, 282, 284, 286, 288] : List Nat).getD k 0]? = some (u_lay RX8 TX8 k) ∧ goodWord (u_lay RX8 TX8 k) = true := by decide +kernel
theorem zUw8 : ∀ w ∈ u_ws RX8 TX8 13, w ∈ lw_gd := fun w hw => by
  obtain ⟨k, hk, rfl⟩ := List.mem_map.mp hw
  have h := zLy8 k (List.mem_range.mp hk)
  exact zIn _ h.1 h.2
theorem zLy9 : ∀ k, k < 2 → lw_tbl[([176, 178] : List Nat).getD k 0]? = some (u_lay RX9 TX9 k) ∧ goodWord (u_lay RX9 TX9 k) = true := by decide +kernel
theorem zUw9 : ∀ w ∈ u_ws RX9 TX9 2, w ∈ lw_gd := fun w hw => by
  obtain ⟨k, hk, rfl⟩ := List.mem_map.mp hw
  have h := zLy9 k (List.mem_range.mp hk)
  exact zIn _ h.1 h.2
theorem zLy10 : ∀ k, k < 6 → lw_tbl[([356, 358, 360, 362, 364, 366] : List Nat).getD k 0]? = some (u_lay RX10 TX10 k) ∧ goodWord (u_lay RX10 TX10 k) = true := by decide +kernel
theorem zUw10 : ∀ w ∈ u_ws RX10 TX10 6, w ∈ lw_gd := fun w hw => by
  obtain ⟨k, hk, rfl⟩ := List.mem_map.mp hw
  have h := zLy10 k (List.mem_range.mp hk)
  exact zIn _ h.1 h.2
theorem zLy11 : ∀ k, k < 11 → lw_tbl[([476, 478, 480, 482, 484, 486, 488, 490, 492, 494, 496] : List Nat).getD k 0]? = some (u_lay RX11 TX11 k) ∧ goodWord (u_lay RX11 TX11 k) = true := by decide +kernel
theorem zUw11 : ∀ w ∈ u_ws RX11 TX11 11, w ∈ lw_gd := fun w hw => by
  obtain ⟨k, hk, rfl⟩ := List.mem_map.mp hw
  have h := zLy11 k (List.mem_range.mp hk)
  exact zIn _ h.1 h.2
theorem zLy12 : ∀ k, k < 25 → lw_tbl[([1137, 1139, 1141, 1143, 1145, 1147, 1149, 1151, 1153, 1155, 1157, 1159, 1161, 1163, 1165, 1167, 1169, 1171, 1173, 1175, 1177, 1179, 1181, 1183, 1185] : List Nat).getD k 0]? = some (u_lay RX12 TX12 k) ∧ goodWord (u_lay RX12 TX12 k) = true := by decide +kernel
theorem zUw12 : ∀ w ∈ u_ws RX12 TX12 25, w ∈ lw_gd := fun w hw => by
  obtain ⟨k, hk, rfl⟩ := List.mem_map.mp hw
  have h := zLy12 k (List.mem_range.mp hk)
  exact zIn _ h.1 h.2
theorem zP0_cells {o : Nat} (h : zShp o = (0, 11)) : zShp (o + 1) = (20, 120) := (by decide +kernel : ∀ o, o < 250 → zShp o = (0, 11) → zShp (o + 1) = (20, 120)) o (zShp_lt h (by decide)) h
theorem zP0_kind {o : Nat} (h : zShp o = (0, 11)) : zShp (o + 2) = (20, 12) := (by decide +kernel : ∀ o, o < 250 → zShp o = (0, 11) → zShp (o + 2) = (20, 12)) o (zShp_lt h (by decide)) h
theorem zP0_cellOf {o : Nat} (h : zShp o = (0, 11)) : zShp (o + 3) = (20, 12) := (by decide +kernel : ∀ o, o < 250 → zShp o = (0, 11) → zShp (o + 3) = (20, 12)) o (zShp_lt h (by decide)) h
theorem zP0_told {o : Nat} (h : zShp o = (0, 11)) : zShp (o + 4) = (20, 12) := (by decide +kernel : ∀ o, o < 250 → zShp o = (0, 11) → zShp (o + 4) = (20, 12)) o (zShp_lt h (by decide)) h
theorem zP0_from {o : Nat} (h : zShp o = (0, 11)) : zShp (o + 5) = (20, 12) := (by decide +kernel : ∀ o, o < 250 → zShp o = (0, 11) → zShp (o + 5) = (20, 12)) o (zShp_lt h (by decide)) h
theorem zP0_length {o : Nat} (h : zShp o = (0, 11)) : zShp (o + 6) = (20, 12) := (by decide +kernel : ∀ o, o < 250 → zShp o = (0, 11) → zShp (o + 6) = (20, 12)) o (zShp_lt h (by decide)) h
theorem zP0_closing {o : Nat} (h : zShp o = (0, 11)) : zShp (o + 7) = (20, 12) := (by decide +kernel : ∀ o, o < 250 → zShp o = (0, 11) → zShp (o + 7) = (20, 12)) o (zShp_lt h (by decide)) h
theorem zP0_flows {o : Nat} (h : zShp o = (0, 11)) : zShp (o + 8) = (20, 48) := (by decide +kernel : ∀ o, o < 250 → zShp o = (0, 11) → zShp (o + 8) = (20, 48)) o (zShp_lt h (by decide)) h
theorem zP0_moves {o : Nat} (h : zShp o = (0, 11)) : zShp (o + 9) = (20, 30) := (by decide +kernel : ∀ o, o < 250 → zShp o = (0, 11) → zShp (o + 9) = (20, 30)) o (zShp_lt h (by decide)) h
theorem zP1_tens {o : Nat} (h : zShp o = (1, 8)) : zShp (o + 1) = (20, 4) := (by decide +kernel : ∀ o, o < 250 → zShp o = (1, 8) → zShp (o + 1) = (20, 4)) o (zShp_lt h (by decide)) h
theorem zP1_warm {o : Nat} (h : zShp o = (1, 8)) : zShp (o + 2) = (20, 4) := (by decide +kernel : ∀ o, o < 250 → zShp o = (1, 8) → zShp (o + 2) = (20, 4)) o (zShp_lt h (by decide)) h
theorem zP1_found {o : Nat} (h : zShp o = (1, 8)) : zShp (o + 5) = (20, 2401) := (by decide +kernel : ∀ o, o < 250 → zShp o = (1, 8) → zShp (o + 5) = (20, 2401)) o (zShp_lt h (by decide)) h
theorem zP2_word {o : Nat} (h : zShp o = (2, 8)) : zShp (o + 1) = (20, 8) := (by decide +kernel : ∀ o, o < 250 → zShp o = (2, 8) → zShp (o + 1) = (20, 8)) o (zShp_lt h (by decide)) h
theorem zP2_number {o : Nat} (h : zShp o = (2, 8)) : zShp (o + 2) = (20, 8) := (by decide +kernel : ∀ o, o < 250 → zShp o = (2, 8) → zShp (o + 2) = (20, 8)) o (zShp_lt h (by decide)) h
theorem zP2_first {o : Nat} (h : zShp o = (2, 8)) : zShp (o + 3) = (20, 8) := (by decide +kernel : ∀ o, o < 250 → zShp o = (2, 8) → zShp (o + 3) = (20, 8)) o (zShp_lt h (by decide)) h
theorem zP2_end {o : Nat} (h : zShp o = (2, 8)) : zShp (o + 4) = (20, 8) := (by decide +kernel : ∀ o, o < 250 → zShp o = (2, 8) → zShp (o + 4) = (20, 8)) o (zShp_lt h (by decide)) h
theorem zP2_steps {o : Nat} (h : zShp o = (2, 8)) : zShp (o + 5) = (20, 120) := (by decide +kernel : ∀ o, o < 250 → zShp o = (2, 8) → zShp (o + 5) = (20, 120)) o (zShp_lt h (by decide)) h
theorem zP3_orders {o : Nat} (h : zShp o = (3, 2)) : zShp (o + 1) = (22, 11) := (by decide +kernel : ∀ o, o < 250 → zShp o = (3, 2) → zShp (o + 1) = (22, 11)) o (zShp_lt h (by decide)) h
theorem zP5_rank {o : Nat} (h : zShp o = (5, 3)) : zShp (o + 1) = (20, 8) := (by decide +kernel : ∀ o, o < 250 → zShp o = (5, 3) → zShp (o + 1) = (20, 8)) o (zShp_lt h (by decide)) h
theorem zP5_order {o : Nat} (h : zShp o = (5, 3)) : zShp (o + 2) = (20, 8) := (by decide +kernel : ∀ o, o < 250 → zShp o = (5, 3) → zShp (o + 2) = (20, 8)) o (zShp_lt h (by decide)) h
theorem zP6_lookTap {o : Nat} (h : zShp o = (6, 12)) : zShp (o + 1) = (20, 60) := (by decide +kernel : ∀ o, o < 250 → zShp o = (6, 12) → zShp (o + 1) = (20, 60)) o (zShp_lt h (by decide)) h
theorem zP6_lookDay {o : Nat} (h : zShp o = (6, 12)) : zShp (o + 2) = (20, 60) := (by decide +kernel : ∀ o, o < 250 → zShp o = (6, 12) → zShp (o + 2) = (20, 60)) o (zShp_lt h (by decide)) h
theorem zP6_lookGallons {o : Nat} (h : zShp o = (6, 12)) : zShp (o + 3) = (20, 60) := (by decide +kernel : ∀ o, o < 250 → zShp o = (6, 12) → zShp (o + 3) = (20, 60)) o (zShp_lt h (by decide)) h
theorem zP6_lookHeat {o : Nat} (h : zShp o = (6, 12)) : zShp (o + 4) = (20, 60) := (by decide +kernel : ∀ o, o < 250 → zShp o = (6, 12) → zShp (o + 4) = (20, 60)) o (zShp_lt h (by decide)) h
theorem zP6_dropOf {o : Nat} (h : zShp o = (6, 12)) : zShp (o + 5) = (20, 12) := (by decide +kernel : ∀ o, o < 250 → zShp o = (6, 12) → zShp (o + 5) = (20, 12)) o (zShp_lt h (by decide)) h
theorem zP6_changeOf {o : Nat} (h : zShp o = (6, 12)) : zShp (o + 6) = (20, 30) := (by decide +kernel : ∀ o, o < 250 → zShp o = (6, 12) → zShp (o + 6) = (20, 30)) o (zShp_lt h (by decide)) h
theorem zP6_pushCell {o : Nat} (h : zShp o = (6, 12)) : zShp (o + 7) = (20, 6) := (by decide +kernel : ∀ o, o < 250 → zShp o = (6, 12) → zShp (o + 7) = (20, 6)) o (zShp_lt h (by decide)) h
theorem zP6_pushStrength {o : Nat} (h : zShp o = (6, 12)) : zShp (o + 8) = (20, 6) := (by decide +kernel : ∀ o, o < 250 → zShp o = (6, 12) → zShp (o + 8) = (20, 6)) o (zShp_lt h (by decide)) h
theorem zP7_due {o : Nat} (h : zShp o = (7, 5)) : zShp (o + 1) = (20, 6) := (by decide +kernel : ∀ o, o < 250 → zShp o = (7, 5) → zShp (o + 1) = (20, 6)) o (zShp_lt h (by decide)) h
theorem zP7_share {o : Nat} (h : zShp o = (7, 5)) : zShp (o + 2) = (20, 48) := (by decide +kernel : ∀ o, o < 250 → zShp o = (7, 5) → zShp (o + 2) = (20, 48)) o (zShp_lt h (by decide)) h
theorem zP8_kind {o : Nat} (h : zShp o = (8, 13)) : zShp (o + 1) = (20, 8) := (by decide +kernel : ∀ o, o < 250 → zShp o = (8, 13) → zShp (o + 1) = (20, 8)) o (zShp_lt h (by decide)) h
theorem zP8_tap {o : Nat} (h : zShp o = (8, 13)) : zShp (o + 2) = (20, 8) := (by decide +kernel : ∀ o, o < 250 → zShp o = (8, 13) → zShp (o + 2) = (20, 8)) o (zShp_lt h (by decide)) h
theorem zP8_gallons {o : Nat} (h : zShp o = (8, 13)) : zShp (o + 3) = (20, 8) := (by decide +kernel : ∀ o, o < 250 → zShp o = (8, 13) → zShp (o + 3) = (20, 8)) o (zShp_lt h (by decide)) h
theorem zP8_heat {o : Nat} (h : zShp o = (8, 13)) : zShp (o + 4) = (20, 8) := (by decide +kernel : ∀ o, o < 250 → zShp o = (8, 13) → zShp (o + 4) = (20, 8)) o (zShp_lt h (by decide)) h
theorem zP8_since {o : Nat} (h : zShp o = (8, 13)) : zShp (o + 5) = (20, 8) := (by decide +kernel : ∀ o, o < 250 → zShp o = (8, 13) → zShp (o + 5) = (20, 8)) o (zShp_lt h (by decide)) h
theorem zP8_uses {o : Nat} (h : zShp o = (8, 13)) : zShp (o + 6) = (20, 8) := (by decide +kernel : ∀ o, o < 250 → zShp o = (8, 13) → zShp (o + 6) = (20, 8)) o (zShp_lt h (by decide)) h
theorem zP8_useDay {o : Nat} (h : zShp o = (8, 13)) : zShp (o + 7) = (20, 160) := (by decide +kernel : ∀ o, o < 250 → zShp o = (8, 13) → zShp (o + 7) = (20, 160)) o (zShp_lt h (by decide)) h
theorem zP8_saleTaker {o : Nat} (h : zShp o = (8, 13)) : zShp (o + 8) = (20, 30) := (by decide +kernel : ∀ o, o < 250 → zShp o = (8, 13) → zShp (o + 8) = (20, 30)) o (zShp_lt h (by decide)) h
theorem zP8_saleBy {o : Nat} (h : zShp o = (8, 13)) : zShp (o + 9) = (20, 30) := (by decide +kernel : ∀ o, o < 250 → zShp o = (8, 13) → zShp (o + 9) = (20, 30)) o (zShp_lt h (by decide)) h
theorem zP8_saleTo {o : Nat} (h : zShp o = (8, 13)) : zShp (o + 10) = (20, 30) := (by decide +kernel : ∀ o, o < 250 → zShp o = (8, 13) → zShp (o + 10) = (20, 30)) o (zShp_lt h (by decide)) h
theorem zP8_saleDay {o : Nat} (h : zShp o = (8, 13)) : zShp (o + 11) = (20, 30) := (by decide +kernel : ∀ o, o < 250 → zShp o = (8, 13) → zShp (o + 11) = (20, 30)) o (zShp_lt h (by decide)) h
theorem zP9_bytes {o : Nat} (h : zShp o = (9, 2)) : zShp (o + 1) = (20, 120) := (by decide +kernel : ∀ o, o < 250 → zShp o = (9, 2) → zShp (o + 1) = (20, 120)) o (zShp_lt h (by decide)) h
theorem zP10_ground {o : Nat} (h : zShp o = (10, 6)) : zShp (o + 1) = (0, 11) := (by decide +kernel : ∀ o, o < 250 → zShp o = (10, 6) → zShp (o + 1) = (0, 11)) o (zShp_lt h (by decide)) h
theorem zP10_tape {o : Nat} (h : zShp o = (10, 6)) : zShp (o + 11) = (9, 2) := (by decide +kernel : ∀ o, o < 250 → zShp o = (10, 6) → zShp (o + 11) = (9, 2)) o (zShp_lt h (by decide)) h
theorem zP10_book {o : Nat} (h : zShp o = (10, 6)) : zShp (o + 13) = (3, 2) := (by decide +kernel : ∀ o, o < 250 → zShp o = (10, 6) → zShp (o + 13) = (3, 2)) o (zShp_lt h (by decide)) h
theorem zP10_takers {o : Nat} (h : zShp o = (10, 6)) : zShp (o + 81) = (8, 13) := (by decide +kernel : ∀ o, o < 250 → zShp o = (10, 6) → zShp (o + 81) = (8, 13)) o (zShp_lt h (by decide)) h
theorem zP10_seen {o : Nat} (h : zShp o = (10, 6)) : zShp (o + 93) = (6, 12) := (by decide +kernel : ∀ o, o < 250 → zShp o = (10, 6) → zShp (o + 93) = (6, 12)) o (zShp_lt h (by decide)) h
theorem zP11_world {o : Nat} (h : zShp o = (11, 11)) : zShp (o + 1) = (10, 6) := (by decide +kernel : ∀ o, o < 250 → zShp o = (11, 11) → zShp (o + 1) = (10, 6)) o (zShp_lt h (by decide)) h
theorem zP11_kept {o : Nat} (h : zShp o = (11, 11)) : zShp (o + 103) = (10, 6) := (by decide +kernel : ∀ o, o < 250 → zShp o = (11, 11) → zShp (o + 103) = (10, 6)) o (zShp_lt h (by decide)) h
theorem zP11_past {o : Nat} (h : zShp o = (11, 11)) : zShp (o + 205) = (20, 19200) := (by decide +kernel : ∀ o, o < 250 → zShp o = (11, 11) → zShp (o + 205) = (20, 19200)) o (zShp_lt h (by decide)) h
theorem zP11_trial {o : Nat} (h : zShp o = (11, 11)) : zShp (o + 206) = (0, 11) := (by decide +kernel : ∀ o, o < 250 → zShp o = (11, 11) → zShp (o + 206) = (0, 11)) o (zShp_lt h (by decide)) h
theorem zP11_reader {o : Nat} (h : zShp o = (11, 11)) : zShp (o + 216) = (4, 4) := (by decide +kernel : ∀ o, o < 250 → zShp o = (11, 11) → zShp (o + 216) = (4, 4)) o (zShp_lt h (by decide)) h
theorem zP11_line {o : Nat} (h : zShp o = (11, 11)) : zShp (o + 217) = (5, 3) := (by decide +kernel : ∀ o, o < 250 → zShp o = (11, 11) → zShp (o + 217) = (5, 3)) o (zShp_lt h (by decide)) h
theorem zP11_mixer {o : Nat} (h : zShp o = (11, 11)) : zShp (o + 220) = (1, 8) := (by decide +kernel : ∀ o, o < 250 → zShp o = (11, 11) → zShp (o + 220) = (1, 8)) o (zShp_lt h (by decide)) h
theorem zP11_sets {o : Nat} (h : zShp o = (11, 11)) : zShp (o + 226) = (7, 5) := (by decide +kernel : ∀ o, o < 250 → zShp o = (11, 11) → zShp (o + 226) = (7, 5)) o (zShp_lt h (by decide)) h
theorem zP11_parts {o : Nat} (h : zShp o = (11, 11)) : zShp (o + 229) = (20, 8) := (by decide +kernel : ∀ o, o < 250 → zShp o = (11, 11) → zShp (o + 229) = (20, 8)) o (zShp_lt h (by decide)) h
theorem zP11_bores {o : Nat} (h : zShp o = (11, 11)) : zShp (o + 230) = (20, 8) := (by decide +kernel : ∀ o, o < 250 → zShp o = (11, 11) → zShp (o + 230) = (20, 8)) o (zShp_lt h (by decide)) h
theorem zP12_s {o : Nat} (h : zShp o = (12, 25)) : zShp (o + 1) = (20, 21948) := (by decide +kernel : ∀ o, o < 250 → zShp o = (12, 25) → zShp (o + 1) = (20, 21948)) o (zShp_lt h (by decide)) h
theorem zP12_image {o : Nat} (h : zShp o = (12, 25)) : zShp (o + 2) = (20, 21948) := (by decide +kernel : ∀ o, o < 250 → zShp o = (12, 25) → zShp (o + 2) = (20, 21948)) o (zShp_lt h (by decide)) h
theorem zP12_gave {o : Nat} (h : zShp o = (12, 25)) : zShp (o + 3) = (20, 12) := (by decide +kernel : ∀ o, o < 250 → zShp o = (12, 25) → zShp (o + 3) = (20, 12)) o (zShp_lt h (by decide)) h
theorem zP12_hot {o : Nat} (h : zShp o = (12, 25)) : zShp (o + 4) = (20, 12) := (by decide +kernel : ∀ o, o < 250 → zShp o = (12, 25) → zShp (o + 4) = (20, 12)) o (zShp_lt h (by decide)) h
theorem zP12_comes {o : Nat} (h : zShp o = (12, 25)) : zShp (o + 5) = (20, 12) := (by decide +kernel : ∀ o, o < 250 → zShp o = (12, 25) → zShp (o + 5) = (20, 12)) o (zShp_lt h (by decide)) h
theorem zP12_warm {o : Nat} (h : zShp o = (12, 25)) : zShp (o + 6) = (20, 12) := (by decide +kernel : ∀ o, o < 250 → zShp o = (12, 25) → zShp (o + 6) = (20, 12)) o (zShp_lt h (by decide)) h
theorem zP12_heats {o : Nat} (h : zShp o = (12, 25)) : zShp (o + 7) = (20, 30) := (by decide +kernel : ∀ o, o < 250 → zShp o = (12, 25) → zShp (o + 7) = (20, 30)) o (zShp_lt h (by decide)) h
theorem zP12_waters {o : Nat} (h : zShp o = (12, 25)) : zShp (o + 8) = (20, 30) := (by decide +kernel : ∀ o, o < 250 → zShp o = (12, 25) → zShp (o + 8) = (20, 30)) o (zShp_lt h (by decide)) h
theorem zP12_line {o : Nat} (h : zShp o = (12, 25)) : zShp (o + 9) = (20, 8) := (by decide +kernel : ∀ o, o < 250 → zShp o = (12, 25) → zShp (o + 9) = (20, 8)) o (zShp_lt h (by decide)) h
theorem zP12_ranks {o : Nat} (h : zShp o = (12, 25)) : zShp (o + 10) = (20, 8) := (by decide +kernel : ∀ o, o < 250 → zShp o = (12, 25) → zShp (o + 10) = (20, 8)) o (zShp_lt h (by decide)) h
theorem zP12_may {o : Nat} (h : zShp o = (12, 25)) : zShp (o + 11) = (21, 2401) := (by decide +kernel : ∀ o, o < 250 → zShp o = (12, 25) → zShp (o + 11) = (21, 2401)) o (zShp_lt h (by decide)) h
theorem zP12_next {o : Nat} (h : zShp o = (12, 25)) : zShp (o + 12) = (21, 2401) := (by decide +kernel : ∀ o, o < 250 → zShp o = (12, 25) → zShp (o + 12) = (21, 2401)) o (zShp_lt h (by decide)) h
theorem zP12_tens {o : Nat} (h : zShp o = (12, 25)) : zShp (o + 13) = (20, 4) := (by decide +kernel : ∀ o, o < 250 → zShp o = (12, 25) → zShp (o + 13) = (20, 4)) o (zShp_lt h (by decide)) h
theorem zP12_by {o : Nat} (h : zShp o = (12, 25)) : zShp (o + 14) = (20, 4) := (by decide +kernel : ∀ o, o < 250 → zShp o = (12, 25) → zShp (o + 14) = (20, 4)) o (zShp_lt h (by decide)) h
theorem zP12_parts {o : Nat} (h : zShp o = (12, 25)) : zShp (o + 15) = (20, 8) := (by decide +kernel : ∀ o, o < 250 → zShp o = (12, 25) → zShp (o + 15) = (20, 8)) o (zShp_lt h (by decide)) h
theorem zP12_bores {o : Nat} (h : zShp o = (12, 25)) : zShp (o + 16) = (20, 8) := (by decide +kernel : ∀ o, o < 250 → zShp o = (12, 25) → zShp (o + 16) = (20, 8)) o (zShp_lt h (by decide)) h
theorem zP12_keptUnder {o : Nat} (h : zShp o = (12, 25)) : zShp (o + 17) = (20, 60) := (by decide +kernel : ∀ o, o < 250 → zShp o = (12, 25) → zShp (o + 17) = (20, 60)) o (zShp_lt h (by decide)) h
theorem zP12_keptScale {o : Nat} (h : zShp o = (12, 25)) : zShp (o + 18) = (20, 12) := (by decide +kernel : ∀ o, o < 250 → zShp o = (12, 25) → zShp (o + 18) = (20, 12)) o (zShp_lt h (by decide)) h
theorem zP_ord {o : Nat} (h : zShp o = (22, 11)) {i : Nat} (hi : i < 11) : zShp (o + 1 + 6 * i) = (2, 8) := (by decide +kernel : ∀ o, o < 250 → zShp o = (22, 11) → ∀ i, i < 11 → zShp (o + 1 + 6 * i) = (2, 8)) o (zShp_lt h (by decide)) h i hi
