/-! LAYOUTS (places in the order of making), pool tables, by program -/
def fhpt (own : Nat) : List (Nat × Nat × Nat) := match own with
  | 0 => [(14, 0, 0), (20, 0, 1), (23, 0, 4), (26, 0, 3), (34, 0, 5), (38, 4, 5), (44, 0, 2), (53, 4, 9), (60, 9, 9), (77, 4, 8), (80, 4, 6)]
  | 1 => [(14, 1, 1), (20, 1, 2), (23, 1, 3), (26, 1, 4), (29, 1, 7), (32, 1, 8), (35, 1, 10), (38, 1, 11), (41, 1, 0), (45, 1, 9), (49, 1, 13), (56, 1, 5), (62, 9, 12), (67, 9, 8), (78, 1, 6), (92, 9, 9), (107, 1, 12)]
  | 2 => [(13, 2, 0)]
  | 3 => [(14, 3, 0), (20, 3, 1)]
  | 4 => [(12, 4, 0), (23, 4, 1), (27, 4, 2), (30, 4, 3), (33, 4, 4), (36, 4, 6), (39, 4, 7), (42, 4, 5), (46, 9, 12), (52, 9, 8), (63, 4, 8), (66, 4, 10), (69, 4, 9), (97, 9, 9), (114, 9, 10), (129, 9, 7)]
  | 5 => [(9, 5, 0), (15, 5, 1), (45, 5, 2), (49, 5, 3), (53, 5, 4), (87, 8, 8)]
  | 6 => [(16, 6, 0), (20, 6, 2), (23, 6, 1), (27, 6, 3), (30, 6, 4), (51, 4, 9), (56, 4, 10), (59, 4, 8), (62, 4, 6), (65, 4, 5), (69, 9, 11)]
  | 7 => [(12, 7, 2), (23, 7, 3), (27, 7, 4), (30, 7, 5), (33, 7, 7), (36, 7, 0), (40, 7, 1), (53, 7, 8), (60, 8, 9), (63, 7, 14), (66, 7, 9), (69, 7, 10), (82, 7, 11), (85, 7, 12), (88, 7, 13), (91, 7, 6), (94, 3, 1), (134, 8, 8)]
  | 8 => [(16, 8, 0), (20, 8, 3), (24, 8, 9), (27, 8, 10), (30, 8, 1), (33, 8, 2), (75, 8, 4), (78, 8, 8), (84, 8, 5), (87, 8, 6), (90, 8, 7)]
  | 9 => [(14, 9, 0), (20, 9, 1), (23, 9, 2), (26, 9, 3), (29, 9, 4), (32, 9, 6), (35, 9, 7), (38, 9, 8), (41, 7, 9), (47, 9, 5), (48, 7, 10), (51, 9, 9), (52, 7, 12), (55, 9, 10), (73, 9, 11), (79, 9, 12)]
  | 10 => [(14, 10, 0), (20, 10, 1), (46, 4, 5), (52, 4, 9), (68, 4, 10), (71, 9, 6), (77, 10, 2), (80, 3, 0)]
  | 11 => [(14, 11, 0), (21, 11, 2), (28, 11, 3), (37, 11, 4), (44, 11, 5), (53, 11, 6), (57, 11, 7), (63, 11, 9), (72, 11, 10), (79, 11, 11), (86, 11, 12), (90, 11, 13), (93, 11, 15), (96, 11, 16), (100, 11, 18), (103, 11, 1), (142, 11, 17), (145, 11, 8), (153, 7, 14), (165, 7, 8), (168, 8, 9), (171, 8, 10), (174, 7, 9), (177, 9, 9), (180, 7, 11), (183, 9, 10), (186, 4, 10), (189, 4, 8), (192, 9, 12), (206, 1, 13), (209, 6, 4), (216, 7, 7), (219, 4, 9), (224, 9, 6), (247, 9, 7), (257, 4, 6), (260, 9, 11), (279, 0, 4), (284, 0, 5), (293, 4, 7), (314, 1, 12), (317, 1, 11), (353, 7, 13), (356, 9, 8), (367, 3, 1), (399, 11, 14)]
  | 12 => [(7, 12, 0), (13, 12, 8), (17, 12, 9), (20, 12, 11), (24, 12, 12), (27, 12, 13), (30, 12, 14), (33, 12, 15), (36, 12, 16), (39, 12, 17), (42, 12, 18), (45, 12, 19), (48, 12, 20), (51, 12, 21), (54, 12, 22), (57, 12, 23), (60, 12, 24), (63, 12, 25), (66, 12, 26), (69, 12, 27), (72, 12, 28), (75, 12, 29), (78, 12, 30), (81, 12, 31), (84, 12, 32), (87, 12, 33), (90, 12, 34), (93, 12, 35), (96, 12, 36), (99, 12, 38), (102, 12, 39), (106, 12, 40), (109, 12, 41), (112, 12, 42), (115, 12, 43), (118, 12, 44), (121, 12, 49), (124, 12, 54), (128, 12, 55), (131, 12, 56), (134, 12, 57), (137, 12, 58), (140, 12, 59), (144, 12, 60), (147, 12, 61), (150, 12, 63), (153, 12, 64), (156, 12, 65), (159, 12, 66), (162, 12, 67), (165, 12, 69), (168, 12, 70), (171, 12, 73), (175, 12, 74), (178, 12, 75), (181, 12, 76), (184, 12, 77), (187, 12, 78), (190, 12, 79), (193, 12, 80), (196, 12, 81), (199, 12, 82), (202, 12, 83), (205, 12, 84), (208, 12, 85), (211, 12, 86), (214, 12, 87), (217, 12, 88), (220, 12, 89), (223, 12, 90), (226, 12, 91), (229, 12, 92), (232, 12, 93), (235, 12, 94), (238, 12, 95), (241, 12, 96), (244, 12, 97), (247, 12, 98), (250, 12, 100), (253, 12, 104), (256, 12, 108), (259, 12, 1), (262, 12, 5), (265, 12, 6), (268, 12, 2), (271, 12, 3), (282, 12, 4), (302, 12, 10), (313, 12, 37), (320, 12, 48), (350, 12, 99), (353, 12, 101), (356, 12, 102), (359, 12, 103), (365, 12, 45), (368, 12, 46), (381, 12, 50), (413, 12, 7), (432, 12, 52), (438, 12, 53), (441, 12, 47), (454, 12, 71), (457, 12, 68), (472, 12, 62), (561, 12, 72), (651, 12, 105), (675, 12, 51), (689, 12, 106), (694, 12, 107), (706, 12, 109)]
  | _ => []
def fhpl : List (Nat × Nat × Nat) → Nat → Option (Nat × Nat)
  | [], _ => none
  | q :: l, i => bif Nat.beq q.1 i then some q.2 else fhpl l i
def fhPo : fhP := fun own idx => fhpl (fhpt own) idx
def fhlt (own : Nat) : List (Nat × Int64) := match own with
  | 10 => [(109, -1000000), (111, 1000000)]
  | 11 => [(365, -1000000000000000)]
  | 12 => [(316, 27), (318, 97), (323, 4), (325, 8), (509, 5), (517, 2), (523, 3), (528, 20), (576, 1103515245), (578, 12345), (580, 2147483648), (582, 64), (647, 1000000), (649, -1000000), (692, -1), (697, -1000000000000000)]
  | _ => []
def fhll2 : List (Nat × Int64) → Nat → Option Int64
  | [], _ => none
  | q :: l, i => bif Nat.beq q.1 i then some q.2 else fhll2 l i
def fhLo : Nat → Nat → Option Int64 := fun own idx => fhll2 (fhlt own) idx
def fhcT (x : Nat) : u_T := match x with
  | 0 => TX0
  | 1 => TX1
  | 2 => TX2
  | 3 => TX3
  | 4 => TX4
  | 5 => TX5
  | 6 => TX6
  | 7 => TX7
  | 8 => TX8
  | 9 => TX9
  | 10 => TX10
  | 11 => TX11
  | _ => TX12
def fhcN (x : Nat) : Nat := match x with
  | 0 => 6
  | 1 => 14
  | 2 => 1
  | 3 => 2
  | 4 => 11
  | 5 => 5
  | 6 => 5
  | 7 => 15
  | 8 => 11
  | 9 => 13
  | 10 => 3
  | 11 => 19
  | _ => 110
def fhcy (x : Nat) : Nat → FieldType := match x with
  | 0 => tyX0
  | 1 => tyX1
  | 2 => tyX2
  | 3 => tyX3
  | 4 => tyX4
  | 5 => tyX5
  | 6 => tyX6
  | 7 => tyX7
  | 8 => tyX8
  | 9 => tyX9
  | 10 => tyX10
  | 11 => tyX11
  | _ => tyX12
theorem fhly_0 : ∀ k, k < 6 → u_lay RX0 TX0 k ∈ lw_tbl := fun k hk => match k, hk with
  | 0, _ => in_t (in_2 (List.mem_of_getElem? (i := 61) rfl))
  | 1, _ => in_t (in_2 (List.mem_of_getElem? (i := 63) rfl))
  | 2, _ => in_t (in_2 (List.mem_of_getElem? (i := 65) rfl))
  | 3, _ => in_t (in_2 (List.mem_of_getElem? (i := 67) rfl))
  | 4, _ => in_t (in_2 (List.mem_of_getElem? (i := 69) rfl))
  | 5, _ => in_t (in_2 (List.mem_of_getElem? (i := 71) rfl))
  | k + 6, hk => absurd hk (by omega)
theorem fhgw_0 : ∀ k, k < 6 → goodWord (u_lay RX0 TX0 k) = true := by decide +kernel
theorem fhcl_0 : vwCl[0]? = some (fhrx 0, fhcT 0, fhcN 0) ∧ (∀ w ∈ u_ws (fhrx 0) (fhcT 0) (fhcN 0), w ∈ fhtbl) ∧ (∀ k, k < fhcN 0 → parseFieldDescriptor (fhcT 0 k).2.2.1 = some (fhcy 0 k)) ∧ (∀ a, a < fhcN 0 → ∀ b, b < fhcN 0 → a ≠ b → (fhcT 0 a).2.1 ≠ (fhcT 0 b).2.1) :=
  ⟨rfl, fun w hw => by
    obtain ⟨k, hk, rfl⟩ := List.mem_map.mp hw
    exact fhm (fhly_0 k (List.mem_range.mp hk)) (fhgw_0 k (List.mem_range.mp hk)), tyX0_ok, nmX0⟩
theorem fhly_1 : ∀ k, k < 14 → u_lay RX1 TX1 k ∈ lw_tbl := fun k hk => match k, hk with
  | 0, _ => in_t (in_2 (List.mem_of_getElem? (i := 152) rfl))
  | 1, _ => in_t (in_2 (List.mem_of_getElem? (i := 154) rfl))
  | 2, _ => in_t (in_2 (List.mem_of_getElem? (i := 156) rfl))
  | 3, _ => in_t (in_2 (List.mem_of_getElem? (i := 158) rfl))
  | 4, _ => in_t (in_2 (List.mem_of_getElem? (i := 160) rfl))
  | 5, _ => in_t (in_2 (List.mem_of_getElem? (i := 162) rfl))
  | 6, _ => in_t (in_2 (List.mem_of_getElem? (i := 164) rfl))
  | 7, _ => in_t (in_2 (List.mem_of_getElem? (i := 166) rfl))
  | 8, _ => in_t (in_2 (List.mem_of_getElem? (i := 168) rfl))
  | 9, _ => in_t (in_2 (List.mem_of_getElem? (i := 170) rfl))
  | 10, _ => in_t (in_2 (List.mem_of_getElem? (i := 172) rfl))
  | 11, _ => in_t (in_2 (List.mem_of_getElem? (i := 174) rfl))
  | 12, _ => in_t (in_2 (List.mem_of_getElem? (i := 176) rfl))
  | 13, _ => in_t (in_2 (List.mem_of_getElem? (i := 178) rfl))
  | k + 14, hk => absurd hk (by omega)
theorem fhgw_1 : ∀ k, k < 14 → goodWord (u_lay RX1 TX1 k) = true := by decide +kernel
theorem fhcl_1 : vwCl[1]? = some (fhrx 1, fhcT 1, fhcN 1) ∧ (∀ w ∈ u_ws (fhrx 1) (fhcT 1) (fhcN 1), w ∈ fhtbl) ∧ (∀ k, k < fhcN 1 → parseFieldDescriptor (fhcT 1 k).2.2.1 = some (fhcy 1 k)) ∧ (∀ a, a < fhcN 1 → ∀ b, b < fhcN 1 → a ≠ b → (fhcT 1 a).2.1 ≠ (fhcT 1 b).2.1) :=
  ⟨rfl, fun w hw => by
    obtain ⟨k, hk, rfl⟩ := List.mem_map.mp hw
    exact fhm (fhly_1 k (List.mem_range.mp hk)) (fhgw_1 k (List.mem_range.mp hk)), tyX1_ok, nmX1⟩
theorem fhly_2 : ∀ k, k < 1 → u_lay RX2 TX2 k ∈ lw_tbl := fun k hk => match k, hk with
  | 0, _ => in_t (in_1 (List.mem_of_getElem? (i := 38) rfl))
  | k + 1, hk => absurd hk (by omega)
theorem fhgw_2 : ∀ k, k < 1 → goodWord (u_lay RX2 TX2 k) = true := by decide +kernel
theorem fhcl_2 : vwCl[2]? = some (fhrx 2, fhcT 2, fhcN 2) ∧ (∀ w ∈ u_ws (fhrx 2) (fhcT 2) (fhcN 2), w ∈ fhtbl) ∧ (∀ k, k < fhcN 2 → parseFieldDescriptor (fhcT 2 k).2.2.1 = some (fhcy 2 k)) ∧ (∀ a, a < fhcN 2 → ∀ b, b < fhcN 2 → a ≠ b → (fhcT 2 a).2.1 ≠ (fhcT 2 b).2.1) :=
  ⟨rfl, fun w hw => by
    obtain ⟨k, hk, rfl⟩ := List.mem_map.mp hw
    exact fhm (fhly_2 k (List.mem_range.mp hk)) (fhgw_2 k (List.mem_range.mp hk)), tyX2_ok, nmX2⟩
theorem fhly_3 : ∀ k, k < 2 → u_lay RX3 TX3 k ∈ lw_tbl := fun k hk => match k, hk with
  | 0, _ => in_t (in_1 (List.mem_of_getElem? (i := 102) rfl))
  | 1, _ => in_t (in_1 (List.mem_of_getElem? (i := 104) rfl))
  | k + 2, hk => absurd hk (by omega)
theorem fhgw_3 : ∀ k, k < 2 → goodWord (u_lay RX3 TX3 k) = true := by decide +kernel
theorem fhcl_3 : vwCl[3]? = some (fhrx 3, fhcT 3, fhcN 3) ∧ (∀ w ∈ u_ws (fhrx 3) (fhcT 3) (fhcN 3), w ∈ fhtbl) ∧ (∀ k, k < fhcN 3 → parseFieldDescriptor (fhcT 3 k).2.2.1 = some (fhcy 3 k)) ∧ (∀ a, a < fhcN 3 → ∀ b, b < fhcN 3 → a ≠ b → (fhcT 3 a).2.1 ≠ (fhcT 3 b).2.1) :=
  ⟨rfl, fun w hw => by
    obtain ⟨k, hk, rfl⟩ := List.mem_map.mp hw
    exact fhm (fhly_3 k (List.mem_range.mp hk)) (fhgw_3 k (List.mem_range.mp hk)), tyX3_ok, nmX3⟩
theorem fhly_4 : ∀ k, k < 11 → u_lay RX4 TX4 k ∈ lw_tbl := fun k hk => match k, hk with
  | 0, _ => in_t (in_2 (List.mem_of_getElem? (i := 104) rfl))
  | 1, _ => in_t (in_2 (List.mem_of_getElem? (i := 106) rfl))
  | 2, _ => in_t (in_2 (List.mem_of_getElem? (i := 108) rfl))
  | 3, _ => in_t (in_2 (List.mem_of_getElem? (i := 110) rfl))
  | 4, _ => in_t (in_2 (List.mem_of_getElem? (i := 112) rfl))
  | 5, _ => in_t (in_2 (List.mem_of_getElem? (i := 114) rfl))
  | 6, _ => in_t (in_2 (List.mem_of_getElem? (i := 116) rfl))
  | 7, _ => in_t (in_2 (List.mem_of_getElem? (i := 118) rfl))
  | 8, _ => in_t (in_2 (List.mem_of_getElem? (i := 120) rfl))
  | 9, _ => in_t (in_2 (List.mem_of_getElem? (i := 122) rfl))
  | 10, _ => in_t (in_2 (List.mem_of_getElem? (i := 124) rfl))
  | k + 11, hk => absurd hk (by omega)
theorem fhgw_4 : ∀ k, k < 11 → goodWord (u_lay RX4 TX4 k) = true := by decide +kernel
theorem fhcl_4 : vwCl[4]? = some (fhrx 4, fhcT 4, fhcN 4) ∧ (∀ w ∈ u_ws (fhrx 4) (fhcT 4) (fhcN 4), w ∈ fhtbl) ∧ (∀ k, k < fhcN 4 → parseFieldDescriptor (fhcT 4 k).2.2.1 = some (fhcy 4 k)) ∧ (∀ a, a < fhcN 4 → ∀ b, b < fhcN 4 → a ≠ b → (fhcT 4 a).2.1 ≠ (fhcT 4 b).2.1) :=
  ⟨rfl, fun w hw => by
    obtain ⟨k, hk, rfl⟩ := List.mem_map.mp hw
    exact fhm (fhly_4 k (List.mem_range.mp hk)) (fhgw_4 k (List.mem_range.mp hk)), tyX4_ok, nmX4⟩
theorem fhly_5 : ∀ k, k < 5 → u_lay RX5 TX5 k ∈ lw_tbl := fun k hk => match k, hk with
  | 0, _ => in_t (in_1 (List.mem_of_getElem? (i := 118) rfl))
  | 1, _ => in_t (in_1 (List.mem_of_getElem? (i := 120) rfl))
  | 2, _ => in_t (in_1 (List.mem_of_getElem? (i := 122) rfl))
  | 3, _ => in_t (in_1 (List.mem_of_getElem? (i := 124) rfl))
  | 4, _ => in_t (in_1 (List.mem_of_getElem? (i := 126) rfl))
  | k + 5, hk => absurd hk (by omega)
theorem fhgw_5 : ∀ k, k < 5 → goodWord (u_lay RX5 TX5 k) = true := by decide +kernel
theorem fhcl_5 : vwCl[5]? = some (fhrx 5, fhcT 5, fhcN 5) ∧ (∀ w ∈ u_ws (fhrx 5) (fhcT 5) (fhcN 5), w ∈ fhtbl) ∧ (∀ k, k < fhcN 5 → parseFieldDescriptor (fhcT 5 k).2.2.1 = some (fhcy 5 k)) ∧ (∀ a, a < fhcN 5 → ∀ b, b < fhcN 5 → a ≠ b → (fhcT 5 a).2.1 ≠ (fhcT 5 b).2.1) :=
  ⟨rfl, fun w hw => by
    obtain ⟨k, hk, rfl⟩ := List.mem_map.mp hw
    exact fhm (fhly_5 k (List.mem_range.mp hk)) (fhgw_5 k (List.mem_range.mp hk)), tyX5_ok, nmX5⟩
theorem fhly_6 : ∀ k, k < 5 → u_lay RX6 TX6 k ∈ lw_tbl := fun k hk => match k, hk with
  | 0, _ => in_t (in_2 (List.mem_of_getElem? (i := 195) rfl))
  | 1, _ => in_t (in_2 (List.mem_of_getElem? (i := 197) rfl))
  | 2, _ => in_t (in_2 (List.mem_of_getElem? (i := 199) rfl))
  | 3, _ => in_t (in_2 (List.mem_of_getElem? (i := 201) rfl))
  | 4, _ => in_t (in_2 (List.mem_of_getElem? (i := 203) rfl))
  | k + 5, hk => absurd hk (by omega)
theorem fhgw_6 : ∀ k, k < 5 → goodWord (u_lay RX6 TX6 k) = true := by decide +kernel
theorem fhcl_6 : vwCl[6]? = some (fhrx 6, fhcT 6, fhcN 6) ∧ (∀ w ∈ u_ws (fhrx 6) (fhcT 6) (fhcN 6), w ∈ fhtbl) ∧ (∀ k, k < fhcN 6 → parseFieldDescriptor (fhcT 6 k).2.2.1 = some (fhcy 6 k)) ∧ (∀ a, a < fhcN 6 → ∀ b, b < fhcN 6 → a ≠ b → (fhcT 6 a).2.1 ≠ (fhcT 6 b).2.1) :=
  ⟨rfl, fun w hw => by
    obtain ⟨k, hk, rfl⟩ := List.mem_map.mp hw
    exact fhm (fhly_6 k (List.mem_range.mp hk)) (fhgw_6 k (List.mem_range.mp hk)), tyX6_ok, nmX6⟩
theorem fhly_7 : ∀ k, k < 15 → u_lay RX7 TX7 k ∈ lw_tbl := fun k hk => match k, hk with
  | 0, _ => in_t (in_1 (List.mem_of_getElem? (i := 181) rfl))
  | 1, _ => in_t (in_1 (List.mem_of_getElem? (i := 183) rfl))
  | 2, _ => in_t (in_1 (List.mem_of_getElem? (i := 185) rfl))
  | 3, _ => in_t (in_1 (List.mem_of_getElem? (i := 187) rfl))
  | 4, _ => in_t (in_1 (List.mem_of_getElem? (i := 189) rfl))
  | 5, _ => in_t (in_1 (List.mem_of_getElem? (i := 191) rfl))
  | 6, _ => in_t (in_1 (List.mem_of_getElem? (i := 193) rfl))
  | 7, _ => in_t (in_1 (List.mem_of_getElem? (i := 195) rfl))
  | 8, _ => in_t (in_1 (List.mem_of_getElem? (i := 197) rfl))
  | 9, _ => in_t (in_1 (List.mem_of_getElem? (i := 199) rfl))
  | 10, _ => in_t (in_1 (List.mem_of_getElem? (i := 201) rfl))
  | 11, _ => in_t (in_1 (List.mem_of_getElem? (i := 203) rfl))
  | 12, _ => in_t (in_1 (List.mem_of_getElem? (i := 205) rfl))
  | 13, _ => in_t (in_1 (List.mem_of_getElem? (i := 207) rfl))
  | 14, _ => in_t (in_1 (List.mem_of_getElem? (i := 209) rfl))
  | k + 15, hk => absurd hk (by omega)
theorem fhgw_7 : ∀ k, k < 15 → goodWord (u_lay RX7 TX7 k) = true := by decide +kernel
theorem fhcl_7 : vwCl[7]? = some (fhrx 7, fhcT 7, fhcN 7) ∧ (∀ w ∈ u_ws (fhrx 7) (fhcT 7) (fhcN 7), w ∈ fhtbl) ∧ (∀ k, k < fhcN 7 → parseFieldDescriptor (fhcT 7 k).2.2.1 = some (fhcy 7 k)) ∧ (∀ a, a < fhcN 7 → ∀ b, b < fhcN 7 → a ≠ b → (fhcT 7 a).2.1 ≠ (fhcT 7 b).2.1) :=
  ⟨rfl, fun w hw => by
    obtain ⟨k, hk, rfl⟩ := List.mem_map.mp hw
    exact fhm (fhly_7 k (List.mem_range.mp hk)) (fhgw_7 k (List.mem_range.mp hk)), tyX7_ok, nmX7⟩
theorem fhly_8 : ∀ k, k < 11 → u_lay RX8 TX8 k ∈ lw_tbl := fun k hk => match k, hk with
  | 0, _ => in_t (in_1 (List.mem_of_getElem? (i := 66) rfl))
  | 1, _ => in_t (in_1 (List.mem_of_getElem? (i := 68) rfl))
  | 2, _ => in_t (in_1 (List.mem_of_getElem? (i := 70) rfl))
  | 3, _ => in_t (in_1 (List.mem_of_getElem? (i := 72) rfl))
  | 4, _ => in_t (in_1 (List.mem_of_getElem? (i := 74) rfl))
  | 5, _ => in_t (in_1 (List.mem_of_getElem? (i := 76) rfl))
  | 6, _ => in_t (in_1 (List.mem_of_getElem? (i := 78) rfl))
  | 7, _ => in_t (in_1 (List.mem_of_getElem? (i := 80) rfl))
  | 8, _ => in_t (in_1 (List.mem_of_getElem? (i := 82) rfl))
  | 9, _ => in_t (in_1 (List.mem_of_getElem? (i := 84) rfl))
  | 10, _ => in_t (in_1 (List.mem_of_getElem? (i := 86) rfl))
  | k + 11, hk => absurd hk (by omega)
theorem fhgw_8 : ∀ k, k < 11 → goodWord (u_lay RX8 TX8 k) = true := by decide +kernel
theorem fhcl_8 : vwCl[8]? = some (fhrx 8, fhcT 8, fhcN 8) ∧ (∀ w ∈ u_ws (fhrx 8) (fhcT 8) (fhcN 8), w ∈ fhtbl) ∧ (∀ k, k < fhcN 8 → parseFieldDescriptor (fhcT 8 k).2.2.1 = some (fhcy 8 k)) ∧ (∀ a, a < fhcN 8 → ∀ b, b < fhcN 8 → a ≠ b → (fhcT 8 a).2.1 ≠ (fhcT 8 b).2.1) :=
  ⟨rfl, fun w hw => by
    obtain ⟨k, hk, rfl⟩ := List.mem_map.mp hw
    exact fhm (fhly_8 k (List.mem_range.mp hk)) (fhgw_8 k (List.mem_range.mp hk)), tyX8_ok, nmX8⟩
theorem fhly_9 : ∀ k, k < 13 → u_lay RX9 TX9 k ∈ lw_tbl := fun k hk => match k, hk with
  | 0, _ => in_t (in_2 (List.mem_of_getElem? (i := 12) rfl))
  | 1, _ => in_t (in_2 (List.mem_of_getElem? (i := 14) rfl))
  | 2, _ => in_t (in_2 (List.mem_of_getElem? (i := 16) rfl))
  | 3, _ => in_t (in_2 (List.mem_of_getElem? (i := 18) rfl))
  | 4, _ => in_t (in_2 (List.mem_of_getElem? (i := 20) rfl))
  | 5, _ => in_t (in_2 (List.mem_of_getElem? (i := 22) rfl))
  | 6, _ => in_t (in_2 (List.mem_of_getElem? (i := 24) rfl))
  | 7, _ => in_t (in_2 (List.mem_of_getElem? (i := 26) rfl))
  | 8, _ => in_t (in_2 (List.mem_of_getElem? (i := 28) rfl))
  | 9, _ => in_t (in_2 (List.mem_of_getElem? (i := 30) rfl))
  | 10, _ => in_t (in_2 (List.mem_of_getElem? (i := 32) rfl))
  | 11, _ => in_t (in_2 (List.mem_of_getElem? (i := 34) rfl))
  | 12, _ => in_t (in_2 (List.mem_of_getElem? (i := 36) rfl))
  | k + 13, hk => absurd hk (by omega)
theorem fhgw_9 : ∀ k, k < 13 → goodWord (u_lay RX9 TX9 k) = true := by decide +kernel
theorem fhcl_9 : vwCl[9]? = some (fhrx 9, fhcT 9, fhcN 9) ∧ (∀ w ∈ u_ws (fhrx 9) (fhcT 9) (fhcN 9), w ∈ fhtbl) ∧ (∀ k, k < fhcN 9 → parseFieldDescriptor (fhcT 9 k).2.2.1 = some (fhcy 9 k)) ∧ (∀ a, a < fhcN 9 → ∀ b, b < fhcN 9 → a ≠ b → (fhcT 9 a).2.1 ≠ (fhcT 9 b).2.1) :=
  ⟨rfl, fun w hw => by
    obtain ⟨k, hk, rfl⟩ := List.mem_map.mp hw
    exact fhm (fhly_9 k (List.mem_range.mp hk)) (fhgw_9 k (List.mem_range.mp hk)), tyX9_ok, nmX9⟩
theorem fhly_10 : ∀ k, k < 3 → u_lay RX10 TX10 k ∈ lw_tbl := fun k hk => match k, hk with
  | 0, _ => in_t (in_1 (List.mem_of_getElem? (i := 140) rfl))
  | 1, _ => in_t (in_1 (List.mem_of_getElem? (i := 142) rfl))
  | 2, _ => in_t (in_1 (List.mem_of_getElem? (i := 144) rfl))
  | k + 3, hk => absurd hk (by omega)
theorem fhgw_10 : ∀ k, k < 3 → goodWord (u_lay RX10 TX10 k) = true := by decide +kernel
theorem fhcl_10 : vwCl[10]? = some (fhrx 10, fhcT 10, fhcN 10) ∧ (∀ w ∈ u_ws (fhrx 10) (fhcT 10) (fhcN 10), w ∈ fhtbl) ∧ (∀ k, k < fhcN 10 → parseFieldDescriptor (fhcT 10 k).2.2.1 = some (fhcy 10 k)) ∧ (∀ a, a < fhcN 10 → ∀ b, b < fhcN 10 → a ≠ b → (fhcT 10 a).2.1 ≠ (fhcT 10 b).2.1) :=
  ⟨rfl, fun w hw => by
    obtain ⟨k, hk, rfl⟩ := List.mem_map.mp hw
    exact fhm (fhly_10 k (List.mem_range.mp hk)) (fhgw_10 k (List.mem_range.mp hk)), tyX10_ok, nmX10⟩
theorem fhly_11 : ∀ k, k < 19 → u_lay RX11 TX11 k ∈ lw_tbl := fun k hk => match k, hk with
  | 0, _ => in_t (in_2 (List.mem_of_getElem? (i := 225) rfl))
  | 1, _ => in_t (in_2 (List.mem_of_getElem? (i := 227) rfl))
  | 2, _ => in_t (in_2 (List.mem_of_getElem? (i := 229) rfl))
  | 3, _ => in_t (in_2 (List.mem_of_getElem? (i := 231) rfl))
  | 4, _ => in_t (in_2 (List.mem_of_getElem? (i := 233) rfl))
  | 5, _ => in_t (in_2 (List.mem_of_getElem? (i := 235) rfl))
  | 6, _ => in_t (in_2 (List.mem_of_getElem? (i := 237) rfl))
  | 7, _ => in_t (in_2 (List.mem_of_getElem? (i := 239) rfl))
  | 8, _ => in_t (in_3 (List.mem_of_getElem? (i := 1) rfl))
  | 9, _ => in_t (in_3 (List.mem_of_getElem? (i := 3) rfl))
  | 10, _ => in_t (in_3 (List.mem_of_getElem? (i := 5) rfl))
  | 11, _ => in_t (in_3 (List.mem_of_getElem? (i := 7) rfl))
  | 12, _ => in_t (in_3 (List.mem_of_getElem? (i := 9) rfl))
  | 13, _ => in_t (in_3 (List.mem_of_getElem? (i := 11) rfl))
  | 14, _ => in_t (in_3 (List.mem_of_getElem? (i := 13) rfl))
  | 15, _ => in_t (in_3 (List.mem_of_getElem? (i := 15) rfl))
  | 16, _ => in_t (in_3 (List.mem_of_getElem? (i := 17) rfl))
  | 17, _ => in_t (in_3 (List.mem_of_getElem? (i := 19) rfl))
  | 18, _ => in_t (in_3 (List.mem_of_getElem? (i := 21) rfl))
  | k + 19, hk => absurd hk (by omega)
theorem fhgw_11 : ∀ k, k < 19 → goodWord (u_lay RX11 TX11 k) = true := by decide +kernel
theorem fhcl_11 : vwCl[11]? = some (fhrx 11, fhcT 11, fhcN 11) ∧ (∀ w ∈ u_ws (fhrx 11) (fhcT 11) (fhcN 11), w ∈ fhtbl) ∧ (∀ k, k < fhcN 11 → parseFieldDescriptor (fhcT 11 k).2.2.1 = some (fhcy 11 k)) ∧ (∀ a, a < fhcN 11 → ∀ b, b < fhcN 11 → a ≠ b → (fhcT 11 a).2.1 ≠ (fhcT 11 b).2.1) :=
  ⟨rfl, fun w hw => by
    obtain ⟨k, hk, rfl⟩ := List.mem_map.mp hw
    exact fhm (fhly_11 k (List.mem_range.mp hk)) (fhgw_11 k (List.mem_range.mp hk)), tyX11_ok, nmX11⟩
theorem fhly_12 : ∀ k, k < 110 → u_lay RX12 TX12 k ∈ lw_tbl := fun k hk => match k, hk with
  | 0, _ => in_t (in_6 (List.mem_of_getElem? (i := 224) rfl))
  | 1, _ => in_t (in_6 (List.mem_of_getElem? (i := 226) rfl))
  | 2, _ => in_t (in_6 (List.mem_of_getElem? (i := 228) rfl))
  | 3, _ => in_t (in_6 (List.mem_of_getElem? (i := 230) rfl))
  | 4, _ => in_t (in_6 (List.mem_of_getElem? (i := 232) rfl))
  | 5, _ => in_t (in_6 (List.mem_of_getElem? (i := 234) rfl))
  | 6, _ => in_t (in_6 (List.mem_of_getElem? (i := 236) rfl))
  | 7, _ => in_t (in_6 (List.mem_of_getElem? (i := 238) rfl))
  | 8, _ => in_t (in_7 (List.mem_of_getElem? (i := 0) rfl))
  | 9, _ => in_t (in_7 (List.mem_of_getElem? (i := 2) rfl))
  | 10, _ => in_t (in_7 (List.mem_of_getElem? (i := 4) rfl))
  | 11, _ => in_t (in_7 (List.mem_of_getElem? (i := 6) rfl))
  | 12, _ => in_t (in_7 (List.mem_of_getElem? (i := 8) rfl))
  | 13, _ => in_t (in_7 (List.mem_of_getElem? (i := 10) rfl))
  | 14, _ => in_t (in_7 (List.mem_of_getElem? (i := 12) rfl))
  | 15, _ => in_t (in_7 (List.mem_of_getElem? (i := 14) rfl))
  | 16, _ => in_t (in_7 (List.mem_of_getElem? (i := 16) rfl))
  | 17, _ => in_t (in_7 (List.mem_of_getElem? (i := 18) rfl))
  | 18, _ => in_t (in_7 (List.mem_of_getElem? (i := 20) rfl))
  | 19, _ => in_t (in_7 (List.mem_of_getElem? (i := 22) rfl))
  | 20, _ => in_t (in_7 (List.mem_of_getElem? (i := 24) rfl))
  | 21, _ => in_t (in_7 (List.mem_of_getElem? (i := 26) rfl))
  | 22, _ => in_t (in_7 (List.mem_of_getElem? (i := 28) rfl))
  | 23, _ => in_t (in_7 (List.mem_of_getElem? (i := 30) rfl))
  | 24, _ => in_t (in_7 (List.mem_of_getElem? (i := 32) rfl))
  | 25, _ => in_t (in_7 (List.mem_of_getElem? (i := 34) rfl))
  | 26, _ => in_t (in_7 (List.mem_of_getElem? (i := 36) rfl))
  | 27, _ => in_t (in_7 (List.mem_of_getElem? (i := 38) rfl))
  | 28, _ => in_t (in_7 (List.mem_of_getElem? (i := 40) rfl))
  | 29, _ => in_t (in_7 (List.mem_of_getElem? (i := 42) rfl))
  | 30, _ => in_t (in_7 (List.mem_of_getElem? (i := 44) rfl))
  | 31, _ => in_t (in_7 (List.mem_of_getElem? (i := 46) rfl))
  | 32, _ => in_t (in_7 (List.mem_of_getElem? (i := 48) rfl))
  | 33, _ => in_t (in_7 (List.mem_of_getElem? (i := 50) rfl))
  | 34, _ => in_t (in_7 (List.mem_of_getElem? (i := 52) rfl))
  | 35, _ => in_t (in_7 (List.mem_of_getElem? (i := 54) rfl))
  | 36, _ => in_t (in_7 (List.mem_of_getElem? (i := 56) rfl))
  | 37, _ => in_t (in_7 (List.mem_of_getElem? (i := 58) rfl))
  | 38, _ => in_t (in_7 (List.mem_of_getElem? (i := 60) rfl))
  | 39, _ => in_t (in_7 (List.mem_of_getElem? (i := 62) rfl))
  | 40, _ => in_t (in_7 (List.mem_of_getElem? (i := 64) rfl))
  | 41, _ => in_t (in_7 (List.mem_of_getElem? (i := 66) rfl))
  | 42, _ => in_t (in_7 (List.mem_of_getElem? (i := 68) rfl))
  | 43, _ => in_t (in_7 (List.mem_of_getElem? (i := 70) rfl))
  | 44, _ => in_t (in_7 (List.mem_of_getElem? (i := 72) rfl))
  | 45, _ => in_t (in_7 (List.mem_of_getElem? (i := 74) rfl))
  | 46, _ => in_t (in_7 (List.mem_of_getElem? (i := 76) rfl))
  | 47, _ => in_t (in_7 (List.mem_of_getElem? (i := 78) rfl))
  | 48, _ => in_t (in_7 (List.mem_of_getElem? (i := 80) rfl))
  | 49, _ => in_t (in_7 (List.mem_of_getElem? (i := 82) rfl))
  | 50, _ => in_t (in_7 (List.mem_of_getElem? (i := 84) rfl))
  | 51, _ => in_t (in_7 (List.mem_of_getElem? (i := 86) rfl))
  | 52, _ => in_t (in_7 (List.mem_of_getElem? (i := 88) rfl))
  | 53, _ => in_t (in_7 (List.mem_of_getElem? (i := 90) rfl))
  | 54, _ => in_t (in_7 (List.mem_of_getElem? (i := 92) rfl))
  | 55, _ => in_t (in_7 (List.mem_of_getElem? (i := 94) rfl))
  | 56, _ => in_t (in_7 (List.mem_of_getElem? (i := 96) rfl))
  | 57, _ => in_t (in_7 (List.mem_of_getElem? (i := 98) rfl))
  | 58, _ => in_t (in_7 (List.mem_of_getElem? (i := 100) rfl))
  | 59, _ => in_t (in_7 (List.mem_of_getElem? (i := 102) rfl))
  | 60, _ => in_t (in_7 (List.mem_of_getElem? (i := 104) rfl))
  | 61, _ => in_t (in_7 (List.mem_of_getElem? (i := 106) rfl))
  | 62, _ => in_t (in_7 (List.mem_of_getElem? (i := 108) rfl))
  | 63, _ => in_t (in_7 (List.mem_of_getElem? (i := 110) rfl))
  | 64, _ => in_t (in_7 (List.mem_of_getElem? (i := 112) rfl))
  | 65, _ => in_t (in_7 (List.mem_of_getElem? (i := 114) rfl))
  | 66, _ => in_t (in_7 (List.mem_of_getElem? (i := 116) rfl))
  | 67, _ => in_t (in_7 (List.mem_of_getElem? (i := 118) rfl))
  | 68, _ => in_t (in_7 (List.mem_of_getElem? (i := 120) rfl))
  | 69, _ => in_t (in_7 (List.mem_of_getElem? (i := 122) rfl))
  | 70, _ => in_t (in_7 (List.mem_of_getElem? (i := 124) rfl))
  | 71, _ => in_t (in_7 (List.mem_of_getElem? (i := 126) rfl))
  | 72, _ => in_t (in_7 (List.mem_of_getElem? (i := 128) rfl))
  | 73, _ => in_t (in_7 (List.mem_of_getElem? (i := 130) rfl))
  | 74, _ => in_t (in_7 (List.mem_of_getElem? (i := 132) rfl))
  | 75, _ => in_t (in_7 (List.mem_of_getElem? (i := 134) rfl))
  | 76, _ => in_t (in_7 (List.mem_of_getElem? (i := 136) rfl))
  | 77, _ => in_t (in_7 (List.mem_of_getElem? (i := 138) rfl))
  | 78, _ => in_t (in_7 (List.mem_of_getElem? (i := 140) rfl))
  | 79, _ => in_t (in_7 (List.mem_of_getElem? (i := 142) rfl))
  | 80, _ => in_t (in_7 (List.mem_of_getElem? (i := 144) rfl))
  | 81, _ => in_t (in_7 (List.mem_of_getElem? (i := 146) rfl))
  | 82, _ => in_t (in_7 (List.mem_of_getElem? (i := 148) rfl))
  | 83, _ => in_t (in_7 (List.mem_of_getElem? (i := 150) rfl))
  | 84, _ => in_t (in_7 (List.mem_of_getElem? (i := 152) rfl))
  | 85, _ => in_t (in_7 (List.mem_of_getElem? (i := 154) rfl))
  | 86, _ => in_t (in_7 (List.mem_of_getElem? (i := 156) rfl))
  | 87, _ => in_t (in_7 (List.mem_of_getElem? (i := 158) rfl))
  | 88, _ => in_t (in_7 (List.mem_of_getElem? (i := 160) rfl))
  | 89, _ => in_t (in_7 (List.mem_of_getElem? (i := 162) rfl))
  | 90, _ => in_t (in_7 (List.mem_of_getElem? (i := 164) rfl))
  | 91, _ => in_t (in_7 (List.mem_of_getElem? (i := 166) rfl))
  | 92, _ => in_t (in_7 (List.mem_of_getElem? (i := 168) rfl))
  | 93, _ => in_t (in_7 (List.mem_of_getElem? (i := 170) rfl))
  | 94, _ => in_t (in_7 (List.mem_of_getElem? (i := 172) rfl))
  | 95, _ => in_t (in_7 (List.mem_of_getElem? (i := 174) rfl))
  | 96, _ => in_t (in_7 (List.mem_of_getElem? (i := 176) rfl))
  | 97, _ => in_t (in_7 (List.mem_of_getElem? (i := 178) rfl))
  | 98, _ => in_t (in_7 (List.mem_of_getElem? (i := 180) rfl))
  | 99, _ => in_t (in_7 (List.mem_of_getElem? (i := 182) rfl))
  | 100, _ => in_t (in_7 (List.mem_of_getElem? (i := 184) rfl))
  | 101, _ => in_t (in_7 (List.mem_of_getElem? (i := 186) rfl))
  | 102, _ => in_t (in_7 (List.mem_of_getElem? (i := 188) rfl))
  | 103, _ => in_t (in_7 (List.mem_of_getElem? (i := 190) rfl))
  | 104, _ => in_t (in_7 (List.mem_of_getElem? (i := 192) rfl))
  | 105, _ => in_t (in_7 (List.mem_of_getElem? (i := 194) rfl))
  | 106, _ => in_t (in_7 (List.mem_of_getElem? (i := 196) rfl))
  | 107, _ => in_t (in_7 (List.mem_of_getElem? (i := 198) rfl))
  | 108, _ => in_t (in_7 (List.mem_of_getElem? (i := 200) rfl))
  | 109, _ => in_t (in_7 (List.mem_of_getElem? (i := 202) rfl))
  | k + 110, hk => absurd hk (by omega)
theorem fhgw_12 : ∀ k, k < 110 → goodWord (u_lay RX12 TX12 k) = true := by decide +kernel
theorem fhcl_12 : vwCl[12]? = some (fhrx 12, fhcT 12, fhcN 12) ∧ (∀ w ∈ u_ws (fhrx 12) (fhcT 12) (fhcN 12), w ∈ fhtbl) ∧ (∀ k, k < fhcN 12 → parseFieldDescriptor (fhcT 12 k).2.2.1 = some (fhcy 12 k)) ∧ (∀ a, a < fhcN 12 → ∀ b, b < fhcN 12 → a ≠ b → (fhcT 12 a).2.1 ≠ (fhcT 12 b).2.1) :=
  ⟨rfl, fun w hw => by
    obtain ⟨k, hk, rfl⟩ := List.mem_map.mp hw
    exact fhm (fhly_12 k (List.mem_range.mp hk)) (fhgw_12 k (List.mem_range.mp hk)), tyX12_ok, nmX12⟩
theorem fhcl_ok (x : Nat) (hx : x < 13) : vwCl[x]? = some (fhrx x, fhcT x, fhcN x) ∧ (∀ w ∈ u_ws (fhrx x) (fhcT x) (fhcN x), w ∈ fhtbl) ∧ (∀ k, k < fhcN x → parseFieldDescriptor (fhcT x k).2.2.1 = some (fhcy x k)) ∧ (∀ a, a < fhcN x → ∀ b, b < fhcN x → a ≠ b → (fhcT x a).2.1 ≠ (fhcT x b).2.1) := match x, hx with
  | 0, _ => fhcl_0
  | 1, _ => fhcl_1
  | 2, _ => fhcl_2
  | 3, _ => fhcl_3
  | 4, _ => fhcl_4
  | 5, _ => fhcl_5
  | 6, _ => fhcl_6
  | 7, _ => fhcl_7
  | 8, _ => fhcl_8
  | 9, _ => fhcl_9
  | 10, _ => fhcl_10
  | 11, _ => fhcl_11
  | 12, _ => fhcl_12
  | x + 13, hx => absurd hx (by omega)
def fhobjty : FieldType → Bool
  | .object _ => true
  | _ => false
theorem fhobjty_ok {t : FieldType} (h : fhobjty t = true) : ∃ C, t = .object C := by
  cases t <;> first | exact ⟨_, rfl⟩ | cases h
def fhkchk (k : Nat × Nat) (fin : Bool) (t : FieldType) : Bool := match k.1 with
  | 0 => !fin && decide (t = .int)
  | 6 => !fin && decide (t = .boolean)
  | 1 => !fin && decide (t = .long)
  | 4 => !fin && fhobjty t
  | 5 => !fin && fhobjty t
  | _ => true
theorem fhkd_ok : ∀ x, x < 13 → ∀ j, j < fhcN x → fhkchk (fhnd (9, 0) (fhkd x) j) (fhcT x j).2.2.2 (fhcy x j) = true := by decide +kernel
def fhLk (own idx x j : Nat) : Prop := Cond.fieldLink (fhrx own) idx (fhcT x j).1 (fhcT x j).2.1 (fhcT x j).2.2.1 ∈ fhtbl ∨ ((∃ host, Cond.fieldLinkNest (fhrx own) idx (fhcT x j).1 (fhcT x j).2.1 (fhcT x j).2.2.1 host ∈ fhtbl) ∧ (fhnd (9, 0) (fhkd x) j).1 = 2)
set_option maxRecDepth 100000 in
theorem fhpt_0 : ∀ q ∈ fhpt 0, q.2.1 < 13 ∧ q.2.2 < fhcN q.2.1 ∧ fhLk 0 q.1 q.2.1 q.2.2 := by
  have h : ∀ q ∈ fhpt 0, q.2.1 < 13 ∧ q.2.2 < fhcN q.2.1 := by decide +kernel
  have h2 : ∀ q ∈ fhpt 0, fhLk 0 q.1 q.2.1 q.2.2 :=
    List.forall_mem_cons.mpr ⟨Or.inl (fhm (in_t (in_2 (List.mem_of_getElem? (i := 53) rfl))) rfl),
    List.forall_mem_cons.mpr ⟨Or.inl (fhm (in_t (in_2 (List.mem_of_getElem? (i := 54) rfl))) rfl),
    List.forall_mem_cons.mpr ⟨Or.inl (fhm (in_t (in_2 (List.mem_of_getElem? (i := 57) rfl))) rfl),
    List.forall_mem_cons.mpr ⟨Or.inl (fhm (in_t (in_2 (List.mem_of_getElem? (i := 56) rfl))) rfl),
    List.forall_mem_cons.mpr ⟨Or.inl (fhm (in_t (in_2 (List.mem_of_getElem? (i := 59) rfl))) rfl),
    List.forall_mem_cons.mpr ⟨Or.inl (fhm (in_t (in_2 (List.mem_of_getElem? (i := 82) rfl))) rfl),
    List.forall_mem_cons.mpr ⟨Or.inl (fhm (in_t (in_2 (List.mem_of_getElem? (i := 55) rfl))) rfl),
    List.forall_mem_cons.mpr ⟨Or.inl (fhm (in_t (in_2 (List.mem_of_getElem? (i := 96) rfl))) rfl),
    List.forall_mem_cons.mpr ⟨Or.inl (fhm (in_t (in_1 (List.mem_of_getElem? (i := 238) rfl))) rfl),
    List.forall_mem_cons.mpr ⟨Or.inl (fhm (in_t (in_2 (List.mem_of_getElem? (i := 92) rfl))) rfl),
    List.forall_mem_cons.mpr ⟨Or.inl (fhm (in_t (in_2 (List.mem_of_getElem? (i := 86) rfl))) rfl),
    fun _ h => absurd h List.not_mem_nil⟩⟩⟩⟩⟩⟩⟩⟩⟩⟩⟩
  exact fun q hq => ⟨(h q hq).1, (h q hq).2, h2 q hq⟩
set_option maxRecDepth 100000 in
theorem fhpt_1 : ∀ q ∈ fhpt 1, q.2.1 < 13 ∧ q.2.2 < fhcN q.2.1 ∧ fhLk 1 q.1 q.2.1 q.2.2 := by
  have h : ∀ q ∈ fhpt 1, q.2.1 < 13 ∧ q.2.2 < fhcN q.2.1 := by decide +kernel
  have h2 : ∀ q ∈ fhpt 1, fhLk 1 q.1 q.2.1 q.2.2 :=
    List.forall_mem_cons.mpr ⟨Or.inl (fhm (in_t (in_2 (List.mem_of_getElem? (i := 136) rfl))) rfl),
    List.forall_mem_cons.mpr ⟨Or.inl (fhm (in_t (in_2 (List.mem_of_getElem? (i := 137) rfl))) rfl),
    List.forall_mem_cons.mpr ⟨Or.inl (fhm (in_t (in_2 (List.mem_of_getElem? (i := 138) rfl))) rfl),
    List.forall_mem_cons.mpr ⟨Or.inl (fhm (in_t (in_2 (List.mem_of_getElem? (i := 139) rfl))) rfl),
    List.forall_mem_cons.mpr ⟨Or.inl (fhm (in_t (in_2 (List.mem_of_getElem? (i := 142) rfl))) rfl),
    List.forall_mem_cons.mpr ⟨Or.inl (fhm (in_t (in_2 (List.mem_of_getElem? (i := 143) rfl))) rfl),
    List.forall_mem_cons.mpr ⟨Or.inl (fhm (in_t (in_2 (List.mem_of_getElem? (i := 145) rfl))) rfl),
    List.forall_mem_cons.mpr ⟨Or.inl (fhm (in_t (in_2 (List.mem_of_getElem? (i := 146) rfl))) rfl),
    List.forall_mem_cons.mpr ⟨Or.inl (fhm (in_t (in_2 (List.mem_of_getElem? (i := 135) rfl))) rfl),
    List.forall_mem_cons.mpr ⟨Or.inl (fhm (in_t (in_2 (List.mem_of_getElem? (i := 144) rfl))) rfl),
    List.forall_mem_cons.mpr ⟨Or.inl (fhm (in_t (in_2 (List.mem_of_getElem? (i := 150) rfl))) rfl),
    List.forall_mem_cons.mpr ⟨Or.inl (fhm (in_t (in_2 (List.mem_of_getElem? (i := 140) rfl))) rfl),
    List.forall_mem_cons.mpr ⟨Or.inl (fhm (in_t (in_2 (List.mem_of_getElem? (i := 10) rfl))) rfl),
    List.forall_mem_cons.mpr ⟨Or.inl (fhm (in_t (in_1 (List.mem_of_getElem? (i := 235) rfl))) rfl),
    List.forall_mem_cons.mpr ⟨Or.inl (fhm (in_t (in_2 (List.mem_of_getElem? (i := 141) rfl))) rfl),
    List.forall_mem_cons.mpr ⟨Or.inl (fhm (in_t (in_1 (List.mem_of_getElem? (i := 239) rfl))) rfl),
    List.forall_mem_cons.mpr ⟨Or.inl (fhm (in_t (in_2 (List.mem_of_getElem? (i := 148) rfl))) rfl),
    fun _ h => absurd h List.not_mem_nil⟩⟩⟩⟩⟩⟩⟩⟩⟩⟩⟩⟩⟩⟩⟩⟩⟩
  exact fun q hq => ⟨(h q hq).1, (h q hq).2, h2 q hq⟩
set_option maxRecDepth 100000 in
theorem fhpt_2 : ∀ q ∈ fhpt 2, q.2.1 < 13 ∧ q.2.2 < fhcN q.2.1 ∧ fhLk 2 q.1 q.2.1 q.2.2 := by
  have h : ∀ q ∈ fhpt 2, q.2.1 < 13 ∧ q.2.2 < fhcN q.2.1 := by decide +kernel
  have h2 : ∀ q ∈ fhpt 2, fhLk 2 q.1 q.2.1 q.2.2 :=
    List.forall_mem_cons.mpr ⟨Or.inl (fhm (in_t (in_1 (List.mem_of_getElem? (i := 37) rfl))) rfl),
    fun _ h => absurd h List.not_mem_nil⟩
  exact fun q hq => ⟨(h q hq).1, (h q hq).2, h2 q hq⟩
set_option maxRecDepth 100000 in
theorem fhpt_3 : ∀ q ∈ fhpt 3, q.2.1 < 13 ∧ q.2.2 < fhcN q.2.1 ∧ fhLk 3 q.1 q.2.1 q.2.2 := by
  have h : ∀ q ∈ fhpt 3, q.2.1 < 13 ∧ q.2.2 < fhcN q.2.1 := by decide +kernel
  have h2 : ∀ q ∈ fhpt 3, fhLk 3 q.1 q.2.1 q.2.2 :=
    List.forall_mem_cons.mpr ⟨Or.inl (fhm (in_t (in_1 (List.mem_of_getElem? (i := 97) rfl))) rfl),
    List.forall_mem_cons.mpr ⟨Or.inl (fhm (in_t (in_1 (List.mem_of_getElem? (i := 99) rfl))) rfl),
    fun _ h => absurd h List.not_mem_nil⟩⟩
  exact fun q hq => ⟨(h q hq).1, (h q hq).2, h2 q hq⟩
set_option maxRecDepth 100000 in
theorem fhpt_4 : ∀ q ∈ fhpt 4, q.2.1 < 13 ∧ q.2.2 < fhcN q.2.1 ∧ fhLk 4 q.1 q.2.1 q.2.2 := by
  have h : ∀ q ∈ fhpt 4, q.2.1 < 13 ∧ q.2.2 < fhcN q.2.1 := by decide +kernel
  have h2 : ∀ q ∈ fhpt 4, fhLk 4 q.1 q.2.1 q.2.2 :=
    List.forall_mem_cons.mpr ⟨Or.inl (fhm (in_t (in_2 (List.mem_of_getElem? (i := 76) rfl))) rfl),
    List.forall_mem_cons.mpr ⟨Or.inl (fhm (in_t (in_2 (List.mem_of_getElem? (i := 77) rfl))) rfl),
    List.forall_mem_cons.mpr ⟨Or.inl (fhm (in_t (in_2 (List.mem_of_getElem? (i := 78) rfl))) rfl),
    List.forall_mem_cons.mpr ⟨Or.inl (fhm (in_t (in_2 (List.mem_of_getElem? (i := 79) rfl))) rfl),
    List.forall_mem_cons.mpr ⟨Or.inl (fhm (in_t (in_2 (List.mem_of_getElem? (i := 80) rfl))) rfl),
    List.forall_mem_cons.mpr ⟨Or.inl (fhm (in_t (in_2 (List.mem_of_getElem? (i := 85) rfl))) rfl),
    List.forall_mem_cons.mpr ⟨Or.inl (fhm (in_t (in_2 (List.mem_of_getElem? (i := 89) rfl))) rfl),
    List.forall_mem_cons.mpr ⟨Or.inl (fhm (in_t (in_2 (List.mem_of_getElem? (i := 81) rfl))) rfl),
    List.forall_mem_cons.mpr ⟨Or.inl (fhm (in_t (in_2 (List.mem_of_getElem? (i := 8) rfl))) rfl),
    List.forall_mem_cons.mpr ⟨Or.inl (fhm (in_t (in_1 (List.mem_of_getElem? (i := 234) rfl))) rfl),
    List.forall_mem_cons.mpr ⟨Or.inl (fhm (in_t (in_2 (List.mem_of_getElem? (i := 91) rfl))) rfl),
    List.forall_mem_cons.mpr ⟨Or.inl (fhm (in_t (in_2 (List.mem_of_getElem? (i := 100) rfl))) rfl),
    List.forall_mem_cons.mpr ⟨Or.inl (fhm (in_t (in_2 (List.mem_of_getElem? (i := 95) rfl))) rfl),
    List.forall_mem_cons.mpr ⟨Or.inl (fhm (in_t (in_2 (List.mem_of_getElem? (i := 1) rfl))) rfl),
    List.forall_mem_cons.mpr ⟨Or.inl (fhm (in_t (in_2 (List.mem_of_getElem? (i := 4) rfl))) rfl),
    List.forall_mem_cons.mpr ⟨Or.inl (fhm (in_t (in_1 (List.mem_of_getElem? (i := 231) rfl))) rfl),
    fun _ h => absurd h List.not_mem_nil⟩⟩⟩⟩⟩⟩⟩⟩⟩⟩⟩⟩⟩⟩⟩⟩
  exact fun q hq => ⟨(h q hq).1, (h q hq).2, h2 q hq⟩
set_option maxRecDepth 100000 in
theorem fhpt_5 : ∀ q ∈ fhpt 5, q.2.1 < 13 ∧ q.2.2 < fhcN q.2.1 ∧ fhLk 5 q.1 q.2.1 q.2.2 := by
  have h : ∀ q ∈ fhpt 5, q.2.1 < 13 ∧ q.2.2 < fhcN q.2.1 := by decide +kernel
  have h2 : ∀ q ∈ fhpt 5, fhLk 5 q.1 q.2.1 q.2.2 :=
    List.forall_mem_cons.mpr ⟨Or.inl (fhm (in_t (in_1 (List.mem_of_getElem? (i := 113) rfl))) rfl),
    List.forall_mem_cons.mpr ⟨Or.inl (fhm (in_t (in_1 (List.mem_of_getElem? (i := 114) rfl))) rfl),
    List.forall_mem_cons.mpr ⟨Or.inl (fhm (in_t (in_1 (List.mem_of_getElem? (i := 115) rfl))) rfl),
    List.forall_mem_cons.mpr ⟨Or.inl (fhm (in_t (in_1 (List.mem_of_getElem? (i := 116) rfl))) rfl),
    List.forall_mem_cons.mpr ⟨Or.inl (fhm (in_t (in_1 (List.mem_of_getElem? (i := 117) rfl))) rfl),
    List.forall_mem_cons.mpr ⟨Or.inl (fhm (in_t (in_1 (List.mem_of_getElem? (i := 60) rfl))) rfl),
    fun _ h => absurd h List.not_mem_nil⟩⟩⟩⟩⟩⟩
  exact fun q hq => ⟨(h q hq).1, (h q hq).2, h2 q hq⟩
set_option maxRecDepth 100000 in
theorem fhpt_6 : ∀ q ∈ fhpt 6, q.2.1 < 13 ∧ q.2.2 < fhcN q.2.1 ∧ fhLk 6 q.1 q.2.1 q.2.2 := by
  have h : ∀ q ∈ fhpt 6, q.2.1 < 13 ∧ q.2.2 < fhcN q.2.1 := by decide +kernel
  have h2 : ∀ q ∈ fhpt 6, fhLk 6 q.1 q.2.1 q.2.2 :=
    List.forall_mem_cons.mpr ⟨Or.inl (fhm (in_t (in_2 (List.mem_of_getElem? (i := 189) rfl))) rfl),
    List.forall_mem_cons.mpr ⟨Or.inl (fhm (in_t (in_2 (List.mem_of_getElem? (i := 191) rfl))) rfl),
    List.forall_mem_cons.mpr ⟨Or.inl (fhm (in_t (in_2 (List.mem_of_getElem? (i := 190) rfl))) rfl),
    List.forall_mem_cons.mpr ⟨Or.inl (fhm (in_t (in_2 (List.mem_of_getElem? (i := 192) rfl))) rfl),
    List.forall_mem_cons.mpr ⟨Or.inl (fhm (in_t (in_2 (List.mem_of_getElem? (i := 193) rfl))) rfl),
    List.forall_mem_cons.mpr ⟨Or.inl (fhm (in_t (in_2 (List.mem_of_getElem? (i := 98) rfl))) rfl),
    List.forall_mem_cons.mpr ⟨Or.inl (fhm (in_t (in_2 (List.mem_of_getElem? (i := 102) rfl))) rfl),
    List.forall_mem_cons.mpr ⟨Or.inl (fhm (in_t (in_2 (List.mem_of_getElem? (i := 93) rfl))) rfl),
    List.forall_mem_cons.mpr ⟨Or.inl (fhm (in_t (in_2 (List.mem_of_getElem? (i := 87) rfl))) rfl),
    List.forall_mem_cons.mpr ⟨Or.inl (fhm (in_t (in_2 (List.mem_of_getElem? (i := 84) rfl))) rfl),
    List.forall_mem_cons.mpr ⟨Or.inl (fhm (in_t (in_2 (List.mem_of_getElem? (i := 6) rfl))) rfl),
    fun _ h => absurd h List.not_mem_nil⟩⟩⟩⟩⟩⟩⟩⟩⟩⟩⟩
  exact fun q hq => ⟨(h q hq).1, (h q hq).2, h2 q hq⟩
set_option maxRecDepth 100000 in
theorem fhpt_7 : ∀ q ∈ fhpt 7, q.2.1 < 13 ∧ q.2.2 < fhcN q.2.1 ∧ fhLk 7 q.1 q.2.1 q.2.2 := by
  have h : ∀ q ∈ fhpt 7, q.2.1 < 13 ∧ q.2.2 < fhcN q.2.1 := by decide +kernel
  have h2 : ∀ q ∈ fhpt 7, fhLk 7 q.1 q.2.1 q.2.2 :=
    List.forall_mem_cons.mpr ⟨Or.inl (fhm (in_t (in_1 (List.mem_of_getElem? (i := 159) rfl))) rfl),
    List.forall_mem_cons.mpr ⟨Or.inl (fhm (in_t (in_1 (List.mem_of_getElem? (i := 160) rfl))) rfl),
    List.forall_mem_cons.mpr ⟨Or.inl (fhm (in_t (in_1 (List.mem_of_getElem? (i := 161) rfl))) rfl),
    List.forall_mem_cons.mpr ⟨Or.inl (fhm (in_t (in_1 (List.mem_of_getElem? (i := 162) rfl))) rfl),
    List.forall_mem_cons.mpr ⟨Or.inl (fhm (in_t (in_1 (List.mem_of_getElem? (i := 164) rfl))) rfl),
    List.forall_mem_cons.mpr ⟨Or.inl (fhm (in_t (in_1 (List.mem_of_getElem? (i := 157) rfl))) rfl),
    List.forall_mem_cons.mpr ⟨Or.inl (fhm (in_t (in_1 (List.mem_of_getElem? (i := 158) rfl))) rfl),
    List.forall_mem_cons.mpr ⟨Or.inl (fhm (in_t (in_1 (List.mem_of_getElem? (i := 166) rfl))) rfl),
    List.forall_mem_cons.mpr ⟨Or.inl (fhm (in_t (in_1 (List.mem_of_getElem? (i := 62) rfl))) rfl),
    List.forall_mem_cons.mpr ⟨Or.inl (fhm (in_t (in_1 (List.mem_of_getElem? (i := 179) rfl))) rfl),
    List.forall_mem_cons.mpr ⟨Or.inl (fhm (in_t (in_1 (List.mem_of_getElem? (i := 169) rfl))) rfl),
    List.forall_mem_cons.mpr ⟨Or.inl (fhm (in_t (in_1 (List.mem_of_getElem? (i := 172) rfl))) rfl),
    List.forall_mem_cons.mpr ⟨Or.inl (fhm (in_t (in_1 (List.mem_of_getElem? (i := 173) rfl))) rfl),
    List.forall_mem_cons.mpr ⟨Or.inl (fhm (in_t (in_1 (List.mem_of_getElem? (i := 176) rfl))) rfl),
    List.forall_mem_cons.mpr ⟨Or.inl (fhm (in_t (in_1 (List.mem_of_getElem? (i := 177) rfl))) rfl),
    List.forall_mem_cons.mpr ⟨Or.inl (fhm (in_t (in_1 (List.mem_of_getElem? (i := 163) rfl))) rfl),
    List.forall_mem_cons.mpr ⟨Or.inl (fhm (in_t (in_1 (List.mem_of_getElem? (i := 100) rfl))) rfl),
    List.forall_mem_cons.mpr ⟨Or.inl (fhm (in_t (in_1 (List.mem_of_getElem? (i := 58) rfl))) rfl),
    fun _ h => absurd h List.not_mem_nil⟩⟩⟩⟩⟩⟩⟩⟩⟩⟩⟩⟩⟩⟩⟩⟩⟩⟩
  exact fun q hq => ⟨(h q hq).1, (h q hq).2, h2 q hq⟩
set_option maxRecDepth 100000 in
theorem fhpt_8 : ∀ q ∈ fhpt 8, q.2.1 < 13 ∧ q.2.2 < fhcN q.2.1 ∧ fhLk 8 q.1 q.2.1 q.2.2 := by
  have h : ∀ q ∈ fhpt 8, q.2.1 < 13 ∧ q.2.2 < fhcN q.2.1 := by decide +kernel
  have h2 : ∀ q ∈ fhpt 8, fhLk 8 q.1 q.2.1 q.2.2 :=
    List.forall_mem_cons.mpr ⟨Or.inl (fhm (in_t (in_1 (List.mem_of_getElem? (i := 50) rfl))) rfl),
    List.forall_mem_cons.mpr ⟨Or.inl (fhm (in_t (in_1 (List.mem_of_getElem? (i := 53) rfl))) rfl),
    List.forall_mem_cons.mpr ⟨Or.inl (fhm (in_t (in_1 (List.mem_of_getElem? (i := 61) rfl))) rfl),
    List.forall_mem_cons.mpr ⟨Or.inl (fhm (in_t (in_1 (List.mem_of_getElem? (i := 64) rfl))) rfl),
    List.forall_mem_cons.mpr ⟨Or.inl (fhm (in_t (in_1 (List.mem_of_getElem? (i := 51) rfl))) rfl),
    List.forall_mem_cons.mpr ⟨Or.inl (fhm (in_t (in_1 (List.mem_of_getElem? (i := 52) rfl))) rfl),
    List.forall_mem_cons.mpr ⟨Or.inl (fhm (in_t (in_1 (List.mem_of_getElem? (i := 54) rfl))) rfl),
    List.forall_mem_cons.mpr ⟨Or.inl (fhm (in_t (in_1 (List.mem_of_getElem? (i := 59) rfl))) rfl),
    List.forall_mem_cons.mpr ⟨Or.inl (fhm (in_t (in_1 (List.mem_of_getElem? (i := 55) rfl))) rfl),
    List.forall_mem_cons.mpr ⟨Or.inl (fhm (in_t (in_1 (List.mem_of_getElem? (i := 56) rfl))) rfl),
    List.forall_mem_cons.mpr ⟨Or.inl (fhm (in_t (in_1 (List.mem_of_getElem? (i := 57) rfl))) rfl),
    fun _ h => absurd h List.not_mem_nil⟩⟩⟩⟩⟩⟩⟩⟩⟩⟩⟩
  exact fun q hq => ⟨(h q hq).1, (h q hq).2, h2 q hq⟩
set_option maxRecDepth 100000 in
theorem fhpt_9 : ∀ q ∈ fhpt 9, q.2.1 < 13 ∧ q.2.2 < fhcN q.2.1 ∧ fhLk 9 q.1 q.2.1 q.2.2 := by
  have h : ∀ q ∈ fhpt 9, q.2.1 < 13 ∧ q.2.2 < fhcN q.2.1 := by decide +kernel
  have h2 : ∀ q ∈ fhpt 9, fhLk 9 q.1 q.2.1 q.2.2 :=
    List.forall_mem_cons.mpr ⟨Or.inl (fhm (in_t (in_1 (List.mem_of_getElem? (i := 220) rfl))) rfl),
    List.forall_mem_cons.mpr ⟨Or.inl (fhm (in_t (in_1 (List.mem_of_getElem? (i := 221) rfl))) rfl),
    List.forall_mem_cons.mpr ⟨Or.inl (fhm (in_t (in_1 (List.mem_of_getElem? (i := 222) rfl))) rfl),
    List.forall_mem_cons.mpr ⟨Or.inl (fhm (in_t (in_1 (List.mem_of_getElem? (i := 223) rfl))) rfl),
    List.forall_mem_cons.mpr ⟨Or.inl (fhm (in_t (in_1 (List.mem_of_getElem? (i := 224) rfl))) rfl),
    List.forall_mem_cons.mpr ⟨Or.inl (fhm (in_t (in_1 (List.mem_of_getElem? (i := 227) rfl))) rfl),
    List.forall_mem_cons.mpr ⟨Or.inl (fhm (in_t (in_1 (List.mem_of_getElem? (i := 230) rfl))) rfl),
    List.forall_mem_cons.mpr ⟨Or.inl (fhm (in_t (in_1 (List.mem_of_getElem? (i := 233) rfl))) rfl),
    List.forall_mem_cons.mpr ⟨Or.inl (fhm (in_t (in_1 (List.mem_of_getElem? (i := 168) rfl))) rfl),
    List.forall_mem_cons.mpr ⟨Or.inl (fhm (in_t (in_1 (List.mem_of_getElem? (i := 226) rfl))) rfl),
    List.forall_mem_cons.mpr ⟨Or.inl (fhm (in_t (in_1 (List.mem_of_getElem? (i := 171) rfl))) rfl),
    List.forall_mem_cons.mpr ⟨Or.inl (fhm (in_t (in_1 (List.mem_of_getElem? (i := 237) rfl))) rfl),
    List.forall_mem_cons.mpr ⟨Or.inl (fhm (in_t (in_1 (List.mem_of_getElem? (i := 175) rfl))) rfl),
    List.forall_mem_cons.mpr ⟨Or.inl (fhm (in_t (in_2 (List.mem_of_getElem? (i := 2) rfl))) rfl),
    List.forall_mem_cons.mpr ⟨Or.inl (fhm (in_t (in_2 (List.mem_of_getElem? (i := 5) rfl))) rfl),
    List.forall_mem_cons.mpr ⟨Or.inl (fhm (in_t (in_2 (List.mem_of_getElem? (i := 9) rfl))) rfl),
    fun _ h => absurd h List.not_mem_nil⟩⟩⟩⟩⟩⟩⟩⟩⟩⟩⟩⟩⟩⟩⟩⟩
  exact fun q hq => ⟨(h q hq).1, (h q hq).2, h2 q hq⟩
set_option maxRecDepth 100000 in
theorem fhpt_10 : ∀ q ∈ fhpt 10, q.2.1 < 13 ∧ q.2.2 < fhcN q.2.1 ∧ fhLk 10 q.1 q.2.1 q.2.2 := by
  have h : ∀ q ∈ fhpt 10, q.2.1 < 13 ∧ q.2.2 < fhcN q.2.1 := by decide +kernel
  have h2 : ∀ q ∈ fhpt 10, fhLk 10 q.1 q.2.1 q.2.2 :=
    List.forall_mem_cons.mpr ⟨Or.inl (fhm (in_t (in_1 (List.mem_of_getElem? (i := 137) rfl))) rfl),
    List.forall_mem_cons.mpr ⟨Or.inl (fhm (in_t (in_1 (List.mem_of_getElem? (i := 138) rfl))) rfl),
    List.forall_mem_cons.mpr ⟨Or.inl (fhm (in_t (in_2 (List.mem_of_getElem? (i := 83) rfl))) rfl),
    List.forall_mem_cons.mpr ⟨Or.inl (fhm (in_t (in_2 (List.mem_of_getElem? (i := 97) rfl))) rfl),
    List.forall_mem_cons.mpr ⟨Or.inl (fhm (in_t (in_2 (List.mem_of_getElem? (i := 101) rfl))) rfl),
    List.forall_mem_cons.mpr ⟨Or.inl (fhm (in_t (in_1 (List.mem_of_getElem? (i := 228) rfl))) rfl),
    List.forall_mem_cons.mpr ⟨Or.inl (fhm (in_t (in_1 (List.mem_of_getElem? (i := 139) rfl))) rfl),
    List.forall_mem_cons.mpr ⟨Or.inl (fhm (in_t (in_1 (List.mem_of_getElem? (i := 98) rfl))) rfl),
    fun _ h => absurd h List.not_mem_nil⟩⟩⟩⟩⟩⟩⟩⟩
  exact fun q hq => ⟨(h q hq).1, (h q hq).2, h2 q hq⟩
set_option maxRecDepth 100000 in
theorem fhpt_11 : ∀ q ∈ fhpt 11, q.2.1 < 13 ∧ q.2.2 < fhcN q.2.1 ∧ fhLk 11 q.1 q.2.1 q.2.2 := by
  have h : ∀ q ∈ fhpt 11, q.2.1 < 13 ∧ q.2.2 < fhcN q.2.1 := by decide +kernel
  have h2 : ∀ q ∈ fhpt 11, fhLk 11 q.1 q.2.1 q.2.2 :=
    List.forall_mem_cons.mpr ⟨Or.inl (fhm (in_t (in_2 (List.mem_of_getElem? (i := 206) rfl))) rfl),
    List.forall_mem_cons.mpr ⟨Or.inl (fhm (in_t (in_2 (List.mem_of_getElem? (i := 208) rfl))) rfl),
    List.forall_mem_cons.mpr ⟨Or.inl (fhm (in_t (in_2 (List.mem_of_getElem? (i := 209) rfl))) rfl),
    List.forall_mem_cons.mpr ⟨Or.inl (fhm (in_t (in_2 (List.mem_of_getElem? (i := 210) rfl))) rfl),
    List.forall_mem_cons.mpr ⟨Or.inl (fhm (in_t (in_2 (List.mem_of_getElem? (i := 211) rfl))) rfl),
    List.forall_mem_cons.mpr ⟨Or.inl (fhm (in_t (in_2 (List.mem_of_getElem? (i := 212) rfl))) rfl),
    List.forall_mem_cons.mpr ⟨Or.inl (fhm (in_t (in_2 (List.mem_of_getElem? (i := 213) rfl))) rfl),
    List.forall_mem_cons.mpr ⟨Or.inl (fhm (in_t (in_2 (List.mem_of_getElem? (i := 215) rfl))) rfl),
    List.forall_mem_cons.mpr ⟨Or.inl (fhm (in_t (in_2 (List.mem_of_getElem? (i := 216) rfl))) rfl),
    List.forall_mem_cons.mpr ⟨Or.inl (fhm (in_t (in_2 (List.mem_of_getElem? (i := 217) rfl))) rfl),
    List.forall_mem_cons.mpr ⟨Or.inl (fhm (in_t (in_2 (List.mem_of_getElem? (i := 218) rfl))) rfl),
    List.forall_mem_cons.mpr ⟨Or.inl (fhm (in_t (in_2 (List.mem_of_getElem? (i := 219) rfl))) rfl),
    List.forall_mem_cons.mpr ⟨Or.inl (fhm (in_t (in_2 (List.mem_of_getElem? (i := 221) rfl))) rfl),
    List.forall_mem_cons.mpr ⟨Or.inl (fhm (in_t (in_2 (List.mem_of_getElem? (i := 222) rfl))) rfl),
    List.forall_mem_cons.mpr ⟨Or.inl (fhm (in_t (in_2 (List.mem_of_getElem? (i := 224) rfl))) rfl),
    List.forall_mem_cons.mpr ⟨Or.inl (fhm (in_t (in_2 (List.mem_of_getElem? (i := 207) rfl))) rfl),
    List.forall_mem_cons.mpr ⟨Or.inl (fhm (in_t (in_2 (List.mem_of_getElem? (i := 223) rfl))) rfl),
    List.forall_mem_cons.mpr ⟨Or.inl (fhm (in_t (in_2 (List.mem_of_getElem? (i := 214) rfl))) rfl),
    List.forall_mem_cons.mpr ⟨Or.inl (fhm (in_t (in_1 (List.mem_of_getElem? (i := 180) rfl))) rfl),
    List.forall_mem_cons.mpr ⟨Or.inl (fhm (in_t (in_1 (List.mem_of_getElem? (i := 167) rfl))) rfl),
    List.forall_mem_cons.mpr ⟨Or.inl (fhm (in_t (in_1 (List.mem_of_getElem? (i := 63) rfl))) rfl),
    List.forall_mem_cons.mpr ⟨Or.inl (fhm (in_t (in_1 (List.mem_of_getElem? (i := 65) rfl))) rfl),
    List.forall_mem_cons.mpr ⟨Or.inl (fhm (in_t (in_1 (List.mem_of_getElem? (i := 170) rfl))) rfl),
    List.forall_mem_cons.mpr ⟨Or.inl (fhm (in_t (in_2 (List.mem_of_getElem? (i := 0) rfl))) rfl),
    List.forall_mem_cons.mpr ⟨Or.inl (fhm (in_t (in_1 (List.mem_of_getElem? (i := 174) rfl))) rfl),
    List.forall_mem_cons.mpr ⟨Or.inl (fhm (in_t (in_2 (List.mem_of_getElem? (i := 3) rfl))) rfl),
    List.forall_mem_cons.mpr ⟨Or.inl (fhm (in_t (in_2 (List.mem_of_getElem? (i := 103) rfl))) rfl),
    List.forall_mem_cons.mpr ⟨Or.inl (fhm (in_t (in_2 (List.mem_of_getElem? (i := 94) rfl))) rfl),
    List.forall_mem_cons.mpr ⟨Or.inl (fhm (in_t (in_2 (List.mem_of_getElem? (i := 11) rfl))) rfl),
    List.forall_mem_cons.mpr ⟨Or.inl (fhm (in_t (in_2 (List.mem_of_getElem? (i := 151) rfl))) rfl),
    List.forall_mem_cons.mpr ⟨Or.inl (fhm (in_t (in_2 (List.mem_of_getElem? (i := 194) rfl))) rfl),
    List.forall_mem_cons.mpr ⟨Or.inl (fhm (in_t (in_1 (List.mem_of_getElem? (i := 165) rfl))) rfl),
    List.forall_mem_cons.mpr ⟨Or.inl (fhm (in_t (in_2 (List.mem_of_getElem? (i := 99) rfl))) rfl),
    List.forall_mem_cons.mpr ⟨Or.inl (fhm (in_t (in_1 (List.mem_of_getElem? (i := 229) rfl))) rfl),
    List.forall_mem_cons.mpr ⟨Or.inl (fhm (in_t (in_1 (List.mem_of_getElem? (i := 232) rfl))) rfl),
    List.forall_mem_cons.mpr ⟨Or.inl (fhm (in_t (in_2 (List.mem_of_getElem? (i := 88) rfl))) rfl),
    List.forall_mem_cons.mpr ⟨Or.inl (fhm (in_t (in_2 (List.mem_of_getElem? (i := 7) rfl))) rfl),
    List.forall_mem_cons.mpr ⟨Or.inl (fhm (in_t (in_2 (List.mem_of_getElem? (i := 58) rfl))) rfl),
    List.forall_mem_cons.mpr ⟨Or.inl (fhm (in_t (in_2 (List.mem_of_getElem? (i := 60) rfl))) rfl),
    List.forall_mem_cons.mpr ⟨Or.inl (fhm (in_t (in_2 (List.mem_of_getElem? (i := 90) rfl))) rfl),
    List.forall_mem_cons.mpr ⟨Or.inl (fhm (in_t (in_2 (List.mem_of_getElem? (i := 149) rfl))) rfl),
    List.forall_mem_cons.mpr ⟨Or.inl (fhm (in_t (in_2 (List.mem_of_getElem? (i := 147) rfl))) rfl),
    List.forall_mem_cons.mpr ⟨Or.inl (fhm (in_t (in_1 (List.mem_of_getElem? (i := 178) rfl))) rfl),
    List.forall_mem_cons.mpr ⟨Or.inl (fhm (in_t (in_1 (List.mem_of_getElem? (i := 236) rfl))) rfl),
    List.forall_mem_cons.mpr ⟨Or.inl (fhm (in_t (in_1 (List.mem_of_getElem? (i := 101) rfl))) rfl),
    List.forall_mem_cons.mpr ⟨Or.inl (fhm (in_t (in_2 (List.mem_of_getElem? (i := 220) rfl))) rfl),
    fun _ h => absurd h List.not_mem_nil⟩⟩⟩⟩⟩⟩⟩⟩⟩⟩⟩⟩⟩⟩⟩⟩⟩⟩⟩⟩⟩⟩⟩⟩⟩⟩⟩⟩⟩⟩⟩⟩⟩⟩⟩⟩⟩⟩⟩⟩⟩⟩⟩⟩⟩⟩
  exact fun q hq => ⟨(h q hq).1, (h q hq).2, h2 q hq⟩
set_option maxRecDepth 100000 in
theorem fhpt_12 : ∀ q ∈ fhpt 12, q.2.1 < 13 ∧ q.2.2 < fhcN q.2.1 ∧ fhLk 12 q.1 q.2.1 q.2.2 := by
  have h : ∀ q ∈ fhpt 12, q.2.1 < 13 ∧ q.2.2 < fhcN q.2.1 := by decide +kernel
  have h2 : ∀ q ∈ fhpt 12, fhLk 12 q.1 q.2.1 q.2.2 :=
    List.forall_mem_cons.mpr ⟨Or.inl (fhm (in_t (in_6 (List.mem_of_getElem? (i := 114) rfl))) rfl),
    List.forall_mem_cons.mpr ⟨Or.inl (fhm (in_t (in_6 (List.mem_of_getElem? (i := 122) rfl))) rfl),
    List.forall_mem_cons.mpr ⟨Or.inl (fhm (in_t (in_6 (List.mem_of_getElem? (i := 123) rfl))) rfl),
    List.forall_mem_cons.mpr ⟨Or.inl (fhm (in_t (in_6 (List.mem_of_getElem? (i := 125) rfl))) rfl),
    List.forall_mem_cons.mpr ⟨Or.inl (fhm (in_t (in_6 (List.mem_of_getElem? (i := 126) rfl))) rfl),
    List.forall_mem_cons.mpr ⟨Or.inl (fhm (in_t (in_6 (List.mem_of_getElem? (i := 127) rfl))) rfl),
    List.forall_mem_cons.mpr ⟨Or.inl (fhm (in_t (in_6 (List.mem_of_getElem? (i := 128) rfl))) rfl),
    List.forall_mem_cons.mpr ⟨Or.inl (fhm (in_t (in_6 (List.mem_of_getElem? (i := 129) rfl))) rfl),
    List.forall_mem_cons.mpr ⟨Or.inl (fhm (in_t (in_6 (List.mem_of_getElem? (i := 130) rfl))) rfl),
    List.forall_mem_cons.mpr ⟨Or.inl (fhm (in_t (in_6 (List.mem_of_getElem? (i := 131) rfl))) rfl),
    List.forall_mem_cons.mpr ⟨Or.inl (fhm (in_t (in_6 (List.mem_of_getElem? (i := 132) rfl))) rfl),
    List.forall_mem_cons.mpr ⟨Or.inl (fhm (in_t (in_6 (List.mem_of_getElem? (i := 133) rfl))) rfl),
    List.forall_mem_cons.mpr ⟨Or.inl (fhm (in_t (in_6 (List.mem_of_getElem? (i := 134) rfl))) rfl),
    List.forall_mem_cons.mpr ⟨Or.inl (fhm (in_t (in_6 (List.mem_of_getElem? (i := 135) rfl))) rfl),
    List.forall_mem_cons.mpr ⟨Or.inl (fhm (in_t (in_6 (List.mem_of_getElem? (i := 136) rfl))) rfl),
    List.forall_mem_cons.mpr ⟨Or.inl (fhm (in_t (in_6 (List.mem_of_getElem? (i := 137) rfl))) rfl),
    List.forall_mem_cons.mpr ⟨Or.inl (fhm (in_t (in_6 (List.mem_of_getElem? (i := 138) rfl))) rfl),
    List.forall_mem_cons.mpr ⟨Or.inl (fhm (in_t (in_6 (List.mem_of_getElem? (i := 139) rfl))) rfl),
    List.forall_mem_cons.mpr ⟨Or.inl (fhm (in_t (in_6 (List.mem_of_getElem? (i := 140) rfl))) rfl),
    List.forall_mem_cons.mpr ⟨Or.inl (fhm (in_t (in_6 (List.mem_of_getElem? (i := 141) rfl))) rfl),
    List.forall_mem_cons.mpr ⟨Or.inl (fhm (in_t (in_6 (List.mem_of_getElem? (i := 142) rfl))) rfl),
    List.forall_mem_cons.mpr ⟨Or.inl (fhm (in_t (in_6 (List.mem_of_getElem? (i := 143) rfl))) rfl),
    List.forall_mem_cons.mpr ⟨Or.inl (fhm (in_t (in_6 (List.mem_of_getElem? (i := 144) rfl))) rfl),
    List.forall_mem_cons.mpr ⟨Or.inl (fhm (in_t (in_6 (List.mem_of_getElem? (i := 145) rfl))) rfl),
    List.forall_mem_cons.mpr ⟨Or.inl (fhm (in_t (in_6 (List.mem_of_getElem? (i := 146) rfl))) rfl),
    List.forall_mem_cons.mpr ⟨Or.inl (fhm (in_t (in_6 (List.mem_of_getElem? (i := 147) rfl))) rfl),
    List.forall_mem_cons.mpr ⟨Or.inl (fhm (in_t (in_6 (List.mem_of_getElem? (i := 148) rfl))) rfl),
    List.forall_mem_cons.mpr ⟨Or.inl (fhm (in_t (in_6 (List.mem_of_getElem? (i := 149) rfl))) rfl),
    List.forall_mem_cons.mpr ⟨Or.inl (fhm (in_t (in_6 (List.mem_of_getElem? (i := 150) rfl))) rfl),
    List.forall_mem_cons.mpr ⟨Or.inl (fhm (in_t (in_6 (List.mem_of_getElem? (i := 152) rfl))) rfl),
    List.forall_mem_cons.mpr ⟨Or.inl (fhm (in_t (in_6 (List.mem_of_getElem? (i := 153) rfl))) rfl),
    List.forall_mem_cons.mpr ⟨Or.inl (fhm (in_t (in_6 (List.mem_of_getElem? (i := 154) rfl))) rfl),
    List.forall_mem_cons.mpr ⟨Or.inl (fhm (in_t (in_6 (List.mem_of_getElem? (i := 155) rfl))) rfl),
    List.forall_mem_cons.mpr ⟨Or.inl (fhm (in_t (in_6 (List.mem_of_getElem? (i := 156) rfl))) rfl),
    List.forall_mem_cons.mpr ⟨Or.inl (fhm (in_t (in_6 (List.mem_of_getElem? (i := 157) rfl))) rfl),
    List.forall_mem_cons.mpr ⟨Or.inl (fhm (in_t (in_6 (List.mem_of_getElem? (i := 158) rfl))) rfl),
    List.forall_mem_cons.mpr ⟨Or.inl (fhm (in_t (in_6 (List.mem_of_getElem? (i := 163) rfl))) rfl),
    List.forall_mem_cons.mpr ⟨Or.inl (fhm (in_t (in_6 (List.mem_of_getElem? (i := 168) rfl))) rfl),
    List.forall_mem_cons.mpr ⟨Or.inl (fhm (in_t (in_6 (List.mem_of_getElem? (i := 169) rfl))) rfl),
    List.forall_mem_cons.mpr ⟨Or.inl (fhm (in_t (in_6 (List.mem_of_getElem? (i := 170) rfl))) rfl),
    List.forall_mem_cons.mpr ⟨Or.inl (fhm (in_t (in_6 (List.mem_of_getElem? (i := 171) rfl))) rfl),
    List.forall_mem_cons.mpr ⟨Or.inl (fhm (in_t (in_6 (List.mem_of_getElem? (i := 172) rfl))) rfl),
    List.forall_mem_cons.mpr ⟨Or.inl (fhm (in_t (in_6 (List.mem_of_getElem? (i := 173) rfl))) rfl),
    List.forall_mem_cons.mpr ⟨Or.inl (fhm (in_t (in_6 (List.mem_of_getElem? (i := 174) rfl))) rfl),
    List.forall_mem_cons.mpr ⟨Or.inl (fhm (in_t (in_6 (List.mem_of_getElem? (i := 175) rfl))) rfl),
    List.forall_mem_cons.mpr ⟨Or.inl (fhm (in_t (in_6 (List.mem_of_getElem? (i := 177) rfl))) rfl),
    List.forall_mem_cons.mpr ⟨Or.inl (fhm (in_t (in_6 (List.mem_of_getElem? (i := 178) rfl))) rfl),
    List.forall_mem_cons.mpr ⟨Or.inl (fhm (in_t (in_6 (List.mem_of_getElem? (i := 179) rfl))) rfl),
    List.forall_mem_cons.mpr ⟨Or.inl (fhm (in_t (in_6 (List.mem_of_getElem? (i := 180) rfl))) rfl),
    List.forall_mem_cons.mpr ⟨Or.inl (fhm (in_t (in_6 (List.mem_of_getElem? (i := 181) rfl))) rfl),
    List.forall_mem_cons.mpr ⟨Or.inl (fhm (in_t (in_6 (List.mem_of_getElem? (i := 183) rfl))) rfl),
    List.forall_mem_cons.mpr ⟨Or.inl (fhm (in_t (in_6 (List.mem_of_getElem? (i := 184) rfl))) rfl),
    List.forall_mem_cons.mpr ⟨Or.inl (fhm (in_t (in_6 (List.mem_of_getElem? (i := 187) rfl))) rfl),
    List.forall_mem_cons.mpr ⟨Or.inl (fhm (in_t (in_6 (List.mem_of_getElem? (i := 188) rfl))) rfl),
    List.forall_mem_cons.mpr ⟨Or.inl (fhm (in_t (in_6 (List.mem_of_getElem? (i := 189) rfl))) rfl),
    List.forall_mem_cons.mpr ⟨Or.inl (fhm (in_t (in_6 (List.mem_of_getElem? (i := 190) rfl))) rfl),
    List.forall_mem_cons.mpr ⟨Or.inl (fhm (in_t (in_6 (List.mem_of_getElem? (i := 191) rfl))) rfl),
    List.forall_mem_cons.mpr ⟨Or.inl (fhm (in_t (in_6 (List.mem_of_getElem? (i := 192) rfl))) rfl),
    List.forall_mem_cons.mpr ⟨Or.inl (fhm (in_t (in_6 (List.mem_of_getElem? (i := 193) rfl))) rfl),
    List.forall_mem_cons.mpr ⟨Or.inl (fhm (in_t (in_6 (List.mem_of_getElem? (i := 194) rfl))) rfl),
    List.forall_mem_cons.mpr ⟨Or.inl (fhm (in_t (in_6 (List.mem_of_getElem? (i := 195) rfl))) rfl),
    List.forall_mem_cons.mpr ⟨Or.inl (fhm (in_t (in_6 (List.mem_of_getElem? (i := 196) rfl))) rfl),
    List.forall_mem_cons.mpr ⟨Or.inl (fhm (in_t (in_6 (List.mem_of_getElem? (i := 197) rfl))) rfl),
    List.forall_mem_cons.mpr ⟨Or.inl (fhm (in_t (in_6 (List.mem_of_getElem? (i := 198) rfl))) rfl),
    List.forall_mem_cons.mpr ⟨Or.inl (fhm (in_t (in_6 (List.mem_of_getElem? (i := 199) rfl))) rfl),
    List.forall_mem_cons.mpr ⟨Or.inl (fhm (in_t (in_6 (List.mem_of_getElem? (i := 200) rfl))) rfl),
    List.forall_mem_cons.mpr ⟨Or.inl (fhm (in_t (in_6 (List.mem_of_getElem? (i := 201) rfl))) rfl),
    List.forall_mem_cons.mpr ⟨Or.inl (fhm (in_t (in_6 (List.mem_of_getElem? (i := 202) rfl))) rfl),
    List.forall_mem_cons.mpr ⟨Or.inl (fhm (in_t (in_6 (List.mem_of_getElem? (i := 203) rfl))) rfl),
    List.forall_mem_cons.mpr ⟨Or.inl (fhm (in_t (in_6 (List.mem_of_getElem? (i := 204) rfl))) rfl),
    List.forall_mem_cons.mpr ⟨Or.inl (fhm (in_t (in_6 (List.mem_of_getElem? (i := 205) rfl))) rfl),
    List.forall_mem_cons.mpr ⟨Or.inl (fhm (in_t (in_6 (List.mem_of_getElem? (i := 206) rfl))) rfl),
    List.forall_mem_cons.mpr ⟨Or.inl (fhm (in_t (in_6 (List.mem_of_getElem? (i := 207) rfl))) rfl),
    List.forall_mem_cons.mpr ⟨Or.inl (fhm (in_t (in_6 (List.mem_of_getElem? (i := 208) rfl))) rfl),
    List.forall_mem_cons.mpr ⟨Or.inl (fhm (in_t (in_6 (List.mem_of_getElem? (i := 209) rfl))) rfl),
    List.forall_mem_cons.mpr ⟨Or.inl (fhm (in_t (in_6 (List.mem_of_getElem? (i := 210) rfl))) rfl),
    List.forall_mem_cons.mpr ⟨Or.inl (fhm (in_t (in_6 (List.mem_of_getElem? (i := 211) rfl))) rfl),
    List.forall_mem_cons.mpr ⟨Or.inl (fhm (in_t (in_6 (List.mem_of_getElem? (i := 212) rfl))) rfl),
    List.forall_mem_cons.mpr ⟨Or.inl (fhm (in_t (in_6 (List.mem_of_getElem? (i := 214) rfl))) rfl),
    List.forall_mem_cons.mpr ⟨Or.inl (fhm (in_t (in_6 (List.mem_of_getElem? (i := 218) rfl))) rfl),
    List.forall_mem_cons.mpr ⟨Or.inl (fhm (in_t (in_6 (List.mem_of_getElem? (i := 222) rfl))) rfl),
    List.forall_mem_cons.mpr ⟨Or.inl (fhm (in_t (in_6 (List.mem_of_getElem? (i := 115) rfl))) rfl),
    List.forall_mem_cons.mpr ⟨Or.inl (fhm (in_t (in_6 (List.mem_of_getElem? (i := 119) rfl))) rfl),
    List.forall_mem_cons.mpr ⟨Or.inl (fhm (in_t (in_6 (List.mem_of_getElem? (i := 120) rfl))) rfl),
    List.forall_mem_cons.mpr ⟨Or.inl (fhm (in_t (in_6 (List.mem_of_getElem? (i := 116) rfl))) rfl),
    List.forall_mem_cons.mpr ⟨Or.inl (fhm (in_t (in_6 (List.mem_of_getElem? (i := 117) rfl))) rfl),
    List.forall_mem_cons.mpr ⟨Or.inl (fhm (in_t (in_6 (List.mem_of_getElem? (i := 118) rfl))) rfl),
    List.forall_mem_cons.mpr ⟨Or.inl (fhm (in_t (in_6 (List.mem_of_getElem? (i := 124) rfl))) rfl),
    List.forall_mem_cons.mpr ⟨Or.inl (fhm (in_t (in_6 (List.mem_of_getElem? (i := 151) rfl))) rfl),
    List.forall_mem_cons.mpr ⟨Or.inl (fhm (in_t (in_6 (List.mem_of_getElem? (i := 162) rfl))) rfl),
    List.forall_mem_cons.mpr ⟨Or.inl (fhm (in_t (in_6 (List.mem_of_getElem? (i := 213) rfl))) rfl),
    List.forall_mem_cons.mpr ⟨Or.inl (fhm (in_t (in_6 (List.mem_of_getElem? (i := 215) rfl))) rfl),
    List.forall_mem_cons.mpr ⟨Or.inl (fhm (in_t (in_6 (List.mem_of_getElem? (i := 216) rfl))) rfl),
    List.forall_mem_cons.mpr ⟨Or.inl (fhm (in_t (in_6 (List.mem_of_getElem? (i := 217) rfl))) rfl),
    List.forall_mem_cons.mpr ⟨Or.inl (fhm (in_t (in_6 (List.mem_of_getElem? (i := 159) rfl))) rfl),
    List.forall_mem_cons.mpr ⟨Or.inl (fhm (in_t (in_6 (List.mem_of_getElem? (i := 160) rfl))) rfl),
    List.forall_mem_cons.mpr ⟨Or.inl (fhm (in_t (in_6 (List.mem_of_getElem? (i := 164) rfl))) rfl),
    List.forall_mem_cons.mpr ⟨Or.inl (fhm (in_t (in_6 (List.mem_of_getElem? (i := 121) rfl))) rfl),
    List.forall_mem_cons.mpr ⟨Or.inl (fhm (in_t (in_6 (List.mem_of_getElem? (i := 166) rfl))) rfl),
    List.forall_mem_cons.mpr ⟨Or.inl (fhm (in_t (in_6 (List.mem_of_getElem? (i := 167) rfl))) rfl),
    List.forall_mem_cons.mpr ⟨Or.inl (fhm (in_t (in_6 (List.mem_of_getElem? (i := 161) rfl))) rfl),
    List.forall_mem_cons.mpr ⟨Or.inl (fhm (in_t (in_6 (List.mem_of_getElem? (i := 185) rfl))) rfl),
    List.forall_mem_cons.mpr ⟨Or.inl (fhm (in_t (in_6 (List.mem_of_getElem? (i := 182) rfl))) rfl),
    List.forall_mem_cons.mpr ⟨Or.inl (fhm (in_t (in_6 (List.mem_of_getElem? (i := 176) rfl))) rfl),
    List.forall_mem_cons.mpr ⟨Or.inl (fhm (in_t (in_6 (List.mem_of_getElem? (i := 186) rfl))) rfl),
    List.forall_mem_cons.mpr ⟨Or.inl (fhm (in_t (in_6 (List.mem_of_getElem? (i := 219) rfl))) rfl),
    List.forall_mem_cons.mpr ⟨Or.inl (fhm (in_t (in_6 (List.mem_of_getElem? (i := 165) rfl))) rfl),
    List.forall_mem_cons.mpr ⟨Or.inl (fhm (in_t (in_6 (List.mem_of_getElem? (i := 220) rfl))) rfl),
    List.forall_mem_cons.mpr ⟨Or.inl (fhm (in_t (in_6 (List.mem_of_getElem? (i := 221) rfl))) rfl),
    List.forall_mem_cons.mpr ⟨Or.inl (fhm (in_t (in_6 (List.mem_of_getElem? (i := 223) rfl))) rfl),
    fun _ h => absurd h List.not_mem_nil⟩⟩⟩⟩⟩⟩⟩⟩⟩⟩⟩⟩⟩⟩⟩⟩⟩⟩⟩⟩⟩⟩⟩⟩⟩⟩⟩⟩⟩⟩⟩⟩⟩⟩⟩⟩⟩⟩⟩⟩⟩⟩⟩⟩⟩⟩⟩⟩⟩⟩⟩⟩⟩⟩⟩⟩⟩⟩⟩⟩⟩⟩⟩⟩⟩⟩⟩⟩⟩⟩⟩⟩⟩⟩⟩⟩⟩⟩⟩⟩⟩⟩⟩⟩⟩⟩⟩⟩⟩⟩⟩⟩⟩⟩⟩⟩⟩⟩⟩⟩⟩⟩⟩⟩⟩⟩⟩⟩⟩⟩
  exact fun q hq => ⟨(h q hq).1, (h q hq).2, h2 q hq⟩
theorem fhpt_ok (own : Nat) : ∀ q ∈ fhpt own, q.2.1 < 13 ∧ q.2.2 < fhcN q.2.1 ∧ fhLk own q.1 q.2.1 q.2.2 := match own with
  | 0 => fhpt_0
  | 1 => fhpt_1
  | 2 => fhpt_2
  | 3 => fhpt_3
  | 4 => fhpt_4
  | 5 => fhpt_5
  | 6 => fhpt_6
  | 7 => fhpt_7
  | 8 => fhpt_8
  | 9 => fhpt_9
  | 10 => fhpt_10
  | 11 => fhpt_11
  | 12 => fhpt_12
  | n + 13 => fun _ h => absurd h List.not_mem_nil
theorem fhpl_mem {l : List (Nat × Nat × Nat)} {i x j : Nat} (h : fhpl l i = some (x, j)) : (i, x, j) ∈ l := by
  induction l with
  | nil => cases h
  | cons q l ih =>
    unfold fhpl at h
    cases hb : Nat.beq q.1 i with
    | true =>
      rw [hb] at h
      have := Nat.eq_of_beq_eq_true hb
      obtain ⟨a, c⟩ := q
      cases h
      subst this
      exact List.mem_cons_self
    | false =>
      rw [hb] at h
      exact List.mem_cons_of_mem _ (ih h)
theorem fhPo_ok {Y : fhY} (hY : Y.2.1 = fun x j => fhnd (9, 0) (fhkd x) j) : fhPok Y fhPo := by
  intro own idx x j h
  obtain ⟨h1, h2, h3⟩ := fhpt_ok own _ (fhpl_mem h)
  obtain ⟨c1, c2, c3, c4⟩ := fhcl_ok x h1
  have hk := fhkd_ok x h1 j h2
  have hY2 : Y.2.1 x j = fhnd (9, 0) (fhkd x) j := by rw [hY]
  refine ⟨fhrx x, fhcT x, fhcN x, fhcy x, c1, c2, c3, c4, h2, ?_, ?_, ?_, ?_, ?_⟩
  · rw [hY2]; exact h3
  · rw [hY2]; intro e; simp only [fhkchk, e] at hk; simpa using hk
  · rw [hY2]; intro e; simp only [fhkchk, e] at hk; simpa using hk
  · rw [hY2]; intro e; simp only [fhkchk, e] at hk; simpa using hk
  · rw [hY2]
    rintro (e | e)
    · simp only [fhkchk, e] at hk; obtain ⟨a, c⟩ := fhand hk; exact ⟨by simpa using a, fhobjty_ok c⟩
    · simp only [fhkchk, e] at hk; obtain ⟨a, c⟩ := fhand hk; exact ⟨by simpa using a, fhobjty_ok c⟩
theorem fhPF : fhPok fhYF fhPo := fhPo_ok rfl
theorem fhPM : fhPok fhYM fhPo := fhPo_ok rfl
set_option maxRecDepth 100000 in
theorem fhlt_10 : ∀ q ∈ fhlt 10, Cond.constantLong (fhrx 10) q.1 q.2 ∈ fhtbl :=
    List.forall_mem_cons.mpr ⟨fhm (in_t (in_4 (List.mem_of_getElem? (i := 104) rfl))) rfl,
    List.forall_mem_cons.mpr ⟨fhm (in_t (in_4 (List.mem_of_getElem? (i := 105) rfl))) rfl,
    fun _ h => absurd h List.not_mem_nil⟩⟩
set_option maxRecDepth 100000 in
theorem fhlt_11 : ∀ q ∈ fhlt 11, Cond.constantLong (fhrx 11) q.1 q.2 ∈ fhtbl :=
    List.forall_mem_cons.mpr ⟨fhm (in_t (in_6 (List.mem_of_getElem? (i := 45) rfl))) rfl,
    fun _ h => absurd h List.not_mem_nil⟩
set_option maxRecDepth 100000 in
theorem fhlt_12 : ∀ q ∈ fhlt 12, Cond.constantLong (fhrx 12) q.1 q.2 ∈ fhtbl :=
    List.forall_mem_cons.mpr ⟨fhm (in_t (in_8 (List.mem_of_getElem? (i := 45) rfl))) rfl,
    List.forall_mem_cons.mpr ⟨fhm (in_t (in_8 (List.mem_of_getElem? (i := 46) rfl))) rfl,
    List.forall_mem_cons.mpr ⟨fhm (in_t (in_8 (List.mem_of_getElem? (i := 95) rfl))) rfl,
    List.forall_mem_cons.mpr ⟨fhm (in_t (in_8 (List.mem_of_getElem? (i := 96) rfl))) rfl,
    List.forall_mem_cons.mpr ⟨fhm (in_t (in_9 (List.mem_of_getElem? (i := 58) rfl))) rfl,
    List.forall_mem_cons.mpr ⟨fhm (in_t (in_9 (List.mem_of_getElem? (i := 75) rfl))) rfl,
    List.forall_mem_cons.mpr ⟨fhm (in_t (in_9 (List.mem_of_getElem? (i := 92) rfl))) rfl,
    List.forall_mem_cons.mpr ⟨fhm (in_t (in_9 (List.mem_of_getElem? (i := 113) rfl))) rfl,
    List.forall_mem_cons.mpr ⟨fhm (in_t (in_10 (List.mem_of_getElem? (i := 15) rfl))) rfl,
    List.forall_mem_cons.mpr ⟨fhm (in_t (in_10 (List.mem_of_getElem? (i := 16) rfl))) rfl,
    List.forall_mem_cons.mpr ⟨fhm (in_t (in_10 (List.mem_of_getElem? (i := 17) rfl))) rfl,
    List.forall_mem_cons.mpr ⟨fhm (in_t (in_10 (List.mem_of_getElem? (i := 18) rfl))) rfl,
    List.forall_mem_cons.mpr ⟨fhm (in_t (in_8 (List.mem_of_getElem? (i := 191) rfl))) rfl,
    List.forall_mem_cons.mpr ⟨fhm (in_t (in_8 (List.mem_of_getElem? (i := 192) rfl))) rfl,
    List.forall_mem_cons.mpr ⟨fhm (in_t (in_10 (List.mem_of_getElem? (i := 32) rfl))) rfl,
    List.forall_mem_cons.mpr ⟨fhm (in_t (in_10 (List.mem_of_getElem? (i := 27) rfl))) rfl,
    fun _ h => absurd h List.not_mem_nil⟩⟩⟩⟩⟩⟩⟩⟩⟩⟩⟩⟩⟩⟩⟩⟩
theorem fhlt_ok (own : Nat) : ∀ q ∈ fhlt own, Cond.constantLong (fhrx own) q.1 q.2 ∈ fhtbl := match own with
  | 0 => fun _ h => absurd h List.not_mem_nil
  | 1 => fun _ h => absurd h List.not_mem_nil
  | 2 => fun _ h => absurd h List.not_mem_nil
  | 3 => fun _ h => absurd h List.not_mem_nil
  | 4 => fun _ h => absurd h List.not_mem_nil
  | 5 => fun _ h => absurd h List.not_mem_nil
  | 6 => fun _ h => absurd h List.not_mem_nil
  | 7 => fun _ h => absurd h List.not_mem_nil
  | 8 => fun _ h => absurd h List.not_mem_nil
  | 9 => fun _ h => absurd h List.not_mem_nil
  | 10 => fhlt_10
  | 11 => fhlt_11
  | 12 => fhlt_12
  | n + 13 => fun _ h => absurd h List.not_mem_nil
theorem fhll2_mem {l : List (Nat × Int64)} {i : Nat} {x : Int64} (h : fhll2 l i = some x) : (i, x) ∈ l := by
  induction l with
  | nil => cases h
  | cons q l ih =>
    unfold fhll2 at h
    cases hb : Nat.beq q.1 i with
    | true =>
      rw [hb] at h
      have := Nat.eq_of_beq_eq_true hb
      obtain ⟨a, c⟩ := q
      cases h
      subst this
      exact List.mem_cons_self
    | false =>
      rw [hb] at h
      exact List.mem_cons_of_mem _ (ih h)
theorem fhLL : fhLok fhLo := fun own _ _ h => fhlt_ok own _ (fhll2_mem h)
