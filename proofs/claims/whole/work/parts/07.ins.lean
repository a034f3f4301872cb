theorem in_pl {big ws : List Cond} (ps : List Nat) (hp : ws = ps.filterMap (fun i => big[i]?)) : ∀ w ∈ ws, w ∈ big := by
  intro w hw
  rw [hp] at hw
  obtain ⟨i, -, hi⟩ := List.mem_filterMap.mp hw
  exact List.mem_of_getElem? hi
theorem inX0 : ∀ w ∈ u_ws RX0 TX0 0, w ∈ gtb := by decide
theorem inX1 : ∀ w ∈ u_ws RX1 TX1 0, w ∈ gtb := by decide
theorem inX2 : ∀ w ∈ u_ws RX2 TX2 0, w ∈ gtb := by decide
theorem inX3 : ∀ w ∈ u_ws RX3 TX3 0, w ∈ gtb := by decide
theorem inX4 : ∀ w ∈ u_ws RX4 TX4 3, w ∈ gtb := fun w h => gtb_of (List.mem_append_right _ (in_pl [88, 90, 92] (by decide +kernel) w h)) (List.all_eq_true.mp (by decide +kernel : (u_ws RX4 TX4 3).all goodWord = true) w h)
theorem hTX4 : ∀ k, k < 3 → (TX4 k).1 = RX4 := by decide
theorem inX5 : ∀ w ∈ u_ws RX5 TX5 6, w ∈ gtb := fun w h => gtb_of (List.mem_append_right _ (in_pl [186, 188, 190, 192, 194, 196] (by decide +kernel) w h)) (List.all_eq_true.mp (by decide +kernel : (u_ws RX5 TX5 6).all goodWord = true) w h)
theorem hTX5 : ∀ k, k < 6 → (TX5 k).1 = RX5 := by decide
theorem inX6 : ∀ w ∈ u_ws RX6 TX6 4, w ∈ gtb := fun w h => gtb_of (List.mem_append_right _ (in_pl [214, 216, 218, 220] (by decide +kernel) w h)) (List.all_eq_true.mp (by decide +kernel : (u_ws RX6 TX6 4).all goodWord = true) w h)
theorem hTX6 : ∀ k, k < 4 → (TX6 k).1 = RX6 := by decide
theorem inX7 : ∀ w ∈ u_ws RX7 TX7 18, w ∈ gtb := fun w h => gtb_of (List.mem_append_right _ (in_pl [137, 139, 141, 143, 145, 147, 149, 151, 153, 155, 157, 159, 161, 163, 165, 167, 169, 171] (by decide +kernel) w h)) (List.all_eq_true.mp (by decide +kernel : (u_ws RX7 TX7 18).all goodWord = true) w h)
theorem hTX7 : ∀ k, k < 18 → (TX7 k).1 = RX7 := by decide
theorem inX8 : ∀ w ∈ u_ws RX8 TX8 0, w ∈ gtb := by decide
theorem inX9 : ∀ w ∈ u_ws RX9 TX9 0, w ∈ gtb := by decide
theorem inX10 : ∀ w ∈ u_ws RX10 TX10 0, w ∈ gtb := by decide
theorem inX11 : ∀ w ∈ u_ws RX11 TX11 10, w ∈ gtb := fun w h => gtb_of (List.mem_append_right _ (in_pl [235, 237, 239, 241, 243, 245, 247, 249, 251, 253] (by decide +kernel) w h)) (List.all_eq_true.mp (by decide +kernel : (u_ws RX11 TX11 10).all goodWord = true) w h)
theorem hTX11 : ∀ k, k < 10 → (TX11 k).1 = RX11 := by decide
theorem inX12 : ∀ w ∈ u_ws RX12 TX12 25, w ∈ gtb := fun w h => gtb_of (List.mem_append_right _ (in_pl [901, 903, 905, 907, 909, 911, 913, 915, 917, 919, 921, 923, 925, 927, 929, 931, 933, 935, 937, 939, 941, 943, 945, 947, 949] (by decide +kernel) w h)) (List.all_eq_true.mp (by decide +kernel : (u_ws RX12 TX12 25).all goodWord = true) w h)
theorem hTX12 : ∀ k, k < 25 → (TX12 k).1 = RX12 := by decide
theorem kb_m33 : (Int8.ofInt (-33)).toInt32 = -33 := by decide
theorem kb_m10 : (Int8.ofInt (-10)).toInt32 = -10 := by decide
theorem kb_m3 : (Int8.ofInt (-3)).toInt32 = -3 := by decide
theorem kb_m2 : (Int8.ofInt (-2)).toInt32 = -2 := by decide
theorem kb_6 : (Int8.ofInt (6)).toInt32 = 6 := by decide
theorem kb_7 : (Int8.ofInt (7)).toInt32 = 7 := by decide
theorem kb_8 : (Int8.ofInt (8)).toInt32 = 8 := by decide
theorem kb_9 : (Int8.ofInt (9)).toInt32 = 9 := by decide
theorem kb_10 : (Int8.ofInt (10)).toInt32 = 10 := by decide
theorem kb_11 : (Int8.ofInt (11)).toInt32 = 11 := by decide
theorem kb_12 : (Int8.ofInt (12)).toInt32 = 12 := by decide
theorem kb_13 : (Int8.ofInt (13)).toInt32 = 13 := by decide
theorem kb_14 : (Int8.ofInt (14)).toInt32 = 14 := by decide
theorem kb_16 : (Int8.ofInt (16)).toInt32 = 16 := by decide
theorem kb_20 : (Int8.ofInt (20)).toInt32 = 20 := by decide
theorem kb_28 : (Int8.ofInt (28)).toInt32 = 28 := by decide
theorem kb_30 : (Int8.ofInt (30)).toInt32 = 30 := by decide
theorem kb_32 : (Int8.ofInt (32)).toInt32 = 32 := by decide
theorem kb_33 : (Int8.ofInt (33)).toInt32 = 33 := by decide
theorem kb_37 : (Int8.ofInt (37)).toInt32 = 37 := by decide
theorem kb_38 : (Int8.ofInt (38)).toInt32 = 38 := by decide
theorem kb_40 : (Int8.ofInt (40)).toInt32 = 40 := by decide
theorem kb_41 : (Int8.ofInt (41)).toInt32 = 41 := by decide
theorem kb_42 : (Int8.ofInt (42)).toInt32 = 42 := by decide
theorem kb_43 : (Int8.ofInt (43)).toInt32 = 43 := by decide
theorem kb_45 : (Int8.ofInt (45)).toInt32 = 45 := by decide
theorem kb_47 : (Int8.ofInt (47)).toInt32 = 47 := by decide
theorem kb_48 : (Int8.ofInt (48)).toInt32 = 48 := by decide
theorem kb_50 : (Int8.ofInt (50)).toInt32 = 50 := by decide
theorem kb_57 : (Int8.ofInt (57)).toInt32 = 57 := by decide
theorem kb_60 : (Int8.ofInt (60)).toInt32 = 60 := by decide
theorem kb_61 : (Int8.ofInt (61)).toInt32 = 61 := by decide
theorem kb_62 : (Int8.ofInt (62)).toInt32 = 62 := by decide
theorem kb_63 : (Int8.ofInt (63)).toInt32 = 63 := by decide
theorem kb_69 : (Int8.ofInt (69)).toInt32 = 69 := by decide
theorem kb_70 : (Int8.ofInt (70)).toInt32 = 70 := by decide
theorem kb_71 : (Int8.ofInt (71)).toInt32 = 71 := by decide
theorem kb_99 : (Int8.ofInt (99)).toInt32 = 99 := by decide
theorem kb_100 : (Int8.ofInt (100)).toInt32 = 100 := by decide
theorem kb_101 : (Int8.ofInt (101)).toInt32 = 101 := by decide
theorem kb_115 : (Int8.ofInt (115)).toInt32 = 115 := by decide
theorem kb_120 : (Int8.ofInt (120)).toInt32 = 120 := by decide
theorem kb_121 : (Int8.ofInt (121)).toInt32 = 121 := by decide
theorem kb_124 : (Int8.ofInt (124)).toInt32 = 124 := by decide
theorem ki_m1 : Int32.ofInt (-1) = -1 := by decide
theorem ki_0 : Int32.ofInt (0) = 0 := by decide
theorem ki_1 : Int32.ofInt (1) = 1 := by decide
theorem ki_2 : Int32.ofInt (2) = 2 := by decide
theorem ki_3 : Int32.ofInt (3) = 3 := by decide
theorem ki_4 : Int32.ofInt (4) = 4 := by decide
theorem ki_5 : Int32.ofInt (5) = 5 := by decide
theorem ks_140 : (Int16.ofInt (140)).toInt32 = 140 := by decide
theorem ks_160 : (Int16.ofInt (160)).toInt32 = 160 := by decide
theorem ks_240 : (Int16.ofInt (240)).toInt32 = 240 := by decide
theorem ks_255 : (Int16.ofInt (255)).toInt32 = 255 := by decide
theorem ks_999 : (Int16.ofInt (999)).toInt32 = 999 := by decide
theorem ks_1000 : (Int16.ofInt (1000)).toInt32 = 1000 := by decide
theorem ks_9999 : (Int16.ofInt (9999)).toInt32 = 9999 := by decide
theorem ks_12345 : (Int16.ofInt (12345)).toInt32 = 12345 := by decide
