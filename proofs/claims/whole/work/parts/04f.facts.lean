theorem rx_c0 {w : Cond} (h : w ∈ k2_sels lw_privs) : w ∈ lw_tbl := List.mem_append_left _ h
theorem rx_g0 (i : Nat) {w : Cond} (h : (k2_sels lw_privs)[i]? = some w) (hg : goodWord w = true) : w ∈ rx_good := List.mem_filter.mpr ⟨rx_c0 (List.mem_of_getElem? h), hg⟩
theorem rx_n0 (i : Nat) {w : Cond} (h : (k2_sels lw_privs)[i]? = some w) (hg : rx_isNest w = true) : w ∈ rx_nest := List.mem_filter.mpr ⟨rx_c0 (List.mem_of_getElem? h), hg⟩
theorem rx_c1 {w : Cond} (h : w ∈ tables_1_1) : w ∈ lw_tbl := List.mem_append_right _ (show w ∈ tables_1 from List.mem_append_left _ h)
theorem rx_g1 (i : Nat) {w : Cond} (h : (tables_1_1)[i]? = some w) (hg : goodWord w = true) : w ∈ rx_good := List.mem_filter.mpr ⟨rx_c1 (List.mem_of_getElem? h), hg⟩
theorem rx_n1 (i : Nat) {w : Cond} (h : (tables_1_1)[i]? = some w) (hg : rx_isNest w = true) : w ∈ rx_nest := List.mem_filter.mpr ⟨rx_c1 (List.mem_of_getElem? h), hg⟩
theorem rx_c2 {w : Cond} (h : w ∈ tables_1_2) : w ∈ lw_tbl := List.mem_append_right _ (show w ∈ tables_1 from List.mem_append_right _ (List.mem_append_left _ h))
theorem rx_g2 (i : Nat) {w : Cond} (h : (tables_1_2)[i]? = some w) (hg : goodWord w = true) : w ∈ rx_good := List.mem_filter.mpr ⟨rx_c2 (List.mem_of_getElem? h), hg⟩
theorem rx_n2 (i : Nat) {w : Cond} (h : (tables_1_2)[i]? = some w) (hg : rx_isNest w = true) : w ∈ rx_nest := List.mem_filter.mpr ⟨rx_c2 (List.mem_of_getElem? h), hg⟩
theorem rx_c3 {w : Cond} (h : w ∈ tables_1_3) : w ∈ lw_tbl := List.mem_append_right _ (show w ∈ tables_1 from List.mem_append_right _ (List.mem_append_right _ (List.mem_append_left _ h)))
theorem rx_g3 (i : Nat) {w : Cond} (h : (tables_1_3)[i]? = some w) (hg : goodWord w = true) : w ∈ rx_good := List.mem_filter.mpr ⟨rx_c3 (List.mem_of_getElem? h), hg⟩
theorem rx_n3 (i : Nat) {w : Cond} (h : (tables_1_3)[i]? = some w) (hg : rx_isNest w = true) : w ∈ rx_nest := List.mem_filter.mpr ⟨rx_c3 (List.mem_of_getElem? h), hg⟩
theorem rx_c4 {w : Cond} (h : w ∈ tables_1_4) : w ∈ lw_tbl := List.mem_append_right _ (show w ∈ tables_1 from List.mem_append_right _ (List.mem_append_right _ (List.mem_append_right _ (List.mem_append_left _ h))))
theorem rx_g4 (i : Nat) {w : Cond} (h : (tables_1_4)[i]? = some w) (hg : goodWord w = true) : w ∈ rx_good := List.mem_filter.mpr ⟨rx_c4 (List.mem_of_getElem? h), hg⟩
theorem rx_n4 (i : Nat) {w : Cond} (h : (tables_1_4)[i]? = some w) (hg : rx_isNest w = true) : w ∈ rx_nest := List.mem_filter.mpr ⟨rx_c4 (List.mem_of_getElem? h), hg⟩
theorem rx_c5 {w : Cond} (h : w ∈ tables_1_5) : w ∈ lw_tbl := List.mem_append_right _ (show w ∈ tables_1 from List.mem_append_right _ (List.mem_append_right _ (List.mem_append_right _ (List.mem_append_right _ (List.mem_append_left _ h)))))
theorem rx_g5 (i : Nat) {w : Cond} (h : (tables_1_5)[i]? = some w) (hg : goodWord w = true) : w ∈ rx_good := List.mem_filter.mpr ⟨rx_c5 (List.mem_of_getElem? h), hg⟩
theorem rx_n5 (i : Nat) {w : Cond} (h : (tables_1_5)[i]? = some w) (hg : rx_isNest w = true) : w ∈ rx_nest := List.mem_filter.mpr ⟨rx_c5 (List.mem_of_getElem? h), hg⟩
theorem rx_c6 {w : Cond} (h : w ∈ tables_1_6) : w ∈ lw_tbl := List.mem_append_right _ (show w ∈ tables_1 from List.mem_append_right _ (List.mem_append_right _ (List.mem_append_right _ (List.mem_append_right _ (List.mem_append_right _ (List.mem_append_left _ h))))))
theorem rx_g6 (i : Nat) {w : Cond} (h : (tables_1_6)[i]? = some w) (hg : goodWord w = true) : w ∈ rx_good := List.mem_filter.mpr ⟨rx_c6 (List.mem_of_getElem? h), hg⟩
theorem rx_n6 (i : Nat) {w : Cond} (h : (tables_1_6)[i]? = some w) (hg : rx_isNest w = true) : w ∈ rx_nest := List.mem_filter.mpr ⟨rx_c6 (List.mem_of_getElem? h), hg⟩
theorem rx_c7 {w : Cond} (h : w ∈ tables_1_7) : w ∈ lw_tbl := List.mem_append_right _ (show w ∈ tables_1 from List.mem_append_right _ (List.mem_append_right _ (List.mem_append_right _ (List.mem_append_right _ (List.mem_append_right _ (List.mem_append_right _ (List.mem_append_left _ h)))))))
theorem rx_g7 (i : Nat) {w : Cond} (h : (tables_1_7)[i]? = some w) (hg : goodWord w = true) : w ∈ rx_good := List.mem_filter.mpr ⟨rx_c7 (List.mem_of_getElem? h), hg⟩
theorem rx_n7 (i : Nat) {w : Cond} (h : (tables_1_7)[i]? = some w) (hg : rx_isNest w = true) : w ∈ rx_nest := List.mem_filter.mpr ⟨rx_c7 (List.mem_of_getElem? h), hg⟩
theorem rx_c8 {w : Cond} (h : w ∈ tables_1_8) : w ∈ lw_tbl := List.mem_append_right _ (show w ∈ tables_1 from List.mem_append_right _ (List.mem_append_right _ (List.mem_append_right _ (List.mem_append_right _ (List.mem_append_right _ (List.mem_append_right _ (List.mem_append_right _ (List.mem_append_left _ h))))))))
theorem rx_g8 (i : Nat) {w : Cond} (h : (tables_1_8)[i]? = some w) (hg : goodWord w = true) : w ∈ rx_good := List.mem_filter.mpr ⟨rx_c8 (List.mem_of_getElem? h), hg⟩
theorem rx_n8 (i : Nat) {w : Cond} (h : (tables_1_8)[i]? = some w) (hg : rx_isNest w = true) : w ∈ rx_nest := List.mem_filter.mpr ⟨rx_c8 (List.mem_of_getElem? h), hg⟩
theorem rx_c9 {w : Cond} (h : w ∈ tables_1_9) : w ∈ lw_tbl := List.mem_append_right _ (show w ∈ tables_1 from List.mem_append_right _ (List.mem_append_right _ (List.mem_append_right _ (List.mem_append_right _ (List.mem_append_right _ (List.mem_append_right _ (List.mem_append_right _ (List.mem_append_right _ (h)))))))))
theorem rx_g9 (i : Nat) {w : Cond} (h : (tables_1_9)[i]? = some w) (hg : goodWord w = true) : w ∈ rx_good := List.mem_filter.mpr ⟨rx_c9 (List.mem_of_getElem? h), hg⟩
theorem rx_n9 (i : Nat) {w : Cond} (h : (tables_1_9)[i]? = some w) (hg : rx_isNest w = true) : w ∈ rx_nest := List.mem_filter.mpr ⟨rx_c9 (List.mem_of_getElem? h), hg⟩
theorem rx_gl {ws : List Cond} (ps : List Nat) (hp : ws = ps.filterMap (fun i => lw_tbl[i]?)) (h : ws.all goodWord = true) : ∀ w ∈ ws, w ∈ rx_good := fun w hw => by
  have h1 := List.all_eq_true.mp h w hw
  rw [hp] at hw
  obtain ⟨i, -, hi⟩ := List.mem_filterMap.mp hw
  exact List.mem_filter.mpr ⟨List.mem_of_getElem? hi, h1⟩
theorem in_X1 : ∀ w ∈ u_ws RX1 TX1 3, w ∈ rx_good := rx_gl [382, 384, 386] (by decide +kernel) (by decide +kernel)
theorem in_X2 : ∀ w ∈ u_ws RX2 TX2 15, w ∈ rx_good := rx_gl [338, 340, 342, 344, 346, 348, 350, 352, 354, 356, 358, 360, 362, 364, 366] (by decide +kernel) (by decide +kernel)
theorem in_X3 : ∀ w ∈ u_ws RX3 TX3 3, w ∈ rx_good := rx_gl [305, 307, 309] (by decide +kernel) (by decide +kernel)
theorem in_X4 : ∀ w ∈ u_ws RX4 TX4 4, w ∈ rx_good := rx_gl [401, 403, 405, 407] (by decide +kernel) (by decide +kernel)
theorem in_X5 : ∀ w ∈ u_ws RX5 TX5 14, w ∈ rx_good := rx_gl [259, 261, 263, 265, 267, 269, 271, 273, 275, 277, 279, 281, 283, 285] (by decide +kernel) (by decide +kernel)
theorem in_X6 : ∀ w ∈ u_ws RX6 TX6 9, w ∈ rx_good := rx_gl [206, 208, 210, 212, 214, 216, 218, 220, 222] (by decide +kernel) (by decide +kernel)
theorem in_X7 : ∀ w ∈ u_ws RX7 TX7 0, w ∈ rx_good := rx_gl [] (by decide +kernel) (by decide +kernel)
theorem in_X8 : ∀ w ∈ u_ws RX8 TX8 11, w ∈ rx_good := rx_gl [461, 463, 465, 467, 469, 471, 473, 475, 477, 479, 481] (by decide +kernel) (by decide +kernel)
theorem in_X9 : ∀ w ∈ u_ws RX9 TX9 21, w ∈ rx_good := rx_gl [1584, 1586, 1588, 1590, 1592, 1594, 1596, 1598, 1600, 1602, 1604, 1606, 1608, 1610, 1612, 1614, 1616, 1618, 1620, 1622, 1624] (by decide +kernel) (by decide +kernel)
set_option maxRecDepth 100000 in
theorem f_X6_9 : rx_F RX6 9 5 0 := ⟨RX6, TX6, 9, rfl, in_X6, by decide, (rx_g1 38 rfl rfl)⟩
set_option maxRecDepth 100000 in
theorem f_X8_73 : rx_FN RX8 73 5 1 := ⟨RX6, TX6, 9, "BeggarKings", rfl, in_X6, by decide, (rx_n1 39 rfl rfl)⟩
set_option maxRecDepth 100000 in
theorem f_X6_19 : rx_F RX6 19 5 1 := ⟨RX6, TX6, 9, rfl, in_X6, by decide, (rx_g1 40 rfl rfl)⟩
set_option maxRecDepth 100000 in
theorem f_X6_29 : rx_F RX6 29 5 2 := ⟨RX6, TX6, 9, rfl, in_X6, by decide, (rx_g1 41 rfl rfl)⟩
set_option maxRecDepth 100000 in
theorem f_X6_41 : rx_F RX6 41 5 3 := ⟨RX6, TX6, 9, rfl, in_X6, by decide, (rx_g1 42 rfl rfl)⟩
set_option maxRecDepth 100000 in
theorem f_X6_38 : rx_F RX6 38 5 4 := ⟨RX6, TX6, 9, rfl, in_X6, by decide, (rx_g1 43 rfl rfl)⟩
set_option maxRecDepth 100000 in
theorem f_X6_32 : rx_F RX6 32 5 5 := ⟨RX6, TX6, 9, rfl, in_X6, by decide, (rx_g1 44 rfl rfl)⟩
set_option maxRecDepth 100000 in
theorem f_X6_66 : rx_F RX6 66 5 6 := ⟨RX6, TX6, 9, rfl, in_X6, by decide, (rx_g1 45 rfl rfl)⟩
set_option maxRecDepth 100000 in
theorem f_X6_26 : rx_F RX6 26 5 7 := ⟨RX6, TX6, 9, rfl, in_X6, by decide, (rx_g1 46 rfl rfl)⟩
set_option maxRecDepth 100000 in
theorem f_X8_114 : rx_FN RX8 114 5 7 := ⟨RX6, TX6, 9, "BeggarKings", rfl, in_X6, by decide, (rx_n1 47 rfl rfl)⟩
set_option maxRecDepth 100000 in
theorem f_X6_15 : rx_F RX6 15 5 8 := ⟨RX6, TX6, 9, rfl, in_X6, by decide, (rx_g1 48 rfl rfl)⟩
set_option maxRecDepth 100000 in
theorem f_X8_117 : rx_FN RX8 117 5 8 := ⟨RX6, TX6, 9, "BeggarKings", rfl, in_X6, by decide, (rx_n1 49 rfl rfl)⟩
set_option maxRecDepth 100000 in
theorem f_X5_36 : rx_F RX5 36 4 0 := ⟨RX5, TX5, 14, rfl, in_X5, by decide, (rx_g1 76 rfl rfl)⟩
set_option maxRecDepth 100000 in
theorem f_X2_57 : rx_FN RX2 57 4 0 := ⟨RX5, TX5, 14, "BeggarKings", rfl, in_X5, by decide, (rx_n1 77 rfl rfl)⟩
set_option maxRecDepth 100000 in
theorem f_X5_40 : rx_F RX5 40 4 1 := ⟨RX5, TX5, 14, rfl, in_X5, by decide, (rx_g1 78 rfl rfl)⟩
set_option maxRecDepth 100000 in
theorem f_X2_170 : rx_FN RX2 170 4 1 := ⟨RX5, TX5, 14, "BeggarKings", rfl, in_X5, by decide, (rx_n1 79 rfl rfl)⟩
set_option maxRecDepth 100000 in
theorem f_X5_43 : rx_F RX5 43 4 2 := ⟨RX5, TX5, 14, rfl, in_X5, by decide, (rx_g1 80 rfl rfl)⟩
set_option maxRecDepth 100000 in
theorem f_X5_46 : rx_F RX5 46 4 3 := ⟨RX5, TX5, 14, rfl, in_X5, by decide, (rx_g1 81 rfl rfl)⟩
set_option maxRecDepth 100000 in
theorem f_X5_49 : rx_F RX5 49 4 4 := ⟨RX5, TX5, 14, rfl, in_X5, by decide, (rx_g1 82 rfl rfl)⟩
set_option maxRecDepth 100000 in
theorem f_X8_111 : rx_FN RX8 111 4 4 := ⟨RX5, TX5, 14, "BeggarKings", rfl, in_X5, by decide, (rx_n1 83 rfl rfl)⟩
set_option maxRecDepth 100000 in
theorem f_X2_88 : rx_FN RX2 88 4 4 := ⟨RX5, TX5, 14, "BeggarKings", rfl, in_X5, by decide, (rx_n1 84 rfl rfl)⟩
set_option maxRecDepth 100000 in
theorem f_X5_52 : rx_F RX5 52 4 5 := ⟨RX5, TX5, 14, rfl, in_X5, by decide, (rx_g1 85 rfl rfl)⟩
set_option maxRecDepth 100000 in
theorem f_X2_139 : rx_FN RX2 139 4 5 := ⟨RX5, TX5, 14, "BeggarKings", rfl, in_X5, by decide, (rx_n1 86 rfl rfl)⟩
set_option maxRecDepth 100000 in
theorem f_X8_244 : rx_FN RX8 244 4 5 := ⟨RX5, TX5, 14, "BeggarKings", rfl, in_X5, by decide, (rx_n1 87 rfl rfl)⟩
set_option maxRecDepth 100000 in
theorem f_X5_9 : rx_F RX5 9 4 6 := ⟨RX5, TX5, 14, rfl, in_X5, by decide, (rx_g1 88 rfl rfl)⟩
set_option maxRecDepth 100000 in
theorem f_X2_98 : rx_FN RX2 98 4 6 := ⟨RX5, TX5, 14, "BeggarKings", rfl, in_X5, by decide, (rx_n1 89 rfl rfl)⟩
set_option maxRecDepth 100000 in
theorem f_X5_15 : rx_F RX5 15 4 7 := ⟨RX5, TX5, 14, rfl, in_X5, by decide, (rx_g1 90 rfl rfl)⟩
set_option maxRecDepth 100000 in
theorem f_X2_73 : rx_FN RX2 73 4 7 := ⟨RX5, TX5, 14, "BeggarKings", rfl, in_X5, by decide, (rx_n1 91 rfl rfl)⟩
set_option maxRecDepth 100000 in
theorem f_X5_18 : rx_F RX5 18 4 8 := ⟨RX5, TX5, 14, rfl, in_X5, by decide, (rx_g1 92 rfl rfl)⟩
set_option maxRecDepth 100000 in
theorem f_X2_78 : rx_FN RX2 78 4 8 := ⟨RX5, TX5, 14, "BeggarKings", rfl, in_X5, by decide, (rx_n1 93 rfl rfl)⟩
set_option maxRecDepth 100000 in
theorem f_X5_21 : rx_F RX5 21 4 9 := ⟨RX5, TX5, 14, rfl, in_X5, by decide, (rx_g1 94 rfl rfl)⟩
set_option maxRecDepth 100000 in
theorem f_X2_79 : rx_FN RX2 79 4 9 := ⟨RX5, TX5, 14, "BeggarKings", rfl, in_X5, by decide, (rx_n1 95 rfl rfl)⟩
set_option maxRecDepth 100000 in
theorem f_X5_24 : rx_F RX5 24 4 10 := ⟨RX5, TX5, 14, rfl, in_X5, by decide, (rx_g1 96 rfl rfl)⟩
set_option maxRecDepth 100000 in
theorem f_X2_95 : rx_FN RX2 95 4 10 := ⟨RX5, TX5, 14, "BeggarKings", rfl, in_X5, by decide, (rx_n1 97 rfl rfl)⟩
set_option maxRecDepth 100000 in
theorem f_X8_167 : rx_FN RX8 167 4 10 := ⟨RX5, TX5, 14, "BeggarKings", rfl, in_X5, by decide, (rx_n1 98 rfl rfl)⟩
set_option maxRecDepth 100000 in
theorem f_X5_27 : rx_F RX5 27 4 11 := ⟨RX5, TX5, 14, rfl, in_X5, by decide, (rx_g1 99 rfl rfl)⟩
set_option maxRecDepth 100000 in
theorem f_X5_30 : rx_F RX5 30 4 12 := ⟨RX5, TX5, 14, rfl, in_X5, by decide, (rx_g1 100 rfl rfl)⟩
set_option maxRecDepth 100000 in
theorem f_X5_33 : rx_F RX5 33 4 13 := ⟨RX5, TX5, 14, rfl, in_X5, by decide, (rx_g1 101 rfl rfl)⟩
set_option maxRecDepth 100000 in
theorem f_X2_146 : rx_FN RX2 146 4 13 := ⟨RX5, TX5, 14, "BeggarKings", rfl, in_X5, by decide, (rx_n1 102 rfl rfl)⟩
set_option maxRecDepth 100000 in
theorem f_X3_9 : rx_F RX3 9 2 0 := ⟨RX3, TX3, 3, rfl, in_X3, by decide, (rx_g1 144 rfl rfl)⟩
set_option maxRecDepth 100000 in
theorem f_X3_15 : rx_F RX3 15 2 1 := ⟨RX3, TX3, 3, rfl, in_X3, by decide, (rx_g1 145 rfl rfl)⟩
set_option maxRecDepth 100000 in
theorem f_X3_18 : rx_F RX3 18 2 2 := ⟨RX3, TX3, 3, rfl, in_X3, by decide, (rx_g1 146 rfl rfl)⟩
set_option maxRecDepth 100000 in
theorem f_X2_70 : rx_FN RX2 70 2 2 := ⟨RX3, TX3, 3, "BeggarKings", rfl, in_X3, by decide, (rx_n1 147 rfl rfl)⟩
set_option maxRecDepth 100000 in
theorem f_X8_233 : rx_FN RX8 233 2 2 := ⟨RX3, TX3, 3, "BeggarKings", rfl, in_X3, by decide, (rx_n1 148 rfl rfl)⟩
set_option maxRecDepth 100000 in
theorem f_X2_49 : rx_F RX2 49 1 0 := ⟨RX2, TX2, 15, rfl, in_X2, by decide, (rx_g1 156 rfl rfl)⟩
set_option maxRecDepth 100000 in
theorem f_X2_53 : rx_F RX2 53 1 1 := ⟨RX2, TX2, 15, rfl, in_X2, by decide, (rx_g1 157 rfl rfl)⟩
set_option maxRecDepth 100000 in
theorem f_X8_120 : rx_FN RX8 120 1 1 := ⟨RX2, TX2, 15, "BeggarKings", rfl, in_X2, by decide, (rx_n1 158 rfl rfl)⟩
set_option maxRecDepth 100000 in
theorem f_X2_62 : rx_F RX2 62 1 2 := ⟨RX2, TX2, 15, rfl, in_X2, by decide, (rx_g1 159 rfl rfl)⟩
set_option maxRecDepth 100000 in
theorem f_X8_123 : rx_FN RX8 123 1 2 := ⟨RX2, TX2, 15, "BeggarKings", rfl, in_X2, by decide, (rx_n1 160 rfl rfl)⟩
set_option maxRecDepth 100000 in
theorem f_X2_63 : rx_F RX2 63 1 3 := ⟨RX2, TX2, 15, rfl, in_X2, by decide, (rx_g1 161 rfl rfl)⟩
set_option maxRecDepth 100000 in
theorem f_X8_126 : rx_FN RX8 126 1 3 := ⟨RX2, TX2, 15, "BeggarKings", rfl, in_X2, by decide, (rx_n1 162 rfl rfl)⟩
set_option maxRecDepth 100000 in
theorem f_X2_9 : rx_F RX2 9 1 4 := ⟨RX2, TX2, 15, rfl, in_X2, by decide, (rx_g1 163 rfl rfl)⟩
set_option maxRecDepth 100000 in
theorem f_X8_129 : rx_FN RX8 129 1 4 := ⟨RX2, TX2, 15, "BeggarKings", rfl, in_X2, by decide, (rx_n1 164 rfl rfl)⟩
set_option maxRecDepth 100000 in
theorem f_X2_15 : rx_F RX2 15 1 5 := ⟨RX2, TX2, 15, rfl, in_X2, by decide, (rx_g1 165 rfl rfl)⟩
set_option maxRecDepth 100000 in
theorem f_X8_155 : rx_FN RX8 155 1 5 := ⟨RX2, TX2, 15, "BeggarKings", rfl, in_X2, by decide, (rx_n1 166 rfl rfl)⟩
set_option maxRecDepth 100000 in
theorem f_X2_18 : rx_F RX2 18 1 6 := ⟨RX2, TX2, 15, rfl, in_X2, by decide, (rx_g1 167 rfl rfl)⟩
set_option maxRecDepth 100000 in
theorem f_X8_158 : rx_FN RX8 158 1 6 := ⟨RX2, TX2, 15, "BeggarKings", rfl, in_X2, by decide, (rx_n1 168 rfl rfl)⟩
set_option maxRecDepth 100000 in
theorem f_X2_21 : rx_F RX2 21 1 7 := ⟨RX2, TX2, 15, rfl, in_X2, by decide, (rx_g1 169 rfl rfl)⟩
set_option maxRecDepth 100000 in
theorem f_X8_161 : rx_FN RX8 161 1 7 := ⟨RX2, TX2, 15, "BeggarKings", rfl, in_X2, by decide, (rx_n1 170 rfl rfl)⟩
set_option maxRecDepth 100000 in
theorem f_X2_24 : rx_F RX2 24 1 8 := ⟨RX2, TX2, 15, rfl, in_X2, by decide, (rx_g1 171 rfl rfl)⟩
set_option maxRecDepth 100000 in
theorem f_X8_164 : rx_FN RX8 164 1 8 := ⟨RX2, TX2, 15, "BeggarKings", rfl, in_X2, by decide, (rx_n1 172 rfl rfl)⟩
set_option maxRecDepth 100000 in
theorem f_X2_27 : rx_F RX2 27 1 9 := ⟨RX2, TX2, 15, rfl, in_X2, by decide, (rx_g1 173 rfl rfl)⟩
set_option maxRecDepth 100000 in
theorem f_X8_173 : rx_FN RX8 173 1 9 := ⟨RX2, TX2, 15, "BeggarKings", rfl, in_X2, by decide, (rx_n1 174 rfl rfl)⟩
set_option maxRecDepth 100000 in
theorem f_X2_30 : rx_F RX2 30 1 10 := ⟨RX2, TX2, 15, rfl, in_X2, by decide, (rx_g1 175 rfl rfl)⟩
set_option maxRecDepth 100000 in
theorem f_X8_214 : rx_FN RX8 214 1 10 := ⟨RX2, TX2, 15, "BeggarKings", rfl, in_X2, by decide, (rx_n1 176 rfl rfl)⟩
set_option maxRecDepth 100000 in
theorem f_X2_33 : rx_F RX2 33 1 11 := ⟨RX2, TX2, 15, rfl, in_X2, by decide, (rx_g1 177 rfl rfl)⟩
set_option maxRecDepth 100000 in
theorem f_X2_36 : rx_F RX2 36 1 12 := ⟨RX2, TX2, 15, rfl, in_X2, by decide, (rx_g1 178 rfl rfl)⟩
set_option maxRecDepth 100000 in
theorem f_X8_220 : rx_FN RX8 220 1 12 := ⟨RX2, TX2, 15, "BeggarKings", rfl, in_X2, by decide, (rx_n1 179 rfl rfl)⟩
set_option maxRecDepth 100000 in
theorem f_X2_42 : rx_F RX2 42 1 13 := ⟨RX2, TX2, 15, rfl, in_X2, by decide, (rx_g1 180 rfl rfl)⟩
set_option maxRecDepth 100000 in
theorem f_X2_46 : rx_F RX2 46 1 14 := ⟨RX2, TX2, 15, rfl, in_X2, by decide, (rx_g1 181 rfl rfl)⟩
set_option maxRecDepth 100000 in
theorem f_X1_11 : rx_F RX1 11 0 0 := ⟨RX1, TX1, 3, rfl, in_X1, by decide, (rx_g1 222 rfl rfl)⟩
set_option maxRecDepth 100000 in
theorem f_X1_24 : rx_F RX1 24 0 1 := ⟨RX1, TX1, 3, rfl, in_X1, by decide, (rx_g1 223 rfl rfl)⟩
set_option maxRecDepth 100000 in
theorem f_X1_20 : rx_F RX1 20 0 2 := ⟨RX1, TX1, 3, rfl, in_X1, by decide, (rx_g1 224 rfl rfl)⟩
set_option maxRecDepth 100000 in
theorem f_X8_372 : rx_FN RX8 372 0 2 := ⟨RX1, TX1, 3, "BeggarKings", rfl, in_X1, by decide, (rx_n1 225 rfl rfl)⟩
set_option maxRecDepth 100000 in
theorem f_X4_11 : rx_F RX4 11 3 0 := ⟨RX4, TX4, 4, rfl, in_X4, by decide, (rx_g2 1 rfl rfl)⟩
set_option maxRecDepth 100000 in
theorem f_X4_17 : rx_F RX4 17 3 1 := ⟨RX4, TX4, 4, rfl, in_X4, by decide, (rx_g2 2 rfl rfl)⟩
set_option maxRecDepth 100000 in
theorem f_X4_21 : rx_F RX4 21 3 2 := ⟨RX4, TX4, 4, rfl, in_X4, by decide, (rx_g2 3 rfl rfl)⟩
set_option maxRecDepth 100000 in
theorem f_X4_24 : rx_F RX4 24 3 3 := ⟨RX4, TX4, 4, rfl, in_X4, by decide, (rx_g2 4 rfl rfl)⟩
set_option maxRecDepth 100000 in
theorem f_X8_10 : rx_F RX8 10 7 0 := ⟨RX8, TX8, 11, rfl, in_X8, by decide, (rx_g2 54 rfl rfl)⟩
set_option maxRecDepth 100000 in
theorem f_X8_19 : rx_F RX8 19 7 1 := ⟨RX8, TX8, 11, rfl, in_X8, by decide, (rx_g2 55 rfl rfl)⟩
set_option maxRecDepth 100000 in
theorem f_X8_23 : rx_F RX8 23 7 2 := ⟨RX8, TX8, 11, rfl, in_X8, by decide, (rx_g2 56 rfl rfl)⟩
set_option maxRecDepth 100000 in
theorem f_X8_31 : rx_F RX8 31 7 3 := ⟨RX8, TX8, 11, rfl, in_X8, by decide, (rx_g2 57 rfl rfl)⟩
set_option maxRecDepth 100000 in
theorem f_X8_35 : rx_F RX8 35 7 4 := ⟨RX8, TX8, 11, rfl, in_X8, by decide, (rx_g2 58 rfl rfl)⟩
set_option maxRecDepth 100000 in
theorem f_X8_38 : rx_F RX8 38 7 5 := ⟨RX8, TX8, 11, rfl, in_X8, by decide, (rx_g2 59 rfl rfl)⟩
set_option maxRecDepth 100000 in
theorem f_X8_44 : rx_F RX8 44 7 6 := ⟨RX8, TX8, 11, rfl, in_X8, by decide, (rx_g2 60 rfl rfl)⟩
set_option maxRecDepth 100000 in
theorem f_X8_51 : rx_F RX8 51 7 7 := ⟨RX8, TX8, 11, rfl, in_X8, by decide, (rx_g2 61 rfl rfl)⟩
set_option maxRecDepth 100000 in
theorem f_X8_55 : rx_F RX8 55 7 8 := ⟨RX8, TX8, 11, rfl, in_X8, by decide, (rx_g2 62 rfl rfl)⟩
set_option maxRecDepth 100000 in
theorem f_X8_358 : rx_F RX8 358 7 9 := ⟨RX8, TX8, 11, rfl, in_X8, by decide, (rx_g2 63 rfl rfl)⟩
set_option maxRecDepth 100000 in
theorem f_X8_107 : rx_F RX8 107 7 10 := ⟨RX8, TX8, 11, rfl, in_X8, by decide, (rx_g2 64 rfl rfl)⟩
set_option maxRecDepth 100000 in
theorem f_X9_1 : rx_F RX9 1 8 0 := ⟨RX9, TX9, 21, rfl, in_X9, by decide, (rx_g6 207 rfl rfl)⟩
set_option maxRecDepth 100000 in
theorem f_X9_13 : rx_F RX9 13 8 1 := ⟨RX9, TX9, 21, rfl, in_X9, by decide, (rx_g6 208 rfl rfl)⟩
set_option maxRecDepth 100000 in
theorem f_X9_17 : rx_F RX9 17 8 2 := ⟨RX9, TX9, 21, rfl, in_X9, by decide, (rx_g6 209 rfl rfl)⟩
set_option maxRecDepth 100000 in
theorem f_X9_20 : rx_F RX9 20 8 3 := ⟨RX9, TX9, 21, rfl, in_X9, by decide, (rx_g6 210 rfl rfl)⟩
set_option maxRecDepth 100000 in
theorem f_X9_23 : rx_F RX9 23 8 4 := ⟨RX9, TX9, 21, rfl, in_X9, by decide, (rx_g6 211 rfl rfl)⟩
set_option maxRecDepth 100000 in
theorem f_X9_26 : rx_F RX9 26 8 5 := ⟨RX9, TX9, 21, rfl, in_X9, by decide, (rx_g6 212 rfl rfl)⟩
set_option maxRecDepth 100000 in
theorem f_X9_253 : rx_F RX9 253 8 6 := ⟨RX9, TX9, 21, rfl, in_X9, by decide, (rx_g6 213 rfl rfl)⟩
set_option maxRecDepth 100000 in
theorem f_X9_256 : rx_F RX9 256 8 7 := ⟨RX9, TX9, 21, rfl, in_X9, by decide, (rx_g6 214 rfl rfl)⟩
set_option maxRecDepth 100000 in
theorem f_X9_29 : rx_F RX9 29 8 8 := ⟨RX9, TX9, 21, rfl, in_X9, by decide, (rx_g6 215 rfl rfl)⟩
set_option maxRecDepth 100000 in
theorem f_X9_53 : rx_F RX9 53 8 9 := ⟨RX9, TX9, 21, rfl, in_X9, by decide, (rx_g6 216 rfl rfl)⟩
set_option maxRecDepth 100000 in
theorem f_X9_163 : rx_F RX9 163 8 10 := ⟨RX9, TX9, 21, rfl, in_X9, by decide, (rx_g6 217 rfl rfl)⟩
set_option maxRecDepth 100000 in
theorem f_X9_169 : rx_F RX9 169 8 11 := ⟨RX9, TX9, 21, rfl, in_X9, by decide, (rx_g6 218 rfl rfl)⟩
set_option maxRecDepth 100000 in
theorem f_X9_181 : rx_F RX9 181 8 12 := ⟨RX9, TX9, 21, rfl, in_X9, by decide, (rx_g6 219 rfl rfl)⟩
set_option maxRecDepth 100000 in
theorem f_X9_178 : rx_F RX9 178 8 13 := ⟨RX9, TX9, 21, rfl, in_X9, by decide, (rx_g6 220 rfl rfl)⟩
set_option maxRecDepth 100000 in
theorem f_X9_166 : rx_F RX9 166 8 14 := ⟨RX9, TX9, 21, rfl, in_X9, by decide, (rx_g6 221 rfl rfl)⟩
set_option maxRecDepth 100000 in
theorem f_X9_160 : rx_F RX9 160 8 15 := ⟨RX9, TX9, 21, rfl, in_X9, by decide, (rx_g6 222 rfl rfl)⟩
set_option maxRecDepth 100000 in
theorem f_X9_32 : rx_F RX9 32 8 16 := ⟨RX9, TX9, 21, rfl, in_X9, by decide, (rx_g6 223 rfl rfl)⟩
set_option maxRecDepth 100000 in
theorem f_X9_35 : rx_F RX9 35 8 17 := ⟨RX9, TX9, 21, rfl, in_X9, by decide, (rx_g6 224 rfl rfl)⟩
set_option maxRecDepth 100000 in
theorem f_X9_340 : rx_F RX9 340 8 18 := ⟨RX9, TX9, 21, rfl, in_X9, by decide, (rx_g6 225 rfl rfl)⟩
set_option maxRecDepth 100000 in
theorem f_X9_38 : rx_F RX9 38 8 19 := ⟨RX9, TX9, 21, rfl, in_X9, by decide, (rx_g6 226 rfl rfl)⟩
set_option maxRecDepth 100000 in
theorem f_X9_355 : rx_F RX9 355 8 20 := ⟨RX9, TX9, 21, rfl, in_X9, by decide, (rx_g6 227 rfl rfl)⟩
theorem t_X1_0 : rx_FT 0 0 (.array (.object "BeggarKings$Position")) true := ⟨RX1, TX1, 3, tyX1, rfl, tyX1_ok, nmX1, rfl, by decide +kernel, fun _ => rfl⟩
theorem t_X1_1 : rx_FT 0 1 .int false := ⟨RX1, TX1, 3, tyX1, rfl, tyX1_ok, nmX1, rfl, by decide +kernel, fun h => by cases h⟩
theorem t_X1_2 : rx_FT 0 2 .int false := ⟨RX1, TX1, 3, tyX1, rfl, tyX1_ok, nmX1, rfl, by decide +kernel, fun h => by cases h⟩
theorem t_X2_0 : rx_FT 1 0 (.object "BeggarKings$Setting") true := ⟨RX2, TX2, 15, tyX2, rfl, tyX2_ok, nmX2, rfl, by decide +kernel, fun _ => rfl⟩
theorem t_X2_1 : rx_FT 1 1 .int false := ⟨RX2, TX2, 15, tyX2, rfl, tyX2_ok, nmX2, rfl, by decide +kernel, fun h => by cases h⟩
theorem t_X2_2 : rx_FT 1 2 .int false := ⟨RX2, TX2, 15, tyX2, rfl, tyX2_ok, nmX2, rfl, by decide +kernel, fun h => by cases h⟩
theorem t_X2_3 : rx_FT 1 3 .int false := ⟨RX2, TX2, 15, tyX2, rfl, tyX2_ok, nmX2, rfl, by decide +kernel, fun h => by cases h⟩
theorem t_X2_4 : rx_FT 1 4 (.array .int) true := ⟨RX2, TX2, 15, tyX2, rfl, tyX2_ok, nmX2, rfl, by decide +kernel, fun _ => rfl⟩
theorem t_X2_5 : rx_FT 1 5 (.array .int) true := ⟨RX2, TX2, 15, tyX2, rfl, tyX2_ok, nmX2, rfl, by decide +kernel, fun _ => rfl⟩
theorem t_X2_6 : rx_FT 1 6 (.array .int) true := ⟨RX2, TX2, 15, tyX2, rfl, tyX2_ok, nmX2, rfl, by decide +kernel, fun _ => rfl⟩
theorem t_X2_7 : rx_FT 1 7 (.array .int) true := ⟨RX2, TX2, 15, tyX2, rfl, tyX2_ok, nmX2, rfl, by decide +kernel, fun _ => rfl⟩
theorem t_X2_8 : rx_FT 1 8 (.array .int) true := ⟨RX2, TX2, 15, tyX2, rfl, tyX2_ok, nmX2, rfl, by decide +kernel, fun _ => rfl⟩
theorem t_X2_9 : rx_FT 1 9 (.array .int) true := ⟨RX2, TX2, 15, tyX2, rfl, tyX2_ok, nmX2, rfl, by decide +kernel, fun _ => rfl⟩
theorem t_X2_10 : rx_FT 1 10 (.array .int) true := ⟨RX2, TX2, 15, tyX2, rfl, tyX2_ok, nmX2, rfl, by decide +kernel, fun _ => rfl⟩
theorem t_X2_11 : rx_FT 1 11 (.array .int) true := ⟨RX2, TX2, 15, tyX2, rfl, tyX2_ok, nmX2, rfl, by decide +kernel, fun _ => rfl⟩
theorem t_X2_12 : rx_FT 1 12 (.array .int) true := ⟨RX2, TX2, 15, tyX2, rfl, tyX2_ok, nmX2, rfl, by decide +kernel, fun _ => rfl⟩
theorem t_X2_13 : rx_FT 1 13 (.object "BeggarKings$Queue") true := ⟨RX2, TX2, 15, tyX2, rfl, tyX2_ok, nmX2, rfl, by decide +kernel, fun _ => rfl⟩
theorem t_X2_14 : rx_FT 1 14 (.object "BeggarKings$Queue") true := ⟨RX2, TX2, 15, tyX2, rfl, tyX2_ok, nmX2, rfl, by decide +kernel, fun _ => rfl⟩
theorem t_X3_0 : rx_FT 2 0 (.array .int) true := ⟨RX3, TX3, 3, tyX3, rfl, tyX3_ok, nmX3, rfl, by decide +kernel, fun _ => rfl⟩
theorem t_X3_1 : rx_FT 2 1 (.array .int) true := ⟨RX3, TX3, 3, tyX3, rfl, tyX3_ok, nmX3, rfl, by decide +kernel, fun _ => rfl⟩
theorem t_X3_2 : rx_FT 2 2 .int false := ⟨RX3, TX3, 3, tyX3, rfl, tyX3_ok, nmX3, rfl, by decide +kernel, fun h => by cases h⟩
theorem t_X4_0 : rx_FT 3 0 (.array (.object "BeggarKings$Verb")) true := ⟨RX4, TX4, 4, tyX4, rfl, tyX4_ok, nmX4, rfl, by decide +kernel, fun _ => rfl⟩
theorem t_X4_1 : rx_FT 3 1 (.array .int) true := ⟨RX4, TX4, 4, tyX4, rfl, tyX4_ok, nmX4, rfl, by decide +kernel, fun _ => rfl⟩
theorem t_X4_2 : rx_FT 3 2 (.array .int) true := ⟨RX4, TX4, 4, tyX4, rfl, tyX4_ok, nmX4, rfl, by decide +kernel, fun _ => rfl⟩
theorem t_X4_3 : rx_FT 3 3 .int false := ⟨RX4, TX4, 4, tyX4, rfl, tyX4_ok, nmX4, rfl, by decide +kernel, fun h => by cases h⟩
theorem t_X5_0 : rx_FT 4 0 .int false := ⟨RX5, TX5, 14, tyX5, rfl, tyX5_ok, nmX5, rfl, by decide +kernel, fun h => by cases h⟩
theorem t_X5_1 : rx_FT 4 1 .int false := ⟨RX5, TX5, 14, tyX5, rfl, tyX5_ok, nmX5, rfl, by decide +kernel, fun h => by cases h⟩
theorem t_X5_2 : rx_FT 4 2 .int false := ⟨RX5, TX5, 14, tyX5, rfl, tyX5_ok, nmX5, rfl, by decide +kernel, fun h => by cases h⟩
theorem t_X5_3 : rx_FT 4 3 .int false := ⟨RX5, TX5, 14, tyX5, rfl, tyX5_ok, nmX5, rfl, by decide +kernel, fun h => by cases h⟩
theorem t_X5_4 : rx_FT 4 4 .int false := ⟨RX5, TX5, 14, tyX5, rfl, tyX5_ok, nmX5, rfl, by decide +kernel, fun h => by cases h⟩
theorem t_X5_5 : rx_FT 4 5 .int false := ⟨RX5, TX5, 14, tyX5, rfl, tyX5_ok, nmX5, rfl, by decide +kernel, fun h => by cases h⟩
theorem t_X5_6 : rx_FT 4 6 (.array .int) true := ⟨RX5, TX5, 14, tyX5, rfl, tyX5_ok, nmX5, rfl, by decide +kernel, fun _ => rfl⟩
theorem t_X5_7 : rx_FT 4 7 (.array .int) true := ⟨RX5, TX5, 14, tyX5, rfl, tyX5_ok, nmX5, rfl, by decide +kernel, fun _ => rfl⟩
theorem t_X5_8 : rx_FT 4 8 (.array .int) true := ⟨RX5, TX5, 14, tyX5, rfl, tyX5_ok, nmX5, rfl, by decide +kernel, fun _ => rfl⟩
theorem t_X5_9 : rx_FT 4 9 (.array .int) true := ⟨RX5, TX5, 14, tyX5, rfl, tyX5_ok, nmX5, rfl, by decide +kernel, fun _ => rfl⟩
theorem t_X5_10 : rx_FT 4 10 (.array .int) true := ⟨RX5, TX5, 14, tyX5, rfl, tyX5_ok, nmX5, rfl, by decide +kernel, fun _ => rfl⟩
theorem t_X5_11 : rx_FT 4 11 (.array .int) true := ⟨RX5, TX5, 14, tyX5, rfl, tyX5_ok, nmX5, rfl, by decide +kernel, fun _ => rfl⟩
theorem t_X5_12 : rx_FT 4 12 (.array .int) true := ⟨RX5, TX5, 14, tyX5, rfl, tyX5_ok, nmX5, rfl, by decide +kernel, fun _ => rfl⟩
theorem t_X5_13 : rx_FT 4 13 (.array .int) true := ⟨RX5, TX5, 14, tyX5, rfl, tyX5_ok, nmX5, rfl, by decide +kernel, fun _ => rfl⟩
theorem t_X6_0 : rx_FT 5 0 (.array .int) true := ⟨RX6, TX6, 9, tyX6, rfl, tyX6_ok, nmX6, rfl, by decide +kernel, fun _ => rfl⟩
theorem t_X6_1 : rx_FT 5 1 .int false := ⟨RX6, TX6, 9, tyX6, rfl, tyX6_ok, nmX6, rfl, by decide +kernel, fun h => by cases h⟩
theorem t_X6_2 : rx_FT 5 2 .int false := ⟨RX6, TX6, 9, tyX6, rfl, tyX6_ok, nmX6, rfl, by decide +kernel, fun h => by cases h⟩
theorem t_X6_3 : rx_FT 5 3 .int false := ⟨RX6, TX6, 9, tyX6, rfl, tyX6_ok, nmX6, rfl, by decide +kernel, fun h => by cases h⟩
theorem t_X6_4 : rx_FT 5 4 .int false := ⟨RX6, TX6, 9, tyX6, rfl, tyX6_ok, nmX6, rfl, by decide +kernel, fun h => by cases h⟩
theorem t_X6_5 : rx_FT 5 5 .int false := ⟨RX6, TX6, 9, tyX6, rfl, tyX6_ok, nmX6, rfl, by decide +kernel, fun h => by cases h⟩
theorem t_X6_6 : rx_FT 5 6 .int false := ⟨RX6, TX6, 9, tyX6, rfl, tyX6_ok, nmX6, rfl, by decide +kernel, fun h => by cases h⟩
theorem t_X6_7 : rx_FT 5 7 .int false := ⟨RX6, TX6, 9, tyX6, rfl, tyX6_ok, nmX6, rfl, by decide +kernel, fun h => by cases h⟩
theorem t_X6_8 : rx_FT 5 8 .int false := ⟨RX6, TX6, 9, tyX6, rfl, tyX6_ok, nmX6, rfl, by decide +kernel, fun h => by cases h⟩
theorem t_X8_0 : rx_FT 7 0 (.object "BeggarKings$Text") true := ⟨RX8, TX8, 11, tyX8, rfl, tyX8_ok, nmX8, rfl, by decide +kernel, fun _ => rfl⟩
theorem t_X8_1 : rx_FT 7 1 (.object "BeggarKings$Setting") true := ⟨RX8, TX8, 11, tyX8, rfl, tyX8_ok, nmX8, rfl, by decide +kernel, fun _ => rfl⟩
theorem t_X8_2 : rx_FT 7 2 (.object "BeggarKings$Setting") true := ⟨RX8, TX8, 11, tyX8, rfl, tyX8_ok, nmX8, rfl, by decide +kernel, fun _ => rfl⟩
theorem t_X8_3 : rx_FT 7 3 (.object "BeggarKings$Position") true := ⟨RX8, TX8, 11, tyX8, rfl, tyX8_ok, nmX8, rfl, by decide +kernel, fun _ => rfl⟩
theorem t_X8_4 : rx_FT 7 4 (.object "BeggarKings$Position") true := ⟨RX8, TX8, 11, tyX8, rfl, tyX8_ok, nmX8, rfl, by decide +kernel, fun _ => rfl⟩
theorem t_X8_5 : rx_FT 7 5 (.object "BeggarKings$Position") true := ⟨RX8, TX8, 11, tyX8, rfl, tyX8_ok, nmX8, rfl, by decide +kernel, fun _ => rfl⟩
theorem t_X8_6 : rx_FT 7 6 (.object "BeggarKings$History") true := ⟨RX8, TX8, 11, tyX8, rfl, tyX8_ok, nmX8, rfl, by decide +kernel, fun _ => rfl⟩
theorem t_X8_7 : rx_FT 7 7 (.object "BeggarKings$Script") true := ⟨RX8, TX8, 11, tyX8, rfl, tyX8_ok, nmX8, rfl, by decide +kernel, fun _ => rfl⟩
theorem t_X8_8 : rx_FT 7 8 (.array .int) true := ⟨RX8, TX8, 11, tyX8, rfl, tyX8_ok, nmX8, rfl, by decide +kernel, fun _ => rfl⟩
theorem t_X8_9 : rx_FT 7 9 .int false := ⟨RX8, TX8, 11, tyX8, rfl, tyX8_ok, nmX8, rfl, by decide +kernel, fun h => by cases h⟩
theorem t_X8_10 : rx_FT 7 10 .boolean false := ⟨RX8, TX8, 11, tyX8, rfl, tyX8_ok, nmX8, rfl, by decide +kernel, fun h => by cases h⟩
theorem t_X9_0 : rx_FT 8 0 .int false := ⟨RX9, TX9, 21, tyX9, rfl, tyX9_ok, nmX9, rfl, by decide +kernel, fun h => by cases h⟩
theorem t_X9_1 : rx_FT 8 1 (.array .int) true := ⟨RX9, TX9, 21, tyX9, rfl, tyX9_ok, nmX9, rfl, by decide +kernel, fun _ => rfl⟩
theorem t_X9_2 : rx_FT 8 2 (.array .int) true := ⟨RX9, TX9, 21, tyX9, rfl, tyX9_ok, nmX9, rfl, by decide +kernel, fun _ => rfl⟩
theorem t_X9_3 : rx_FT 8 3 (.array .int) true := ⟨RX9, TX9, 21, tyX9, rfl, tyX9_ok, nmX9, rfl, by decide +kernel, fun _ => rfl⟩
theorem t_X9_4 : rx_FT 8 4 (.array .int) true := ⟨RX9, TX9, 21, tyX9, rfl, tyX9_ok, nmX9, rfl, by decide +kernel, fun _ => rfl⟩
theorem t_X9_5 : rx_FT 8 5 (.array .int) true := ⟨RX9, TX9, 21, tyX9, rfl, tyX9_ok, nmX9, rfl, by decide +kernel, fun _ => rfl⟩
theorem t_X9_6 : rx_FT 8 6 .int false := ⟨RX9, TX9, 21, tyX9, rfl, tyX9_ok, nmX9, rfl, by decide +kernel, fun h => by cases h⟩
theorem t_X9_7 : rx_FT 8 7 .boolean false := ⟨RX9, TX9, 21, tyX9, rfl, tyX9_ok, nmX9, rfl, by decide +kernel, fun h => by cases h⟩
theorem t_X9_8 : rx_FT 8 8 (.array .int) true := ⟨RX9, TX9, 21, tyX9, rfl, tyX9_ok, nmX9, rfl, by decide +kernel, fun _ => rfl⟩
theorem t_X9_9 : rx_FT 8 9 .int false := ⟨RX9, TX9, 21, tyX9, rfl, tyX9_ok, nmX9, rfl, by decide +kernel, fun h => by cases h⟩
theorem t_X9_10 : rx_FT 8 10 .int false := ⟨RX9, TX9, 21, tyX9, rfl, tyX9_ok, nmX9, rfl, by decide +kernel, fun h => by cases h⟩
theorem t_X9_11 : rx_FT 8 11 .int false := ⟨RX9, TX9, 21, tyX9, rfl, tyX9_ok, nmX9, rfl, by decide +kernel, fun h => by cases h⟩
theorem t_X9_12 : rx_FT 8 12 .int false := ⟨RX9, TX9, 21, tyX9, rfl, tyX9_ok, nmX9, rfl, by decide +kernel, fun h => by cases h⟩
theorem t_X9_13 : rx_FT 8 13 .int false := ⟨RX9, TX9, 21, tyX9, rfl, tyX9_ok, nmX9, rfl, by decide +kernel, fun h => by cases h⟩
theorem t_X9_14 : rx_FT 8 14 .int false := ⟨RX9, TX9, 21, tyX9, rfl, tyX9_ok, nmX9, rfl, by decide +kernel, fun h => by cases h⟩
theorem t_X9_15 : rx_FT 8 15 .int false := ⟨RX9, TX9, 21, tyX9, rfl, tyX9_ok, nmX9, rfl, by decide +kernel, fun h => by cases h⟩
theorem t_X9_16 : rx_FT 8 16 .int false := ⟨RX9, TX9, 21, tyX9, rfl, tyX9_ok, nmX9, rfl, by decide +kernel, fun h => by cases h⟩
theorem t_X9_17 : rx_FT 8 17 (.array .int) true := ⟨RX9, TX9, 21, tyX9, rfl, tyX9_ok, nmX9, rfl, by decide +kernel, fun _ => rfl⟩
theorem t_X9_18 : rx_FT 8 18 .int false := ⟨RX9, TX9, 21, tyX9, rfl, tyX9_ok, nmX9, rfl, by decide +kernel, fun h => by cases h⟩
theorem t_X9_19 : rx_FT 8 19 (.array .int) true := ⟨RX9, TX9, 21, tyX9, rfl, tyX9_ok, nmX9, rfl, by decide +kernel, fun _ => rfl⟩
theorem t_X9_20 : rx_FT 8 20 .int false := ⟨RX9, TX9, 21, tyX9, rfl, tyX9_ok, nmX9, rfl, by decide +kernel, fun h => by cases h⟩
set_option maxRecDepth 100000 in
theorem Y_X1_init : rx_Y yX1_init cX1_init 3 none 1 := ⟨(rx_g1 217 rfl rfl), (rx_g1 6 rfl rfl), (by decide +kernel), (by decide +kernel), (by decide +kernel)⟩
set_option maxRecDepth 100000 in
theorem I_X1_init : Cond.instanceMethod yX1_init ∈ rx_good := (rx_g1 216 rfl rfl)
set_option maxRecDepth 100000 in
theorem Y_X1_clear : rx_Y yX1_clear cX1_clear 1 none 0 := ⟨(rx_g4 29 rfl rfl), (rx_g1 6 rfl rfl), (by decide +kernel), (by decide +kernel), (by decide +kernel)⟩
set_option maxRecDepth 100000 in
theorem V_X1_clear : rx_YV yX1_clear := ⟨(rx_g4 28 rfl rfl), (rx_g0 43 rfl rfl)⟩
set_option maxRecDepth 100000 in
theorem Y_X1_push : rx_Y yX1_push cX1_push 3 none 1 := ⟨(rx_g5 145 rfl rfl), (rx_g1 6 rfl rfl), (by decide +kernel), (by decide +kernel), (by decide +kernel)⟩
set_option maxRecDepth 100000 in
theorem V_X1_push : rx_YV yX1_push := ⟨(rx_g5 144 rfl rfl), (rx_g0 70 rfl rfl)⟩
set_option maxRecDepth 100000 in
theorem Y_X1_pop : rx_Y yX1_pop cX1_pop 4 none 1 := ⟨(rx_g6 91 rfl rfl), (rx_g1 6 rfl rfl), (by decide +kernel), (by decide +kernel), (by decide +kernel)⟩
set_option maxRecDepth 100000 in
theorem V_X1_pop : rx_YV yX1_pop := ⟨(rx_g6 90 rfl rfl), (rx_g0 86 rfl rfl)⟩
set_option maxRecDepth 100000 in
theorem Y_X2_init : rx_Y yX2_init cX2_init 2 none 1 := ⟨(rx_g1 136 rfl rfl), (rx_g1 4 rfl rfl), (by decide +kernel), (by decide +kernel), (by decide +kernel)⟩
set_option maxRecDepth 100000 in
theorem I_X2_init : Cond.instanceMethod yX2_init ∈ rx_good := (rx_g1 135 rfl rfl)
set_option maxRecDepth 100000 in
theorem Y_X2_begin : rx_Y yX2_begin cX2_begin 2 none 0 := ⟨(rx_g2 32 rfl rfl), (rx_g1 4 rfl rfl), (by decide +kernel), (by decide +kernel), (by decide +kernel)⟩
set_option maxRecDepth 100000 in
theorem V_X2_begin : rx_YV yX2_begin := ⟨(rx_g2 31 rfl rfl), (rx_g0 3 rfl rfl)⟩
set_option maxRecDepth 100000 in
theorem Y_X2_copyFrom : rx_Y yX2_copyFrom cX2_copyFrom 2 none 1 := ⟨(rx_g3 42 rfl rfl), (rx_g1 4 rfl rfl), (by decide +kernel), (by decide +kernel), (by decide +kernel)⟩
set_option maxRecDepth 100000 in
theorem V_X2_copyFrom : rx_YV yX2_copyFrom := ⟨(rx_g3 41 rfl rfl), (rx_g0 26 rfl rfl)⟩
set_option maxRecDepth 100000 in
theorem Y_X2_peopleOn : rx_Y yX2_peopleOn cX2_peopleOn 4 (some .int) 1 := ⟨(rx_g2 144 rfl rfl), (rx_g1 4 rfl rfl), (by decide +kernel), (by decide +kernel), (by decide +kernel)⟩
set_option maxRecDepth 100000 in
theorem V_X2_peopleOn : rx_YV yX2_peopleOn := ⟨(rx_g2 143 rfl rfl), (rx_g0 8 rfl rfl)⟩
set_option maxRecDepth 100000 in
theorem Y_X2_wearerOf : rx_Y yX2_wearerOf cX2_wearerOf 3 (some .int) 1 := ⟨(rx_g4 105 rfl rfl), (rx_g1 4 rfl rfl), (by decide +kernel), (by decide +kernel), (by decide +kernel)⟩
set_option maxRecDepth 100000 in
theorem V_X2_wearerOf : rx_YV yX2_wearerOf := ⟨(rx_g4 104 rfl rfl), (rx_g0 45 rfl rfl)⟩
set_option maxRecDepth 100000 in
theorem Y_X2_richestPerson : rx_Y yX2_richestPerson cX2_richestPerson 3 (some .int) 0 := ⟨(rx_g2 153 rfl rfl), (rx_g1 4 rfl rfl), (by decide +kernel), (by decide +kernel), (by decide +kernel)⟩
set_option maxRecDepth 100000 in
theorem V_X2_richestPerson : rx_YV yX2_richestPerson := ⟨(rx_g2 152 rfl rfl), (rx_g0 9 rfl rfl)⟩
set_option maxRecDepth 100000 in
theorem Y_X2_coinsInAll : rx_Y yX2_coinsInAll cX2_coinsInAll 3 (some .int) 0 := ⟨(rx_g3 5 rfl rfl), (rx_g1 4 rfl rfl), (by decide +kernel), (by decide +kernel), (by decide +kernel)⟩
set_option maxRecDepth 100000 in
theorem V_X2_coinsInAll : rx_YV yX2_coinsInAll := ⟨(rx_g3 4 rfl rfl), (rx_g0 21 rfl rfl)⟩
set_option maxRecDepth 100000 in
theorem Y_X2_royalCoinBank : rx_Y yX2_royalCoinBank cX2_royalCoinBank 3 (some .int) 1 := ⟨(rx_g4 192 rfl rfl), (rx_g1 4 rfl rfl), (by decide +kernel), (by decide +kernel), (by decide +kernel)⟩
set_option maxRecDepth 100000 in
theorem V_X2_royalCoinBank : rx_YV yX2_royalCoinBank := ⟨(rx_g4 191 rfl rfl), (rx_g0 52 rfl rfl)⟩
set_option maxRecDepth 100000 in
theorem Y_X2_royalCoinsOf : rx_Y yX2_royalCoinsOf cX2_royalCoinsOf 4 (some .int) 1 := ⟨(rx_g4 210 rfl rfl), (rx_g1 4 rfl rfl), (by decide +kernel), (by decide +kernel), (by decide +kernel)⟩
set_option maxRecDepth 100000 in
theorem V_X2_royalCoinsOf : rx_YV yX2_royalCoinsOf := ⟨(rx_g4 209 rfl rfl), (rx_g0 53 rfl rfl)⟩
set_option maxRecDepth 100000 in
theorem Y_X2_countedInAll : rx_Y yX2_countedInAll cX2_countedInAll 3 (some .int) 0 := ⟨(rx_g2 200 rfl rfl), (rx_g1 4 rfl rfl), (by decide +kernel), (by decide +kernel), (by decide +kernel)⟩
set_option maxRecDepth 100000 in
theorem V_X2_countedInAll : rx_YV yX2_countedInAll := ⟨(rx_g2 199 rfl rfl), (rx_g0 16 rfl rfl)⟩
set_option maxRecDepth 100000 in
theorem Y_X2_angleTo : rx_Y yX2_angleTo cX2_angleTo 5 (some .int) 2 := ⟨(rx_g4 124 rfl rfl), (rx_g1 4 rfl rfl), (by decide +kernel), (by decide +kernel), (by decide +kernel)⟩
set_option maxRecDepth 100000 in
theorem V_X2_angleTo : rx_YV yX2_angleTo := ⟨(rx_g4 123 rfl rfl), (rx_g0 46 rfl rfl)⟩
set_option maxRecDepth 100000 in
theorem Y_X2_keeperAngle : rx_Y yX2_keeperAngle cX2_keeperAngle 2 (some .int) 1 := ⟨(rx_g2 184 rfl rfl), (rx_g1 4 rfl rfl), (by decide +kernel), (by decide +kernel), (by decide +kernel)⟩
set_option maxRecDepth 100000 in
theorem V_X2_keeperAngle : rx_YV yX2_keeperAngle := ⟨(rx_g2 183 rfl rfl), (rx_g0 14 rfl rfl)⟩
set_option maxRecDepth 100000 in
theorem Y_X2_keeperAngleIn : rx_Y yX2_keeperAngleIn cX2_keeperAngleIn 3 (some .int) 2 := ⟨(rx_g2 169 rfl rfl), (rx_g1 4 rfl rfl), (by decide +kernel), (by decide +kernel), (by decide +kernel)⟩
set_option maxRecDepth 100000 in
theorem V_X2_keeperAngleIn : rx_YV yX2_keeperAngleIn := ⟨(rx_g2 168 rfl rfl), (rx_g0 12 rfl rfl)⟩
set_option maxRecDepth 100000 in
theorem Y_X2_angleOf : rx_Y yX2_angleOf cX2_angleOf 3 (some .int) 2 := ⟨(rx_g2 172 rfl rfl), (rx_g1 4 rfl rfl), (by decide +kernel), (by decide +kernel), (by decide +kernel)⟩
set_option maxRecDepth 100000 in
theorem S_X2_angleOf : Cond.static yX2_angleOf ∈ rx_good := (rx_g2 171 rfl rfl)
set_option maxRecDepth 100000 in
theorem Y_X2_looksKingly : rx_Y yX2_looksKingly cX2_looksKingly 2 (some .boolean) 1 := ⟨(rx_g2 165 rfl rfl), (rx_g1 4 rfl rfl), (by decide +kernel), (by decide +kernel), (by decide +kernel)⟩
set_option maxRecDepth 100000 in
theorem V_X2_looksKingly : rx_YV yX2_looksKingly := ⟨(rx_g2 164 rfl rfl), (rx_g0 11 rfl rfl)⟩
set_option maxRecDepth 100000 in
theorem Y_X2_tollNow : rx_Y yX2_tollNow cX2_tollNow 2 (some .int) 1 := ⟨(rx_g4 150 rfl rfl), (rx_g1 4 rfl rfl), (by decide +kernel), (by decide +kernel), (by decide +kernel)⟩
set_option maxRecDepth 100000 in
theorem V_X2_tollNow : rx_YV yX2_tollNow := ⟨(rx_g4 149 rfl rfl), (rx_g0 47 rfl rfl)⟩
set_option maxRecDepth 100000 in
theorem Y_X2_tollIn : rx_Y yX2_tollIn cX2_tollIn 3 (some .int) 2 := ⟨(rx_g4 154 rfl rfl), (rx_g1 4 rfl rfl), (by decide +kernel), (by decide +kernel), (by decide +kernel)⟩
set_option maxRecDepth 100000 in
theorem V_X2_tollIn : rx_YV yX2_tollIn := ⟨(rx_g4 153 rfl rfl), (rx_g0 48 rfl rfl)⟩
set_option maxRecDepth 100000 in
theorem Y_X2_misjudgedPeople : rx_Y yX2_misjudgedPeople cX2_misjudgedPeople 3 (some .int) 0 := ⟨(rx_g2 161 rfl rfl), (rx_g1 4 rfl rfl), (by decide +kernel), (by decide +kernel), (by decide +kernel)⟩
set_option maxRecDepth 100000 in
theorem V_X2_misjudgedPeople : rx_YV yX2_misjudgedPeople := ⟨(rx_g2 160 rfl rfl), (rx_g0 10 rfl rfl)⟩
set_option maxRecDepth 100000 in
theorem Y_X2_stiffestPerson : rx_Y yX2_stiffestPerson cX2_stiffestPerson 3 (some .int) 0 := ⟨(rx_g2 180 rfl rfl), (rx_g1 4 rfl rfl), (by decide +kernel), (by decide +kernel), (by decide +kernel)⟩
set_option maxRecDepth 100000 in
theorem V_X2_stiffestPerson : rx_YV yX2_stiffestPerson := ⟨(rx_g2 179 rfl rfl), (rx_g0 13 rfl rfl)⟩
set_option maxRecDepth 100000 in
theorem Y_X2_cheapestSet : rx_Y yX2_cheapestSet cX2_cheapestSet 4 (some .int) 1 := ⟨(rx_g4 169 rfl rfl), (rx_g1 4 rfl rfl), (by decide +kernel), (by decide +kernel), (by decide +kernel)⟩
set_option maxRecDepth 100000 in
theorem V_X2_cheapestSet : rx_YV yX2_cheapestSet := ⟨(rx_g4 168 rfl rfl), (rx_g0 50 rfl rfl)⟩
set_option maxRecDepth 100000 in
theorem Y_X2_sumOfAngles : rx_Y yX2_sumOfAngles cX2_sumOfAngles 3 (some .int) 0 := ⟨(rx_g2 192 rfl rfl), (rx_g1 4 rfl rfl), (by decide +kernel), (by decide +kernel), (by decide +kernel)⟩
set_option maxRecDepth 100000 in
theorem V_X2_sumOfAngles : rx_YV yX2_sumOfAngles := ⟨(rx_g2 191 rfl rfl), (rx_g0 15 rfl rfl)⟩
set_option maxRecDepth 100000 in
theorem Y_X2_queueOn : rx_Y yX2_queueOn cX2_queueOn 2 (some (.object "BeggarKings$Queue")) 1 := ⟨(rx_g2 212 rfl rfl), (rx_g1 4 rfl rfl), (by decide +kernel), (by decide +kernel), (by decide +kernel)⟩
set_option maxRecDepth 100000 in
theorem V_X2_queueOn : rx_YV yX2_queueOn := ⟨(rx_g2 211 rfl rfl), (rx_g0 17 rfl rfl)⟩
set_option maxRecDepth 100000 in
theorem Y_X2_offerOf : rx_Y yX2_offerOf cX2_offerOf 3 (some .int) 1 := ⟨(rx_g4 221 rfl rfl), (rx_g1 4 rfl rfl), (by decide +kernel), (by decide +kernel), (by decide +kernel)⟩
set_option maxRecDepth 100000 in
theorem V_X2_offerOf : rx_YV yX2_offerOf := ⟨(rx_g4 220 rfl rfl), (rx_g0 54 rfl rfl)⟩
set_option maxRecDepth 100000 in
theorem Y_X2_departureBank : rx_Y yX2_departureBank cX2_departureBank 1 (some .int) 0 := ⟨(rx_g5 24 rfl rfl), (rx_g1 4 rfl rfl), (by decide +kernel), (by decide +kernel), (by decide +kernel)⟩
set_option maxRecDepth 100000 in
theorem V_X2_departureBank : rx_YV yX2_departureBank := ⟨(rx_g5 23 rfl rfl), (rx_g0 58 rfl rfl)⟩
set_option maxRecDepth 100000 in
theorem Y_X2_passSeveral : rx_Y yX2_passSeveral cX2_passSeveral 4 (some .int) 1 := ⟨(rx_g5 66 rfl rfl), (rx_g1 4 rfl rfl), (by decide +kernel), (by decide +kernel), (by decide +kernel)⟩
set_option maxRecDepth 100000 in
theorem V_X2_passSeveral : rx_YV yX2_passSeveral := ⟨(rx_g5 65 rfl rfl), (rx_g0 64 rfl rfl)⟩
set_option maxRecDepth 100000 in
theorem Y_X2_passTurn : rx_Y yX2_passTurn cX2_passTurn 7 (some .int) 0 := ⟨(rx_g5 20 rfl rfl), (rx_g1 4 rfl rfl), (by decide +kernel), (by decide +kernel), (by decide +kernel)⟩
set_option maxRecDepth 100000 in
theorem V_X2_passTurn : rx_YV yX2_passTurn := ⟨(rx_g5 19 rfl rfl), (rx_g0 57 rfl rfl)⟩
set_option maxRecDepth 100000 in
theorem Y_X2_letFirstTry : rx_Y yX2_letFirstTry cX2_letFirstTry 5 (some .int) 1 := ⟨(rx_g5 29 rfl rfl), (rx_g1 4 rfl rfl), (by decide +kernel), (by decide +kernel), (by decide +kernel)⟩
set_option maxRecDepth 100000 in
theorem V_X2_letFirstTry : rx_YV yX2_letFirstTry := ⟨(rx_g5 28 rfl rfl), (rx_g0 59 rfl rfl)⟩
set_option maxRecDepth 100000 in
theorem Y_X2_countRoyalCoinsOf : rx_Y yX2_countRoyalCoinsOf cX2_countRoyalCoinsOf 3 none 1 := ⟨(rx_g5 42 rfl rfl), (rx_g1 4 rfl rfl), (by decide +kernel), (by decide +kernel), (by decide +kernel)⟩
set_option maxRecDepth 100000 in
theorem V_X2_countRoyalCoinsOf : rx_YV yX2_countRoyalCoinsOf := ⟨(rx_g5 41 rfl rfl), (rx_g0 61 rfl rfl)⟩
set_option maxRecDepth 100000 in
theorem Y_X2_learn : rx_Y yX2_learn cX2_learn 3 none 2 := ⟨(rx_g5 46 rfl rfl), (rx_g1 4 rfl rfl), (by decide +kernel), (by decide +kernel), (by decide +kernel)⟩
set_option maxRecDepth 100000 in
theorem V_X2_learn : rx_YV yX2_learn := ⟨(rx_g5 45 rfl rfl), (rx_g0 62 rfl rfl)⟩
set_option maxRecDepth 100000 in
theorem Y_X2_faultOf : rx_Y yX2_faultOf cX2_faultOf 4 (some .int) 3 := ⟨(rx_g5 101 rfl rfl), (rx_g1 4 rfl rfl), (by decide +kernel), (by decide +kernel), (by decide +kernel)⟩
set_option maxRecDepth 100000 in
theorem V_X2_faultOf : rx_YV yX2_faultOf := ⟨(rx_g5 100 rfl rfl), (rx_g0 66 rfl rfl)⟩
set_option maxRecDepth 100000 in
theorem Y_X2_isSound : rx_Y yX2_isSound cX2_isSound 4 (some .boolean) 3 := ⟨(rx_g5 106 rfl rfl), (rx_g1 4 rfl rfl), (by decide +kernel), (by decide +kernel), (by decide +kernel)⟩
set_option maxRecDepth 100000 in
theorem V_X2_isSound : rx_YV yX2_isSound := ⟨(rx_g5 105 rfl rfl), (rx_g0 67 rfl rfl)⟩
set_option maxRecDepth 100000 in
theorem Y_X2_isPossible : rx_Y yX2_isPossible cX2_isPossible 4 (some .boolean) 3 := ⟨(rx_g5 123 rfl rfl), (rx_g1 4 rfl rfl), (by decide +kernel), (by decide +kernel), (by decide +kernel)⟩
set_option maxRecDepth 100000 in
theorem V_X2_isPossible : rx_YV yX2_isPossible := ⟨(rx_g5 122 rfl rfl), (rx_g0 69 rfl rfl)⟩
set_option maxRecDepth 100000 in
theorem Y_X2_carryOut : rx_Y yX2_carryOut cX2_carryOut 4 none 3 := ⟨(rx_g6 62 rfl rfl), (rx_g1 4 rfl rfl), (by decide +kernel), (by decide +kernel), (by decide +kernel)⟩
set_option maxRecDepth 100000 in
theorem V_X2_carryOut : rx_YV yX2_carryOut := ⟨(rx_g6 61 rfl rfl), (rx_g0 85 rfl rfl)⟩
set_option maxRecDepth 100000 in
theorem Y_X2_drop : rx_Y yX2_drop cX2_drop 4 (some .int) 2 := ⟨(rx_g5 151 rfl rfl), (rx_g1 4 rfl rfl), (by decide +kernel), (by decide +kernel), (by decide +kernel)⟩
set_option maxRecDepth 100000 in
theorem V_X2_drop : rx_YV yX2_drop := ⟨(rx_g5 150 rfl rfl), (rx_g0 71 rfl rfl)⟩
set_option maxRecDepth 100000 in
theorem Y_X2_pick : rx_Y yX2_pick cX2_pick 3 (some .int) 2 := ⟨(rx_g5 164 rfl rfl), (rx_g1 4 rfl rfl), (by decide +kernel), (by decide +kernel), (by decide +kernel)⟩
set_option maxRecDepth 100000 in
theorem V_X2_pick : rx_YV yX2_pick := ⟨(rx_g5 163 rfl rfl), (rx_g0 72 rfl rfl)⟩
set_option maxRecDepth 100000 in
theorem Y_X2_lay : rx_Y yX2_lay cX2_lay 3 (some .int) 2 := ⟨(rx_g5 177 rfl rfl), (rx_g1 4 rfl rfl), (by decide +kernel), (by decide +kernel), (by decide +kernel)⟩
set_option maxRecDepth 100000 in
theorem V_X2_lay : rx_YV yX2_lay := ⟨(rx_g5 176 rfl rfl), (rx_g0 73 rfl rfl)⟩
set_option maxRecDepth 100000 in
theorem Y_X2_lift : rx_Y yX2_lift cX2_lift 3 (some .int) 2 := ⟨(rx_g5 191 rfl rfl), (rx_g1 4 rfl rfl), (by decide +kernel), (by decide +kernel), (by decide +kernel)⟩
set_option maxRecDepth 100000 in
theorem V_X2_lift : rx_YV yX2_lift := ⟨(rx_g5 190 rfl rfl), (rx_g0 74 rfl rfl)⟩
set_option maxRecDepth 100000 in
theorem Y_X2_swap : rx_Y yX2_swap cX2_swap 4 (some .int) 2 := ⟨(rx_g5 204 rfl rfl), (rx_g1 4 rfl rfl), (by decide +kernel), (by decide +kernel), (by decide +kernel)⟩
set_option maxRecDepth 100000 in
theorem V_X2_swap : rx_YV yX2_swap := ⟨(rx_g5 203 rfl rfl), (rx_g0 75 rfl rfl)⟩
set_option maxRecDepth 100000 in
theorem Y_X2_join : rx_Y yX2_join cX2_join 3 (some .int) 2 := ⟨(rx_g5 217 rfl rfl), (rx_g1 4 rfl rfl), (by decide +kernel), (by decide +kernel), (by decide +kernel)⟩
set_option maxRecDepth 100000 in
theorem V_X2_join : rx_YV yX2_join := ⟨(rx_g5 216 rfl rfl), (rx_g0 76 rfl rfl)⟩
set_option maxRecDepth 100000 in
theorem Y_X2_quit : rx_Y yX2_quit cX2_quit 5 (some .int) 1 := ⟨(rx_g5 234 rfl rfl), (rx_g1 4 rfl rfl), (by decide +kernel), (by decide +kernel), (by decide +kernel)⟩
set_option maxRecDepth 100000 in
theorem V_X2_quit : rx_YV yX2_quit := ⟨(rx_g5 233 rfl rfl), (rx_g0 78 rfl rfl)⟩
set_option maxRecDepth 100000 in
theorem Y_X2_changePride : rx_Y yX2_changePride cX2_changePride 4 (some .int) 2 := ⟨(rx_g6 7 rfl rfl), (rx_g1 4 rfl rfl), (by decide +kernel), (by decide +kernel), (by decide +kernel)⟩
set_option maxRecDepth 100000 in
theorem V_X2_changePride : rx_YV yX2_changePride := ⟨(rx_g6 6 rfl rfl), (rx_g0 79 rfl rfl)⟩
set_option maxRecDepth 100000 in
theorem Y_X3_init : rx_Y yX3_init cX3_init 1 none 0 := ⟨(rx_g1 142 rfl rfl), (rx_g1 5 rfl rfl), (by decide +kernel), (by decide +kernel), (by decide +kernel)⟩
set_option maxRecDepth 100000 in
theorem I_X3_init : Cond.instanceMethod yX3_init ∈ rx_good := (rx_g1 141 rfl rfl)
set_option maxRecDepth 100000 in
theorem Y_X3_copyFrom : rx_Y yX3_copyFrom cX3_copyFrom 2 none 1 := ⟨(rx_g3 46 rfl rfl), (rx_g1 5 rfl rfl), (by decide +kernel), (by decide +kernel), (by decide +kernel)⟩
set_option maxRecDepth 100000 in
theorem V_X3_copyFrom : rx_YV yX3_copyFrom := ⟨(rx_g3 45 rfl rfl), (rx_g0 27 rfl rfl)⟩
set_option maxRecDepth 100000 in
theorem Y_X3_personAt : rx_Y yX3_personAt cX3_personAt 2 (some .int) 1 := ⟨(rx_g2 220 rfl rfl), (rx_g1 5 rfl rfl), (by decide +kernel), (by decide +kernel), (by decide +kernel)⟩
set_option maxRecDepth 100000 in
theorem V_X3_personAt : rx_YV yX3_personAt := ⟨(rx_g2 219 rfl rfl), (rx_g0 18 rfl rfl)⟩
set_option maxRecDepth 100000 in
theorem Y_X3_offerAt : rx_Y yX3_offerAt cX3_offerAt 2 (some .int) 1 := ⟨(rx_g3 29 rfl rfl), (rx_g1 5 rfl rfl), (by decide +kernel), (by decide +kernel), (by decide +kernel)⟩
set_option maxRecDepth 100000 in
theorem V_X3_offerAt : rx_YV yX3_offerAt := ⟨(rx_g3 28 rfl rfl), (rx_g0 25 rfl rfl)⟩
set_option maxRecDepth 100000 in
theorem Y_X3_placeOf : rx_Y yX3_placeOf cX3_placeOf 3 (some .int) 1 := ⟨(rx_g4 226 rfl rfl), (rx_g1 5 rfl rfl), (by decide +kernel), (by decide +kernel), (by decide +kernel)⟩
set_option maxRecDepth 100000 in
theorem V_X3_placeOf : rx_YV yX3_placeOf := ⟨(rx_g4 225 rfl rfl), (rx_g0 55 rfl rfl)⟩
set_option maxRecDepth 100000 in
theorem Y_X3_insert : rx_Y yX3_insert cX3_insert 4 (some .int) 2 := ⟨(rx_g5 221 rfl rfl), (rx_g1 5 rfl rfl), (by decide +kernel), (by decide +kernel), (by decide +kernel)⟩
set_option maxRecDepth 100000 in
theorem V_X3_insert : rx_YV yX3_insert := ⟨(rx_g5 220 rfl rfl), (rx_g0 77 rfl rfl)⟩
set_option maxRecDepth 100000 in
theorem Y_X3_removeAt : rx_Y yX3_removeAt cX3_removeAt 3 none 1 := ⟨(rx_g5 34 rfl rfl), (rx_g1 5 rfl rfl), (by decide +kernel), (by decide +kernel), (by decide +kernel)⟩
set_option maxRecDepth 100000 in
theorem V_X3_removeAt : rx_YV yX3_removeAt := ⟨(rx_g5 33 rfl rfl), (rx_g0 60 rfl rfl)⟩
set_option maxRecDepth 100000 in
theorem Y_X3_offerToLead : rx_Y yX3_offerToLead cX3_offerToLead 4 (some .int) 1 := ⟨(rx_g5 7 rfl rfl), (rx_g1 5 rfl rfl), (by decide +kernel), (by decide +kernel), (by decide +kernel)⟩
set_option maxRecDepth 100000 in
theorem V_X3_offerToLead : rx_YV yX3_offerToLead := ⟨(rx_g5 6 rfl rfl), (rx_g0 56 rfl rfl)⟩
set_option maxRecDepth 100000 in
theorem Y_X4_init : rx_Y yX4_init cX4_init 1 none 0 := ⟨(rx_g1 237 rfl rfl), (rx_g1 7 rfl rfl), (by decide +kernel), (by decide +kernel), (by decide +kernel)⟩
set_option maxRecDepth 100000 in
theorem I_X4_init : Cond.instanceMethod yX4_init ∈ rx_good := (rx_g1 236 rfl rfl)
set_option maxRecDepth 100000 in
theorem Y_X4_read : rx_Y yX4_read cX4_read 3 none 1 := ⟨(rx_g6 27 rfl rfl), (rx_g1 7 rfl rfl), (by decide +kernel), (by decide +kernel), (by decide +kernel)⟩
set_option maxRecDepth 100000 in
theorem V_X4_read : rx_YV yX4_read := ⟨(rx_g6 26 rfl rfl), (rx_g0 80 rfl rfl)⟩
set_option maxRecDepth 100000 in
theorem Y_X4_readCommand : rx_Y yX4_readCommand cX4_readCommand 3 none 1 := ⟨(rx_g6 33 rfl rfl), (rx_g1 7 rfl rfl), (by decide +kernel), (by decide +kernel), (by decide +kernel)⟩
set_option maxRecDepth 100000 in
theorem V_X4_readCommand : rx_YV yX4_readCommand := ⟨(rx_g6 32 rfl rfl), (rx_g0 81 rfl rfl)⟩
set_option maxRecDepth 100000 in
theorem Y_X4_play : rx_Y yX4_play cX4_play 4 (some .int) 1 := ⟨(rx_g6 56 rfl rfl), (rx_g1 7 rfl rfl), (by decide +kernel), (by decide +kernel), (by decide +kernel)⟩
set_option maxRecDepth 100000 in
theorem V_X4_play : rx_YV yX4_play := ⟨(rx_g6 55 rfl rfl), (rx_g0 84 rfl rfl)⟩
set_option maxRecDepth 100000 in
theorem Y_X5_init : rx_Y yX5_init cX5_init 1 none 0 := ⟨(rx_g1 74 rfl rfl), (rx_g1 3 rfl rfl), (by decide +kernel), (by decide +kernel), (by decide +kernel)⟩
set_option maxRecDepth 100000 in
theorem I_X5_init : Cond.instanceMethod yX5_init ∈ rx_good := (rx_g1 73 rfl rfl)
set_option maxRecDepth 100000 in
theorem Y_X5_begin : rx_Y yX5_begin cX5_begin 5 none 4 := ⟨(rx_g2 17 rfl rfl), (rx_g1 3 rfl rfl), (by decide +kernel), (by decide +kernel), (by decide +kernel)⟩
set_option maxRecDepth 100000 in
theorem V_X5_begin : rx_YV yX5_begin := ⟨(rx_g2 16 rfl rfl), (rx_g0 0 rfl rfl)⟩
set_option maxRecDepth 100000 in
theorem Y_X5_addPerson : rx_Y yX5_addPerson cX5_addPerson 6 none 5 := ⟨(rx_g2 21 rfl rfl), (rx_g1 3 rfl rfl), (by decide +kernel), (by decide +kernel), (by decide +kernel)⟩
set_option maxRecDepth 100000 in
theorem V_X5_addPerson : rx_YV yX5_addPerson := ⟨(rx_g2 20 rfl rfl), (rx_g0 1 rfl rfl)⟩
set_option maxRecDepth 100000 in
theorem Y_X5_addBridge : rx_Y yX5_addBridge cX5_addBridge 4 none 3 := ⟨(rx_g2 28 rfl rfl), (rx_g1 3 rfl rfl), (by decide +kernel), (by decide +kernel), (by decide +kernel)⟩
set_option maxRecDepth 100000 in
theorem V_X5_addBridge : rx_YV yX5_addBridge := ⟨(rx_g2 27 rfl rfl), (rx_g0 2 rfl rfl)⟩
set_option maxRecDepth 100000 in
theorem Y_X5_copyFrom : rx_Y yX5_copyFrom cX5_copyFrom 2 none 1 := ⟨(rx_g4 24 rfl rfl), (rx_g1 3 rfl rfl), (by decide +kernel), (by decide +kernel), (by decide +kernel)⟩
set_option maxRecDepth 100000 in
theorem V_X5_copyFrom : rx_YV yX5_copyFrom := ⟨(rx_g4 23 rfl rfl), (rx_g0 42 rfl rfl)⟩
set_option maxRecDepth 100000 in
theorem Y_X5_hasPerson : rx_Y yX5_hasPerson cX5_hasPerson 2 (some .boolean) 1 := ⟨(rx_g2 50 rfl rfl), (rx_g1 3 rfl rfl), (by decide +kernel), (by decide +kernel), (by decide +kernel)⟩
set_option maxRecDepth 100000 in
theorem V_X5_hasPerson : rx_YV yX5_hasPerson := ⟨(rx_g2 49 rfl rfl), (rx_g0 5 rfl rfl)⟩
set_option maxRecDepth 100000 in
theorem Y_X5_hasKing : rx_Y yX5_hasKing cX5_hasKing 2 (some .boolean) 1 := ⟨(rx_g2 46 rfl rfl), (rx_g1 3 rfl rfl), (by decide +kernel), (by decide +kernel), (by decide +kernel)⟩
set_option maxRecDepth 100000 in
theorem V_X5_hasKing : rx_YV yX5_hasKing := ⟨(rx_g2 45 rfl rfl), (rx_g0 4 rfl rfl)⟩
set_option maxRecDepth 100000 in
theorem Y_X5_kingsInAll : rx_Y yX5_kingsInAll cX5_kingsInAll 3 (some .int) 0 := ⟨(rx_g2 136 rfl rfl), (rx_g1 3 rfl rfl), (by decide +kernel), (by decide +kernel), (by decide +kernel)⟩
set_option maxRecDepth 100000 in
theorem V_X5_kingsInAll : rx_YV yX5_kingsInAll := ⟨(rx_g2 135 rfl rfl), (rx_g0 7 rfl rfl)⟩
set_option maxRecDepth 100000 in
theorem Y_X5_coinsInAll : rx_Y yX5_coinsInAll cX5_coinsInAll 3 (some .int) 0 := ⟨(rx_g3 9 rfl rfl), (rx_g1 3 rfl rfl), (by decide +kernel), (by decide +kernel), (by decide +kernel)⟩
set_option maxRecDepth 100000 in
theorem V_X5_coinsInAll : rx_YV yX5_coinsInAll := ⟨(rx_g3 8 rfl rfl), (rx_g0 22 rfl rfl)⟩
set_option maxRecDepth 100000 in
theorem Y_X5_tollFor : rx_Y yX5_tollFor cX5_tollFor 2 (some .int) 1 := ⟨(rx_g4 158 rfl rfl), (rx_g1 3 rfl rfl), (by decide +kernel), (by decide +kernel), (by decide +kernel)⟩
set_option maxRecDepth 100000 in
theorem V_X5_tollFor : rx_YV yX5_tollFor := ⟨(rx_g4 157 rfl rfl), (rx_g0 49 rfl rfl)⟩
set_option maxRecDepth 100000 in
theorem Y_X5_opens : rx_Y yX5_opens cX5_opens 4 (some .boolean) 2 := ⟨(rx_g2 237 rfl rfl), (rx_g1 3 rfl rfl), (by decide +kernel), (by decide +kernel), (by decide +kernel)⟩
set_option maxRecDepth 100000 in
theorem V_X5_opens : rx_YV yX5_opens := ⟨(rx_g2 236 rfl rfl), (rx_g0 20 rfl rfl)⟩
set_option maxRecDepth 100000 in
theorem Y_X5_roomIn : rx_Y yX5_roomIn cX5_roomIn 4 (some .int) 1 := ⟨(rx_g2 233 rfl rfl), (rx_g1 3 rfl rfl), (by decide +kernel), (by decide +kernel), (by decide +kernel)⟩
set_option maxRecDepth 100000 in
theorem V_X5_roomIn : rx_YV yX5_roomIn := ⟨(rx_g2 232 rfl rfl), (rx_g0 19 rfl rfl)⟩
set_option maxRecDepth 100000 in
theorem Y_X6_init : rx_Y yX6_init cX6_init 1 none 0 := ⟨(rx_g1 36 rfl rfl), (rx_g1 2 rfl rfl), (by decide +kernel), (by decide +kernel), (by decide +kernel)⟩
set_option maxRecDepth 100000 in
theorem I_X6_init : Cond.instanceMethod yX6_init ∈ rx_good := (rx_g1 35 rfl rfl)
set_option maxRecDepth 100000 in
theorem Y_X6_appendWord : rx_Y yX6_appendWord cX6_appendWord 3 none 1 := ⟨(rx_g2 95 rfl rfl), (rx_g1 2 rfl rfl), (by decide +kernel), (by decide +kernel), (by decide +kernel)⟩
set_option maxRecDepth 100000 in
theorem V_X6_appendWord : rx_YV yX6_appendWord := ⟨(rx_g2 94 rfl rfl), (rx_g0 6 rfl rfl)⟩
set_option maxRecDepth 100000 in
theorem Y_X6_open : rx_Y yX6_open cX6_open 2 none 1 := ⟨(rx_g3 131 rfl rfl), (rx_g1 2 rfl rfl), (by decide +kernel), (by decide +kernel), (by decide +kernel)⟩
set_option maxRecDepth 100000 in
theorem V_X6_open : rx_YV yX6_open := ⟨(rx_g3 130 rfl rfl), (rx_g0 30 rfl rfl)⟩
set_option maxRecDepth 100000 in
theorem Y_X6_hasFailed : rx_Y yX6_hasFailed cX6_hasFailed 1 (some .boolean) 0 := ⟨(rx_g4 20 rfl rfl), (rx_g1 2 rfl rfl), (by decide +kernel), (by decide +kernel), (by decide +kernel)⟩
set_option maxRecDepth 100000 in
theorem V_X6_hasFailed : rx_YV yX6_hasFailed := ⟨(rx_g4 19 rfl rfl), (rx_g0 41 rfl rfl)⟩
set_option maxRecDepth 100000 in
theorem Y_X6_fail : rx_Y yX6_fail cX6_fail 2 none 1 := ⟨(rx_g3 218 rfl rfl), (rx_g1 2 rfl rfl), (by decide +kernel), (by decide +kernel), (by decide +kernel)⟩
set_option maxRecDepth 100000 in
theorem V_X6_fail : rx_YV yX6_fail := ⟨(rx_g3 217 rfl rfl), (rx_g0 36 rfl rfl)⟩
set_option maxRecDepth 100000 in
theorem Y_X6_isAtEnd : rx_Y yX6_isAtEnd cX6_isAtEnd 1 (some .boolean) 0 := ⟨(rx_g4 16 rfl rfl), (rx_g1 2 rfl rfl), (by decide +kernel), (by decide +kernel), (by decide +kernel)⟩
set_option maxRecDepth 100000 in
theorem V_X6_isAtEnd : rx_YV yX6_isAtEnd := ⟨(rx_g4 15 rfl rfl), (rx_g0 40 rfl rfl)⟩
set_option maxRecDepth 100000 in
theorem Y_X6_isAtWord : rx_Y yX6_isAtWord cX6_isAtWord 3 (some .boolean) 1 := ⟨(rx_g3 166 rfl rfl), (rx_g1 2 rfl rfl), (by decide +kernel), (by decide +kernel), (by decide +kernel)⟩
set_option maxRecDepth 100000 in
theorem V_X6_isAtWord : rx_YV yX6_isAtWord := ⟨(rx_g3 165 rfl rfl), (rx_g0 35 rfl rfl)⟩
set_option maxRecDepth 100000 in
theorem Y_X6_takeWord : rx_Y yX6_takeWord cX6_takeWord 2 none 1 := ⟨(rx_g3 162 rfl rfl), (rx_g1 2 rfl rfl), (by decide +kernel), (by decide +kernel), (by decide +kernel)⟩
set_option maxRecDepth 100000 in
theorem V_X6_takeWord : rx_YV yX6_takeWord := ⟨(rx_g3 161 rfl rfl), (rx_g0 34 rfl rfl)⟩
set_option maxRecDepth 100000 in
theorem Y_X6_takeEither : rx_Y yX6_takeEither cX6_takeEither 4 (some .int) 2 := ⟨(rx_g4 3 rfl rfl), (rx_g1 2 rfl rfl), (by decide +kernel), (by decide +kernel), (by decide +kernel)⟩
set_option maxRecDepth 100000 in
theorem V_X6_takeEither : rx_YV yX6_takeEither := ⟨(rx_g4 2 rfl rfl), (rx_g0 39 rfl rfl)⟩
set_option maxRecDepth 100000 in
theorem Y_X6_takeSemicolon : rx_Y yX6_takeSemicolon cX6_takeSemicolon 1 none 0 := ⟨(rx_g3 226 rfl rfl), (rx_g1 2 rfl rfl), (by decide +kernel), (by decide +kernel), (by decide +kernel)⟩
set_option maxRecDepth 100000 in
theorem V_X6_takeSemicolon : rx_YV yX6_takeSemicolon := ⟨(rx_g3 225 rfl rfl), (rx_g0 38 rfl rfl)⟩
set_option maxRecDepth 100000 in
theorem Y_X6_takeNumber : rx_Y yX6_takeNumber cX6_takeNumber 4 (some .int) 2 := ⟨(rx_g3 222 rfl rfl), (rx_g1 2 rfl rfl), (by decide +kernel), (by decide +kernel), (by decide +kernel)⟩
set_option maxRecDepth 100000 in
theorem V_X6_takeNumber : rx_YV yX6_takeNumber := ⟨(rx_g3 221 rfl rfl), (rx_g0 37 rfl rfl)⟩
set_option maxRecDepth 100000 in
theorem Y_X6_advance : rx_Y yX6_advance cX6_advance 1 none 0 := ⟨(rx_g3 135 rfl rfl), (rx_g1 2 rfl rfl), (by decide +kernel), (by decide +kernel), (by decide +kernel)⟩
set_option maxRecDepth 100000 in
theorem V_X6_advance : rx_YV yX6_advance := ⟨(rx_g3 134 rfl rfl), (rx_g0 31 rfl rfl)⟩
set_option maxRecDepth 100000 in
theorem Y_X6_scanWord : rx_Y yX6_scanWord cX6_scanWord 1 none 0 := ⟨(rx_g3 146 rfl rfl), (rx_g1 2 rfl rfl), (by decide +kernel), (by decide +kernel), (by decide +kernel)⟩
set_option maxRecDepth 100000 in
theorem V_X6_scanWord : rx_YV yX6_scanWord := ⟨(rx_g3 145 rfl rfl), (rx_g0 32 rfl rfl)⟩
set_option maxRecDepth 100000 in
theorem Y_X6_scanNumber : rx_Y yX6_scanNumber cX6_scanNumber 1 none 0 := ⟨(rx_g3 153 rfl rfl), (rx_g1 2 rfl rfl), (by decide +kernel), (by decide +kernel), (by decide +kernel)⟩
set_option maxRecDepth 100000 in
theorem V_X6_scanNumber : rx_YV yX6_scanNumber := ⟨(rx_g3 152 rfl rfl), (rx_g0 33 rfl rfl)⟩
set_option maxRecDepth 100000 in
theorem Y_X6_isBlank : rx_Y yX6_isBlank cX6_isBlank 1 (some .boolean) 1 := ⟨(rx_g3 139 rfl rfl), (rx_g1 2 rfl rfl), (by decide +kernel), (by decide +kernel), (by decide +kernel)⟩
set_option maxRecDepth 100000 in
theorem S_X6_isBlank : Cond.static yX6_isBlank ∈ rx_good := (rx_g3 138 rfl rfl)
set_option maxRecDepth 100000 in
theorem Y_X6_isLetter : rx_Y yX6_isLetter cX6_isLetter 1 (some .boolean) 1 := ⟨(rx_g3 142 rfl rfl), (rx_g1 2 rfl rfl), (by decide +kernel), (by decide +kernel), (by decide +kernel)⟩
set_option maxRecDepth 100000 in
theorem S_X6_isLetter : Cond.static yX6_isLetter ∈ rx_good := (rx_g3 141 rfl rfl)
set_option maxRecDepth 100000 in
theorem Y_X6_isDigit : rx_Y yX6_isDigit cX6_isDigit 1 (some .boolean) 1 := ⟨(rx_g3 149 rfl rfl), (rx_g1 2 rfl rfl), (by decide +kernel), (by decide +kernel), (by decide +kernel)⟩
set_option maxRecDepth 100000 in
theorem S_X6_isDigit : Cond.static yX6_isDigit ∈ rx_good := (rx_g3 148 rfl rfl)
set_option maxRecDepth 100000 in
theorem Y_X7_spelledIn : rx_Y yX7_spelledIn cX7_spelledIn 3 (some (.object "BeggarKings$Verb")) 1 := ⟨(rx_g6 36 rfl rfl), (rx_g1 21 rfl rfl), (by decide +kernel), (by decide +kernel), (by decide +kernel)⟩
set_option maxRecDepth 100000 in
theorem S_X7_spelledIn : Cond.static yX7_spelledIn ∈ rx_good := (rx_g6 35 rfl rfl)
set_option maxRecDepth 100000 in
theorem Y_X7_lowest : rx_Y yX7_lowest cX7_lowest 2 (some .int) 1 := ⟨(rx_g6 45 rfl rfl), (rx_g1 21 rfl rfl), (by decide +kernel), (by decide +kernel), (by decide +kernel)⟩
set_option maxRecDepth 100000 in
theorem V_X7_lowest : rx_YV yX7_lowest := ⟨(rx_g6 44 rfl rfl), (rx_g0 82 rfl rfl)⟩
set_option maxRecDepth 100000 in
theorem Y_X7_highest : rx_Y yX7_highest cX7_highest 2 (some .int) 1 := ⟨(rx_g6 49 rfl rfl), (rx_g1 21 rfl rfl), (by decide +kernel), (by decide +kernel), (by decide +kernel)⟩
set_option maxRecDepth 100000 in
theorem V_X7_highest : rx_YV yX7_highest := ⟨(rx_g6 48 rfl rfl), (rx_g0 83 rfl rfl)⟩
set_option maxRecDepth 100000 in
theorem Y_X7_allows : rx_Y yX7_allows cX7_allows 2 (some .boolean) 1 := ⟨(rx_g5 119 rfl rfl), (rx_g1 21 rfl rfl), (by decide +kernel), (by decide +kernel), (by decide +kernel)⟩
set_option maxRecDepth 100000 in
theorem V_X7_allows : rx_YV yX7_allows := ⟨(rx_g5 117 rfl rfl), (rx_g0 68 rfl rfl)⟩
set_option maxRecDepth 100000 in
theorem Y_X8_init : rx_Y yX8_init cX8_init 1 none 0 := ⟨(rx_g1 28 rfl rfl), (rx_g1 1 rfl rfl), (by decide +kernel), (by decide +kernel), (by decide +kernel)⟩
set_option maxRecDepth 100000 in
theorem I_X8_init : Cond.instanceMethod yX8_init ∈ rx_good := (rx_g1 27 rfl rfl)
set_option maxRecDepth 100000 in
theorem Y_X8_appendText : rx_Y yX8_appendText cX8_appendText 6 (some .int) 5 := ⟨(rx_g2 91 rfl rfl), (rx_g1 1 rfl rfl), (by decide +kernel), (by decide +kernel), (by decide +kernel)⟩
set_option maxRecDepth 100000 in
theorem V_X8_appendText : rx_YV yX8_appendText := ⟨(rx_g2 89 rfl rfl), (rx_g2 90 rfl rfl)⟩
set_option maxRecDepth 100000 in
theorem Y_X8_loadGame : rx_Y yX8_loadGame cX8_loadGame 2 (some .int) 1 := ⟨(rx_g3 55 rfl rfl), (rx_g1 1 rfl rfl), (by decide +kernel), (by decide +kernel), (by decide +kernel)⟩
set_option maxRecDepth 100000 in
theorem V_X8_loadGame : rx_YV yX8_loadGame := ⟨(rx_g3 53 rfl rfl), (rx_g3 54 rfl rfl)⟩
set_option maxRecDepth 100000 in
theorem Y_X8_errorCode : rx_Y yX8_errorCode cX8_errorCode 1 (some .int) 0 := ⟨(rx_g2 100 rfl rfl), (rx_g1 1 rfl rfl), (by decide +kernel), (by decide +kernel), (by decide +kernel)⟩
set_option maxRecDepth 100000 in
theorem V_X8_errorCode : rx_YV yX8_errorCode := ⟨(rx_g2 98 rfl rfl), (rx_g2 99 rfl rfl)⟩
set_option maxRecDepth 100000 in
theorem Y_X8_errorOffset : rx_Y yX8_errorOffset cX8_errorOffset 1 (some .int) 0 := ⟨(rx_g2 104 rfl rfl), (rx_g1 1 rfl rfl), (by decide +kernel), (by decide +kernel), (by decide +kernel)⟩
set_option maxRecDepth 100000 in
theorem V_X8_errorOffset : rx_YV yX8_errorOffset := ⟨(rx_g2 102 rfl rfl), (rx_g2 103 rfl rfl)⟩
set_option maxRecDepth 100000 in
theorem Y_X8_turn : rx_Y yX8_turn cX8_turn 1 (some .int) 0 := ⟨(rx_g2 108 rfl rfl), (rx_g1 1 rfl rfl), (by decide +kernel), (by decide +kernel), (by decide +kernel)⟩
set_option maxRecDepth 100000 in
theorem V_X8_turn : rx_YV yX8_turn := ⟨(rx_g2 106 rfl rfl), (rx_g2 107 rfl rfl)⟩
set_option maxRecDepth 100000 in
theorem Y_X8_limitAngle : rx_Y yX8_limitAngle cX8_limitAngle 1 (some .int) 0 := ⟨(rx_g2 112 rfl rfl), (rx_g1 1 rfl rfl), (by decide +kernel), (by decide +kernel), (by decide +kernel)⟩
set_option maxRecDepth 100000 in
theorem V_X8_limitAngle : rx_YV yX8_limitAngle := ⟨(rx_g2 110 rfl rfl), (rx_g2 111 rfl rfl)⟩
set_option maxRecDepth 100000 in
theorem Y_X8_tollBox : rx_Y yX8_tollBox cX8_tollBox 1 (some .int) 0 := ⟨(rx_g2 116 rfl rfl), (rx_g1 1 rfl rfl), (by decide +kernel), (by decide +kernel), (by decide +kernel)⟩
set_option maxRecDepth 100000 in
theorem V_X8_tollBox : rx_YV yX8_tollBox := ⟨(rx_g2 114 rfl rfl), (rx_g2 115 rfl rfl)⟩
set_option maxRecDepth 100000 in
theorem Y_X8_groundCoins : rx_Y yX8_groundCoins cX8_groundCoins 2 (some .int) 1 := ⟨(rx_g2 120 rfl rfl), (rx_g1 1 rfl rfl), (by decide +kernel), (by decide +kernel), (by decide +kernel)⟩
set_option maxRecDepth 100000 in
theorem V_X8_groundCoins : rx_YV yX8_groundCoins := ⟨(rx_g2 118 rfl rfl), (rx_g2 119 rfl rfl)⟩
set_option maxRecDepth 100000 in
theorem Y_X8_personCount : rx_Y yX8_personCount cX8_personCount 1 (some .int) 0 := ⟨(rx_g2 128 rfl rfl), (rx_g1 1 rfl rfl), (by decide +kernel), (by decide +kernel), (by decide +kernel)⟩
set_option maxRecDepth 100000 in
theorem V_X8_personCount : rx_YV yX8_personCount := ⟨(rx_g2 126 rfl rfl), (rx_g2 127 rfl rfl)⟩
set_option maxRecDepth 100000 in
theorem Y_X8_kingCount : rx_Y yX8_kingCount cX8_kingCount 1 (some .int) 0 := ⟨(rx_g2 132 rfl rfl), (rx_g1 1 rfl rfl), (by decide +kernel), (by decide +kernel), (by decide +kernel)⟩
set_option maxRecDepth 100000 in
theorem V_X8_kingCount : rx_YV yX8_kingCount := ⟨(rx_g2 130 rfl rfl), (rx_g2 131 rfl rfl)⟩
set_option maxRecDepth 100000 in
theorem Y_X8_bankCount : rx_Y yX8_bankCount cX8_bankCount 2 (some .int) 1 := ⟨(rx_g2 140 rfl rfl), (rx_g1 1 rfl rfl), (by decide +kernel), (by decide +kernel), (by decide +kernel)⟩
set_option maxRecDepth 100000 in
theorem V_X8_bankCount : rx_YV yX8_bankCount := ⟨(rx_g2 138 rfl rfl), (rx_g2 139 rfl rfl)⟩
set_option maxRecDepth 100000 in
theorem Y_X8_isKing : rx_Y yX8_isKing cX8_isKing 2 (some .boolean) 1 := ⟨(rx_g4 37 rfl rfl), (rx_g1 1 rfl rfl), (by decide +kernel), (by decide +kernel), (by decide +kernel)⟩
set_option maxRecDepth 100000 in
theorem V_X8_isKing : rx_YV yX8_isKing := ⟨(rx_g4 35 rfl rfl), (rx_g4 36 rfl rfl)⟩
set_option maxRecDepth 100000 in
theorem Y_X8_isEast : rx_Y yX8_isEast cX8_isEast 2 (some .boolean) 1 := ⟨(rx_g4 66 rfl rfl), (rx_g1 1 rfl rfl), (by decide +kernel), (by decide +kernel), (by decide +kernel)⟩
set_option maxRecDepth 100000 in
theorem V_X8_isEast : rx_YV yX8_isEast := ⟨(rx_g4 64 rfl rfl), (rx_g4 65 rfl rfl)⟩
set_option maxRecDepth 100000 in
theorem Y_X8_coins : rx_Y yX8_coins cX8_coins 2 (some .int) 1 := ⟨(rx_g4 73 rfl rfl), (rx_g1 1 rfl rfl), (by decide +kernel), (by decide +kernel), (by decide +kernel)⟩
set_option maxRecDepth 100000 in
theorem V_X8_coins : rx_YV yX8_coins := ⟨(rx_g4 71 rfl rfl), (rx_g4 72 rfl rfl)⟩
set_option maxRecDepth 100000 in
theorem Y_X8_pride : rx_Y yX8_pride cX8_pride 2 (some .int) 1 := ⟨(rx_g4 80 rfl rfl), (rx_g1 1 rfl rfl), (by decide +kernel), (by decide +kernel), (by decide +kernel)⟩
set_option maxRecDepth 100000 in
theorem V_X8_pride : rx_YV yX8_pride := ⟨(rx_g4 78 rfl rfl), (rx_g4 79 rfl rfl)⟩
set_option maxRecDepth 100000 in
theorem Y_X8_rags : rx_Y yX8_rags cX8_rags 2 (some .int) 1 := ⟨(rx_g4 87 rfl rfl), (rx_g1 1 rfl rfl), (by decide +kernel), (by decide +kernel), (by decide +kernel)⟩
set_option maxRecDepth 100000 in
theorem V_X8_rags : rx_YV yX8_rags := ⟨(rx_g4 85 rfl rfl), (rx_g4 86 rfl rfl)⟩
set_option maxRecDepth 100000 in
theorem Y_X8_rank : rx_Y yX8_rank cX8_rank 2 (some .int) 1 := ⟨(rx_g4 94 rfl rfl), (rx_g1 1 rfl rfl), (by decide +kernel), (by decide +kernel), (by decide +kernel)⟩
set_option maxRecDepth 100000 in
theorem V_X8_rank : rx_YV yX8_rank := ⟨(rx_g4 92 rfl rfl), (rx_g4 93 rfl rfl)⟩
set_option maxRecDepth 100000 in
theorem Y_X8_wearer : rx_Y yX8_wearer cX8_wearer 2 (some .int) 1 := ⟨(rx_g4 101 rfl rfl), (rx_g1 1 rfl rfl), (by decide +kernel), (by decide +kernel), (by decide +kernel)⟩
set_option maxRecDepth 100000 in
theorem V_X8_wearer : rx_YV yX8_wearer := ⟨(rx_g4 99 rfl rfl), (rx_g4 100 rfl rfl)⟩
set_option maxRecDepth 100000 in
theorem Y_X8_crossings : rx_Y yX8_crossings cX8_crossings 2 (some .int) 1 := ⟨(rx_g4 112 rfl rfl), (rx_g1 1 rfl rfl), (by decide +kernel), (by decide +kernel), (by decide +kernel)⟩
set_option maxRecDepth 100000 in
theorem V_X8_crossings : rx_YV yX8_crossings := ⟨(rx_g4 110 rfl rfl), (rx_g4 111 rfl rfl)⟩
set_option maxRecDepth 100000 in
theorem Y_X8_richest : rx_Y yX8_richest cX8_richest 1 (some .int) 0 := ⟨(rx_g2 149 rfl rfl), (rx_g1 1 rfl rfl), (by decide +kernel), (by decide +kernel), (by decide +kernel)⟩
set_option maxRecDepth 100000 in
theorem V_X8_richest : rx_YV yX8_richest := ⟨(rx_g2 147 rfl rfl), (rx_g2 148 rfl rfl)⟩
set_option maxRecDepth 100000 in
theorem Y_X8_bowTo : rx_Y yX8_bowTo cX8_bowTo 3 (some .int) 2 := ⟨(rx_g4 119 rfl rfl), (rx_g1 1 rfl rfl), (by decide +kernel), (by decide +kernel), (by decide +kernel)⟩
set_option maxRecDepth 100000 in
theorem V_X8_bowTo : rx_YV yX8_bowTo := ⟨(rx_g4 117 rfl rfl), (rx_g4 118 rfl rfl)⟩
set_option maxRecDepth 100000 in
theorem Y_X8_bowToKeeper : rx_Y yX8_bowToKeeper cX8_bowToKeeper 2 (some .int) 1 := ⟨(rx_g4 131 rfl rfl), (rx_g1 1 rfl rfl), (by decide +kernel), (by decide +kernel), (by decide +kernel)⟩
set_option maxRecDepth 100000 in
theorem V_X8_bowToKeeper : rx_YV yX8_bowToKeeper := ⟨(rx_g4 129 rfl rfl), (rx_g4 130 rfl rfl)⟩
set_option maxRecDepth 100000 in
theorem Y_X8_isTakenForKing : rx_Y yX8_isTakenForKing cX8_isTakenForKing 2 (some .boolean) 1 := ⟨(rx_g4 139 rfl rfl), (rx_g1 1 rfl rfl), (by decide +kernel), (by decide +kernel), (by decide +kernel)⟩
set_option maxRecDepth 100000 in
theorem V_X8_isTakenForKing : rx_YV yX8_isTakenForKing := ⟨(rx_g4 137 rfl rfl), (rx_g4 138 rfl rfl)⟩
set_option maxRecDepth 100000 in
theorem Y_X8_tollOf : rx_Y yX8_tollOf cX8_tollOf 2 (some .int) 1 := ⟨(rx_g4 146 rfl rfl), (rx_g1 1 rfl rfl), (by decide +kernel), (by decide +kernel), (by decide +kernel)⟩
set_option maxRecDepth 100000 in
theorem V_X8_tollOf : rx_YV yX8_tollOf := ⟨(rx_g4 144 rfl rfl), (rx_g4 145 rfl rfl)⟩
set_option maxRecDepth 100000 in
theorem Y_X8_wrongGuesses : rx_Y yX8_wrongGuesses cX8_wrongGuesses 1 (some .int) 0 := ⟨(rx_g2 157 rfl rfl), (rx_g1 1 rfl rfl), (by decide +kernel), (by decide +kernel), (by decide +kernel)⟩
set_option maxRecDepth 100000 in
theorem V_X8_wrongGuesses : rx_YV yX8_wrongGuesses := ⟨(rx_g2 155 rfl rfl), (rx_g2 156 rfl rfl)⟩
set_option maxRecDepth 100000 in
theorem Y_X8_stiffest : rx_Y yX8_stiffest cX8_stiffest 1 (some .int) 0 := ⟨(rx_g2 176 rfl rfl), (rx_g1 1 rfl rfl), (by decide +kernel), (by decide +kernel), (by decide +kernel)⟩
set_option maxRecDepth 100000 in
theorem V_X8_stiffest : rx_YV yX8_stiffest := ⟨(rx_g2 174 rfl rfl), (rx_g2 175 rfl rfl)⟩
set_option maxRecDepth 100000 in
theorem Y_X8_cheapestRags : rx_Y yX8_cheapestRags cX8_cheapestRags 2 (some .int) 1 := ⟨(rx_g4 165 rfl rfl), (rx_g1 1 rfl rfl), (by decide +kernel), (by decide +kernel), (by decide +kernel)⟩
set_option maxRecDepth 100000 in
theorem V_X8_cheapestRags : rx_YV yX8_cheapestRags := ⟨(rx_g4 163 rfl rfl), (rx_g4 164 rfl rfl)⟩
set_option maxRecDepth 100000 in
theorem Y_X8_meanBow : rx_Y yX8_meanBow cX8_meanBow 1 (some .double) 0 := ⟨(rx_g2 188 rfl rfl), (rx_g1 1 rfl rfl), (by decide +kernel), (by decide +kernel), (by decide +kernel)⟩
set_option maxRecDepth 100000 in
theorem V_X8_meanBow : rx_YV yX8_meanBow := ⟨(rx_g2 186 rfl rfl), (rx_g2 187 rfl rfl)⟩
set_option maxRecDepth 100000 in
theorem Y_X8_royalHolder : rx_Y yX8_royalHolder cX8_royalHolder 2 (some .int) 1 := ⟨(rx_g4 176 rfl rfl), (rx_g1 1 rfl rfl), (by decide +kernel), (by decide +kernel), (by decide +kernel)⟩
set_option maxRecDepth 100000 in
theorem V_X8_royalHolder : rx_YV yX8_royalHolder := ⟨(rx_g4 174 rfl rfl), (rx_g4 175 rfl rfl)⟩
set_option maxRecDepth 100000 in
theorem Y_X8_isRoyalCoinEast : rx_Y yX8_isRoyalCoinEast cX8_isRoyalCoinEast 2 (some .boolean) 1 := ⟨(rx_g4 188 rfl rfl), (rx_g1 1 rfl rfl), (by decide +kernel), (by decide +kernel), (by decide +kernel)⟩
set_option maxRecDepth 100000 in
theorem V_X8_isRoyalCoinEast : rx_YV yX8_isRoyalCoinEast := ⟨(rx_g4 186 rfl rfl), (rx_g4 187 rfl rfl)⟩
set_option maxRecDepth 100000 in
theorem Y_X8_isCounted : rx_Y yX8_isCounted cX8_isCounted 2 (some .boolean) 1 := ⟨(rx_g4 199 rfl rfl), (rx_g1 1 rfl rfl), (by decide +kernel), (by decide +kernel), (by decide +kernel)⟩
set_option maxRecDepth 100000 in
theorem V_X8_isCounted : rx_YV yX8_isCounted := ⟨(rx_g4 197 rfl rfl), (rx_g4 198 rfl rfl)⟩
set_option maxRecDepth 100000 in
theorem Y_X8_royalCoins : rx_Y yX8_royalCoins cX8_royalCoins 2 (some .int) 1 := ⟨(rx_g4 206 rfl rfl), (rx_g1 1 rfl rfl), (by decide +kernel), (by decide +kernel), (by decide +kernel)⟩
set_option maxRecDepth 100000 in
theorem V_X8_royalCoins : rx_YV yX8_royalCoins := ⟨(rx_g4 204 rfl rfl), (rx_g4 205 rfl rfl)⟩
set_option maxRecDepth 100000 in
theorem Y_X8_countedRoyalCoins : rx_Y yX8_countedRoyalCoins cX8_countedRoyalCoins 1 (some .int) 0 := ⟨(rx_g2 196 rfl rfl), (rx_g1 1 rfl rfl), (by decide +kernel), (by decide +kernel), (by decide +kernel)⟩
set_option maxRecDepth 100000 in
theorem V_X8_countedRoyalCoins : rx_YV yX8_countedRoyalCoins := ⟨(rx_g2 194 rfl rfl), (rx_g2 195 rfl rfl)⟩
set_option maxRecDepth 100000 in
theorem Y_X8_countedShare : rx_Y yX8_countedShare cX8_countedShare 2 (some .float) 0 := ⟨(rx_g2 204 rfl rfl), (rx_g1 1 rfl rfl), (by decide +kernel), (by decide +kernel), (by decide +kernel)⟩
set_option maxRecDepth 100000 in
theorem V_X8_countedShare : rx_YV yX8_countedShare := ⟨(rx_g2 202 rfl rfl), (rx_g2 203 rfl rfl)⟩
set_option maxRecDepth 100000 in
theorem Y_X8_queueLength : rx_Y yX8_queueLength cX8_queueLength 2 (some .int) 1 := ⟨(rx_g2 208 rfl rfl), (rx_g1 1 rfl rfl), (by decide +kernel), (by decide +kernel), (by decide +kernel)⟩
set_option maxRecDepth 100000 in
theorem V_X8_queueLength : rx_YV yX8_queueLength := ⟨(rx_g2 206 rfl rfl), (rx_g2 207 rfl rfl)⟩
set_option maxRecDepth 100000 in
theorem Y_X8_queued : rx_Y yX8_queued cX8_queued 3 (some .int) 2 := ⟨(rx_g2 216 rfl rfl), (rx_g1 1 rfl rfl), (by decide +kernel), (by decide +kernel), (by decide +kernel)⟩
set_option maxRecDepth 100000 in
theorem V_X8_queued : rx_YV yX8_queued := ⟨(rx_g2 214 rfl rfl), (rx_g2 215 rfl rfl)⟩
set_option maxRecDepth 100000 in
theorem Y_X8_offer : rx_Y yX8_offer cX8_offer 2 (some .int) 1 := ⟨(rx_g4 217 rfl rfl), (rx_g1 1 rfl rfl), (by decide +kernel), (by decide +kernel), (by decide +kernel)⟩
set_option maxRecDepth 100000 in
theorem V_X8_offer : rx_YV yX8_offer := ⟨(rx_g4 215 rfl rfl), (rx_g4 216 rfl rfl)⟩
set_option maxRecDepth 100000 in
theorem Y_X8_bridgeCount : rx_Y yX8_bridgeCount cX8_bridgeCount 1 (some .int) 0 := ⟨(rx_g2 225 rfl rfl), (rx_g1 1 rfl rfl), (by decide +kernel), (by decide +kernel), (by decide +kernel)⟩
set_option maxRecDepth 100000 in
theorem V_X8_bridgeCount : rx_YV yX8_bridgeCount := ⟨(rx_g2 223 rfl rfl), (rx_g2 224 rfl rfl)⟩
set_option maxRecDepth 100000 in
theorem Y_X8_isOpen : rx_Y yX8_isOpen cX8_isOpen 2 (some .boolean) 1 := ⟨(rx_g4 234 rfl rfl), (rx_g1 1 rfl rfl), (by decide +kernel), (by decide +kernel), (by decide +kernel)⟩
set_option maxRecDepth 100000 in
theorem V_X8_isOpen : rx_YV yX8_isOpen := ⟨(rx_g4 232 rfl rfl), (rx_g4 233 rfl rfl)⟩
set_option maxRecDepth 100000 in
theorem Y_X8_room : rx_Y yX8_room cX8_room 1 (some .int) 0 := ⟨(rx_g2 229 rfl rfl), (rx_g1 1 rfl rfl), (by decide +kernel), (by decide +kernel), (by decide +kernel)⟩
set_option maxRecDepth 100000 in
theorem V_X8_room : rx_YV yX8_room := ⟨(rx_g2 227 rfl rfl), (rx_g2 228 rfl rfl)⟩
set_option maxRecDepth 100000 in
theorem Y_X8_firstPlaceOffer : rx_Y yX8_firstPlaceOffer cX8_firstPlaceOffer 2 (some .int) 1 := ⟨(rx_g5 3 rfl rfl), (rx_g1 1 rfl rfl), (by decide +kernel), (by decide +kernel), (by decide +kernel)⟩
set_option maxRecDepth 100000 in
theorem V_X8_firstPlaceOffer : rx_YV yX8_firstPlaceOffer := ⟨(rx_g5 1 rfl rfl), (rx_g5 2 rfl rfl)⟩
set_option maxRecDepth 100000 in
theorem Y_X8_turnsUntilCrossing : rx_Y yX8_turnsUntilCrossing cX8_turnsUntilCrossing 4 (some .int) 1 := ⟨(rx_g5 16 rfl rfl), (rx_g1 1 rfl rfl), (by decide +kernel), (by decide +kernel), (by decide +kernel)⟩
set_option maxRecDepth 100000 in
theorem V_X8_turnsUntilCrossing : rx_YV yX8_turnsUntilCrossing := ⟨(rx_g5 14 rfl rfl), (rx_g5 15 rfl rfl)⟩
set_option maxRecDepth 100000 in
theorem Y_X8_tollBoxAfter : rx_Y yX8_tollBoxAfter cX8_tollBoxAfter 2 (some .int) 1 := ⟨(rx_g5 57 rfl rfl), (rx_g1 1 rfl rfl), (by decide +kernel), (by decide +kernel), (by decide +kernel)⟩
set_option maxRecDepth 100000 in
theorem V_X8_tollBoxAfter : rx_YV yX8_tollBoxAfter := ⟨(rx_g5 55 rfl rfl), (rx_g5 56 rfl rfl)⟩
set_option maxRecDepth 100000 in
theorem Y_X8_limitAngleAfter : rx_Y yX8_limitAngleAfter cX8_limitAngleAfter 2 (some .int) 1 := ⟨(rx_g5 74 rfl rfl), (rx_g1 1 rfl rfl), (by decide +kernel), (by decide +kernel), (by decide +kernel)⟩
set_option maxRecDepth 100000 in
theorem V_X8_limitAngleAfter : rx_YV yX8_limitAngleAfter := ⟨(rx_g5 72 rfl rfl), (rx_g5 73 rfl rfl)⟩
set_option maxRecDepth 100000 in
theorem Y_X8_crossingObstacle : rx_Y yX8_crossingObstacle cX8_crossingObstacle 3 (some .int) 1 := ⟨(rx_g5 81 rfl rfl), (rx_g1 1 rfl rfl), (by decide +kernel), (by decide +kernel), (by decide +kernel)⟩
set_option maxRecDepth 100000 in
theorem V_X8_crossingObstacle : rx_YV yX8_crossingObstacle := ⟨(rx_g5 79 rfl rfl), (rx_g5 80 rfl rfl)⟩
set_option maxRecDepth 100000 in
theorem Y_X8_coinGap : rx_Y yX8_coinGap cX8_coinGap 1 (some .int) 0 := ⟨(rx_g3 1 rfl rfl), (rx_g1 1 rfl rfl), (by decide +kernel), (by decide +kernel), (by decide +kernel)⟩
set_option maxRecDepth 100000 in
theorem V_X8_coinGap : rx_YV yX8_coinGap := ⟨(rx_g2 239 rfl rfl), (rx_g3 0 rfl rfl)⟩
set_option maxRecDepth 100000 in
theorem Y_X8_dropCoins : rx_Y yX8_dropCoins cX8_dropCoins 3 (some .int) 2 := ⟨(rx_g5 91 rfl rfl), (rx_g1 1 rfl rfl), (by decide +kernel), (by decide +kernel), (by decide +kernel)⟩
set_option maxRecDepth 100000 in
theorem V_X8_dropCoins : rx_YV yX8_dropCoins := ⟨(rx_g5 89 rfl rfl), (rx_g5 90 rfl rfl)⟩
set_option maxRecDepth 100000 in
theorem Y_X8_pickCoins : rx_Y yX8_pickCoins cX8_pickCoins 3 (some .int) 2 := ⟨(rx_g5 158 rfl rfl), (rx_g1 1 rfl rfl), (by decide +kernel), (by decide +kernel), (by decide +kernel)⟩
set_option maxRecDepth 100000 in
theorem V_X8_pickCoins : rx_YV yX8_pickCoins := ⟨(rx_g5 156 rfl rfl), (rx_g5 157 rfl rfl)⟩
set_option maxRecDepth 100000 in
theorem Y_X8_layRoyalCoin : rx_Y yX8_layRoyalCoin cX8_layRoyalCoin 3 (some .int) 2 := ⟨(rx_g5 171 rfl rfl), (rx_g1 1 rfl rfl), (by decide +kernel), (by decide +kernel), (by decide +kernel)⟩
set_option maxRecDepth 100000 in
theorem V_X8_layRoyalCoin : rx_YV yX8_layRoyalCoin := ⟨(rx_g5 169 rfl rfl), (rx_g5 170 rfl rfl)⟩
set_option maxRecDepth 100000 in
theorem Y_X8_liftRoyalCoin : rx_Y yX8_liftRoyalCoin cX8_liftRoyalCoin 3 (some .int) 2 := ⟨(rx_g5 185 rfl rfl), (rx_g1 1 rfl rfl), (by decide +kernel), (by decide +kernel), (by decide +kernel)⟩
set_option maxRecDepth 100000 in
theorem V_X8_liftRoyalCoin : rx_YV yX8_liftRoyalCoin := ⟨(rx_g5 183 rfl rfl), (rx_g5 184 rfl rfl)⟩
set_option maxRecDepth 100000 in
theorem Y_X8_swapRags : rx_Y yX8_swapRags cX8_swapRags 3 (some .int) 2 := ⟨(rx_g5 198 rfl rfl), (rx_g1 1 rfl rfl), (by decide +kernel), (by decide +kernel), (by decide +kernel)⟩
set_option maxRecDepth 100000 in
theorem V_X8_swapRags : rx_YV yX8_swapRags := ⟨(rx_g5 196 rfl rfl), (rx_g5 197 rfl rfl)⟩
set_option maxRecDepth 100000 in
theorem Y_X8_joinQueue : rx_Y yX8_joinQueue cX8_joinQueue 3 (some .int) 2 := ⟨(rx_g5 211 rfl rfl), (rx_g1 1 rfl rfl), (by decide +kernel), (by decide +kernel), (by decide +kernel)⟩
set_option maxRecDepth 100000 in
theorem V_X8_joinQueue : rx_YV yX8_joinQueue := ⟨(rx_g5 209 rfl rfl), (rx_g5 210 rfl rfl)⟩
set_option maxRecDepth 100000 in
theorem Y_X8_quitQueue : rx_Y yX8_quitQueue cX8_quitQueue 2 (some .int) 1 := ⟨(rx_g5 228 rfl rfl), (rx_g1 1 rfl rfl), (by decide +kernel), (by decide +kernel), (by decide +kernel)⟩
set_option maxRecDepth 100000 in
theorem V_X8_quitQueue : rx_YV yX8_quitQueue := ⟨(rx_g5 226 rfl rfl), (rx_g5 227 rfl rfl)⟩
set_option maxRecDepth 100000 in
theorem Y_X8_setPride : rx_Y yX8_setPride cX8_setPride 3 (some .int) 2 := ⟨(rx_g6 1 rfl rfl), (rx_g1 1 rfl rfl), (by decide +kernel), (by decide +kernel), (by decide +kernel)⟩
set_option maxRecDepth 100000 in
theorem V_X8_setPride : rx_YV yX8_setPride := ⟨(rx_g5 239 rfl rfl), (rx_g6 0 rfl rfl)⟩
set_option maxRecDepth 100000 in
theorem Y_X8_passTurns : rx_Y yX8_passTurns cX8_passTurns 2 (some .int) 1 := ⟨(rx_g6 14 rfl rfl), (rx_g1 1 rfl rfl), (by decide +kernel), (by decide +kernel), (by decide +kernel)⟩
set_option maxRecDepth 100000 in
theorem V_X8_passTurns : rx_YV yX8_passTurns := ⟨(rx_g6 12 rfl rfl), (rx_g6 13 rfl rfl)⟩
set_option maxRecDepth 100000 in
theorem Y_X8_runScript : rx_Y yX8_runScript cX8_runScript 2 (some .int) 1 := ⟨(rx_g6 23 rfl rfl), (rx_g1 1 rfl rfl), (by decide +kernel), (by decide +kernel), (by decide +kernel)⟩
set_option maxRecDepth 100000 in
theorem V_X8_runScript : rx_YV yX8_runScript := ⟨(rx_g6 21 rfl rfl), (rx_g6 22 rfl rfl)⟩
set_option maxRecDepth 100000 in
theorem Y_X8_writeQueue : rx_Y yX8_writeQueue cX8_writeQueue 5 (some .int) 1 := ⟨(rx_g3 16 rfl rfl), (rx_g1 1 rfl rfl), (by decide +kernel), (by decide +kernel), (by decide +kernel)⟩
set_option maxRecDepth 100000 in
theorem V_X8_writeQueue : rx_YV yX8_writeQueue := ⟨(rx_g3 14 rfl rfl), (rx_g3 15 rfl rfl)⟩
set_option maxRecDepth 100000 in
theorem Y_X8_outputByte : rx_Y yX8_outputByte cX8_outputByte 2 (some .int) 1 := ⟨(rx_g6 78 rfl rfl), (rx_g1 1 rfl rfl), (by decide +kernel), (by decide +kernel), (by decide +kernel)⟩
set_option maxRecDepth 100000 in
theorem V_X8_outputByte : rx_YV yX8_outputByte := ⟨(rx_g6 76 rfl rfl), (rx_g6 77 rfl rfl)⟩
set_option maxRecDepth 100000 in
theorem Y_X8_undoableCount : rx_Y yX8_undoableCount cX8_undoableCount 1 (some .int) 0 := ⟨(rx_g3 34 rfl rfl), (rx_g1 1 rfl rfl), (by decide +kernel), (by decide +kernel), (by decide +kernel)⟩
set_option maxRecDepth 100000 in
theorem V_X8_undoableCount : rx_YV yX8_undoableCount := ⟨(rx_g3 32 rfl rfl), (rx_g3 33 rfl rfl)⟩
set_option maxRecDepth 100000 in
theorem Y_X8_undo : rx_Y yX8_undo cX8_undo 1 (some .int) 0 := ⟨(rx_g6 86 rfl rfl), (rx_g1 1 rfl rfl), (by decide +kernel), (by decide +kernel), (by decide +kernel)⟩
set_option maxRecDepth 100000 in
theorem V_X8_undo : rx_YV yX8_undo := ⟨(rx_g6 84 rfl rfl), (rx_g6 85 rfl rfl)⟩
set_option maxRecDepth 100000 in
theorem Y_X8_saveSnapshot : rx_Y yX8_saveSnapshot cX8_saveSnapshot 1 none 0 := ⟨(rx_g3 38 rfl rfl), (rx_g1 1 rfl rfl), (by decide +kernel), (by decide +kernel), (by decide +kernel)⟩
set_option maxRecDepth 100000 in
theorem V_X8_saveSnapshot : rx_YV yX8_saveSnapshot := ⟨(rx_g3 36 rfl rfl), (rx_g3 37 rfl rfl)⟩
set_option maxRecDepth 100000 in
theorem Y_X8_restoreSnapshot : rx_Y yX8_restoreSnapshot cX8_restoreSnapshot 1 (some .int) 0 := ⟨(rx_g6 98 rfl rfl), (rx_g1 1 rfl rfl), (by decide +kernel), (by decide +kernel), (by decide +kernel)⟩
set_option maxRecDepth 100000 in
theorem V_X8_restoreSnapshot : rx_YV yX8_restoreSnapshot := ⟨(rx_g6 96 rfl rfl), (rx_g6 97 rfl rfl)⟩
set_option maxRecDepth 100000 in
theorem Y_X8_requirePerson : rx_Y yX8_requirePerson cX8_requirePerson 2 none 1 := ⟨(rx_g4 41 rfl rfl), (rx_g1 1 rfl rfl), (by decide +kernel), (by decide +kernel), (by decide +kernel)⟩
set_option maxRecDepth 100000 in
theorem V_X8_requirePerson : rx_YV yX8_requirePerson := ⟨(rx_g4 40 rfl rfl), (rx_g0 44 rfl rfl)⟩
set_option maxRecDepth 100000 in
theorem Y_X8_requireKing : rx_Y yX8_requireKing cX8_requireKing 2 none 1 := ⟨(rx_g4 180 rfl rfl), (rx_g1 1 rfl rfl), (by decide +kernel), (by decide +kernel), (by decide +kernel)⟩
set_option maxRecDepth 100000 in
theorem V_X8_requireKing : rx_YV yX8_requireKing := ⟨(rx_g4 179 rfl rfl), (rx_g0 51 rfl rfl)⟩
set_option maxRecDepth 100000 in
theorem Y_X8_requireLength : rx_Y yX8_requireLength cX8_requireLength 2 none 1 := ⟨(rx_g3 59 rfl rfl), (rx_g1 1 rfl rfl), (by decide +kernel), (by decide +kernel), (by decide +kernel)⟩
set_option maxRecDepth 100000 in
theorem V_X8_requireLength : rx_YV yX8_requireLength := ⟨(rx_g3 58 rfl rfl), (rx_g0 28 rfl rfl)⟩
set_option maxRecDepth 100000 in
theorem Y_X8_foresee : rx_Y yX8_foresee cX8_foresee 2 none 1 := ⟨(rx_g5 61 rfl rfl), (rx_g1 1 rfl rfl), (by decide +kernel), (by decide +kernel), (by decide +kernel)⟩
set_option maxRecDepth 100000 in
theorem V_X8_foresee : rx_YV yX8_foresee := ⟨(rx_g5 60 rfl rfl), (rx_g0 63 rfl rfl)⟩
set_option maxRecDepth 100000 in
theorem Y_X8_allow : rx_Y yX8_allow cX8_allow 5 none 3 := ⟨(rx_g5 97 rfl rfl), (rx_g1 1 rfl rfl), (by decide +kernel), (by decide +kernel), (by decide +kernel)⟩
set_option maxRecDepth 100000 in
theorem V_X8_allow : rx_YV yX8_allow := ⟨(rx_g5 96 rfl rfl), (rx_g0 65 rfl rfl)⟩
set_option maxRecDepth 100000 in
theorem Y_X8_writeNumber : rx_Y yX8_writeNumber cX8_writeNumber 2 none 1 := ⟨(rx_g3 25 rfl rfl), (rx_g1 1 rfl rfl), (by decide +kernel), (by decide +kernel), (by decide +kernel)⟩
set_option maxRecDepth 100000 in
theorem V_X8_writeNumber : rx_YV yX8_writeNumber := ⟨(rx_g3 24 rfl rfl), (rx_g0 24 rfl rfl)⟩
set_option maxRecDepth 100000 in
theorem Y_X8_writeByte : rx_Y yX8_writeByte cX8_writeByte 2 none 1 := ⟨(rx_g3 20 rfl rfl), (rx_g1 1 rfl rfl), (by decide +kernel), (by decide +kernel), (by decide +kernel)⟩
set_option maxRecDepth 100000 in
theorem V_X8_writeByte : rx_YV yX8_writeByte := ⟨(rx_g3 19 rfl rfl), (rx_g0 23 rfl rfl)⟩
set_option maxRecDepth 100000 in
theorem Y_X8_bankOf : rx_Y yX8_bankOf cX8_bankOf 1 (some .int) 1 := ⟨(rx_g2 123 rfl rfl), (rx_g1 1 rfl rfl), (by decide +kernel), (by decide +kernel), (by decide +kernel)⟩
set_option maxRecDepth 100000 in
theorem S_X8_bankOf : Cond.static yX8_bankOf ∈ rx_good := (rx_g2 122 rfl rfl)
set_option maxRecDepth 100000 in
theorem Y_X8_at : rx_Y yX8_at cX8_at 2 (some .int) 2 := ⟨(rx_g2 53 rfl rfl), (rx_g1 1 rfl rfl), (by decide +kernel), (by decide +kernel), (by decide +kernel)⟩
set_option maxRecDepth 100000 in
theorem S_X8_at : Cond.static yX8_at ∈ rx_good := (rx_g2 52 rfl rfl)
set_option maxRecDepth 100000 in
theorem Y_X8_put : rx_Y yX8_put cX8_put 3 none 3 := ⟨(rx_g2 24 rfl rfl), (rx_g1 1 rfl rfl), (by decide +kernel), (by decide +kernel), (by decide +kernel)⟩
set_option maxRecDepth 100000 in
theorem S_X8_put : Cond.static yX8_put ∈ rx_good := (rx_g2 23 rfl rfl)
set_option maxRecDepth 100000 in
theorem Y_X8_add : rx_Y yX8_add cX8_add 3 none 3 := ⟨(rx_g5 38 rfl rfl), (rx_g1 1 rfl rfl), (by decide +kernel), (by decide +kernel), (by decide +kernel)⟩
set_option maxRecDepth 100000 in
theorem S_X8_add : Cond.static yX8_add ∈ rx_good := (rx_g5 37 rfl rfl)
set_option maxRecDepth 100000 in
theorem Y_X8_copyRow : rx_Y yX8_copyRow cX8_copyRow 2 none 2 := ⟨(rx_g2 36 rfl rfl), (rx_g1 1 rfl rfl), (by decide +kernel), (by decide +kernel), (by decide +kernel)⟩
set_option maxRecDepth 100000 in
theorem S_X8_copyRow : Cond.static yX8_copyRow ∈ rx_good := (rx_g2 35 rfl rfl)
set_option maxRecDepth 100000 in
theorem Y_X8_readHeader : rx_Y yX8_readHeader cX8_readHeader 6 none 2 := ⟨(rx_g3 157 rfl rfl), (rx_g1 1 rfl rfl), (by decide +kernel), (by decide +kernel), (by decide +kernel)⟩
set_option maxRecDepth 100000 in
theorem S_X8_readHeader : Cond.static yX8_readHeader ∈ rx_good := (rx_g3 156 rfl rfl)
set_option maxRecDepth 100000 in
theorem Y_X8_readPeople : rx_Y yX8_readPeople cX8_readPeople 3 none 2 := ⟨(rx_g3 229 rfl rfl), (rx_g1 1 rfl rfl), (by decide +kernel), (by decide +kernel), (by decide +kernel)⟩
set_option maxRecDepth 100000 in
theorem S_X8_readPeople : Cond.static yX8_readPeople ∈ rx_good := (rx_g3 228 rfl rfl)
set_option maxRecDepth 100000 in
theorem Y_X8_isAtPerson : rx_Y yX8_isAtPerson cX8_isAtPerson 1 (some .boolean) 1 := ⟨(rx_g3 232 rfl rfl), (rx_g1 1 rfl rfl), (by decide +kernel), (by decide +kernel), (by decide +kernel)⟩
set_option maxRecDepth 100000 in
theorem S_X8_isAtPerson : Cond.static yX8_isAtPerson ∈ rx_good := (rx_g3 231 rfl rfl)
set_option maxRecDepth 100000 in
theorem Y_X8_readPerson : rx_Y yX8_readPerson cX8_readPerson 7 none 2 := ⟨(rx_g3 239 rfl rfl), (rx_g1 1 rfl rfl), (by decide +kernel), (by decide +kernel), (by decide +kernel)⟩
set_option maxRecDepth 100000 in
theorem S_X8_readPerson : Cond.static yX8_readPerson ∈ rx_good := (rx_g3 238 rfl rfl)
set_option maxRecDepth 100000 in
theorem Y_X8_readBridges : rx_Y yX8_readBridges cX8_readBridges 3 none 2 := ⟨(rx_g4 8 rfl rfl), (rx_g1 1 rfl rfl), (by decide +kernel), (by decide +kernel), (by decide +kernel)⟩
set_option maxRecDepth 100000 in
theorem S_X8_readBridges : Cond.static yX8_readBridges ∈ rx_good := (rx_g4 7 rfl rfl)
set_option maxRecDepth 100000 in
theorem Y_X8_readBridge : rx_Y yX8_readBridge cX8_readBridge 5 none 2 := ⟨(rx_g4 12 rfl rfl), (rx_g1 1 rfl rfl), (by decide +kernel), (by decide +kernel), (by decide +kernel)⟩
set_option maxRecDepth 100000 in
theorem S_X8_readBridge : Cond.static yX8_readBridge ∈ rx_good := (rx_g4 11 rfl rfl)
set_option maxRecDepth 100000 in
theorem Y_X9_thrown : rx_Y yX9_thrown cX9_thrown 1 (some .int) 0 := ⟨(rx_g6 103 rfl rfl), (rx_g1 10 rfl rfl), (by decide +kernel), (by decide +kernel), (by decide +kernel)⟩
set_option maxRecDepth 100000 in
theorem V_X9_thrown : rx_YV yX9_thrown := ⟨(rx_g6 101 rfl rfl), (rx_g6 102 rfl rfl)⟩
set_option maxRecDepth 100000 in
theorem Y_X9_in : rx_Y yX9_in cX9_in 3 (some .boolean) 3 := ⟨(rx_g6 119 rfl rfl), (rx_g1 10 rfl rfl), (by decide +kernel), (by decide +kernel), (by decide +kernel)⟩
set_option maxRecDepth 100000 in
theorem S_X9_in : Cond.static yX9_in ∈ rx_good := (rx_g6 118 rfl rfl)
set_option maxRecDepth 100000 in
theorem Y_X9_fails : rx_Y yX9_fails cX9_fails 3 (some .boolean) 2 := ⟨(rx_g6 123 rfl rfl), (rx_g1 10 rfl rfl), (by decide +kernel), (by decide +kernel), (by decide +kernel)⟩
set_option maxRecDepth 100000 in
theorem V_X9_fails : rx_YV yX9_fails := ⟨(rx_g6 122 rfl rfl), (rx_g0 87 rfl rfl)⟩
set_option maxRecDepth 100000 in
theorem Y_X9_truth : rx_Y yX9_truth cX9_truth 1 (some .int) 1 := ⟨(rx_g6 187 rfl rfl), (rx_g1 10 rfl rfl), (by decide +kernel), (by decide +kernel), (by decide +kernel)⟩
set_option maxRecDepth 100000 in
theorem S_X9_truth : Cond.static yX9_truth ∈ rx_good := (rx_g6 186 rfl rfl)
set_option maxRecDepth 100000 in
theorem Y_X9_plain : rx_Y yX9_plain cX9_plain 1 (some .int) 1 := ⟨(rx_g8 97 rfl rfl), (rx_g1 10 rfl rfl), (by decide +kernel), (by decide +kernel), (by decide +kernel)⟩
set_option maxRecDepth 100000 in
theorem S_X9_plain : Cond.static yX9_plain ∈ rx_good := (rx_g8 96 rfl rfl)
set_option maxRecDepth 100000 in
theorem Y_X9_init : rx_Y yX9_init cX9_init 3 none 0 := ⟨(rx_g6 108 rfl rfl), (rx_g1 10 rfl rfl), (by decide +kernel), (by decide +kernel), (by decide +kernel)⟩
set_option maxRecDepth 100000 in
theorem I_X9_init : Cond.instanceMethod yX9_init ∈ rx_good := (rx_g6 107 rfl rfl)
set_option maxRecDepth 100000 in
theorem Y_X9_copies : rx_Y yX9_copies cX9_copies 6 none 5 := ⟨(rx_g6 126 rfl rfl), (rx_g1 10 rfl rfl), (by decide +kernel), (by decide +kernel), (by decide +kernel)⟩
set_option maxRecDepth 100000 in
theorem S_X9_copies : Cond.static yX9_copies ∈ rx_good := (rx_g6 125 rfl rfl)
set_option maxRecDepth 100000 in
theorem Y_X9_of : rx_Y yX9_of cX9_of 3 (some .int) 2 := ⟨(rx_g7 79 rfl rfl), (rx_g1 10 rfl rfl), (by decide +kernel), (by decide +kernel), (by decide +kernel)⟩
set_option maxRecDepth 100000 in
theorem V_X9_of : rx_YV yX9_of := ⟨(rx_g7 78 rfl rfl), (rx_g0 106 rfl rfl)⟩
set_option maxRecDepth 100000 in
theorem Y_X9_lays : rx_Y yX9_lays cX9_lays 4 none 3 := ⟨(rx_g6 197 rfl rfl), (rx_g1 10 rfl rfl), (by decide +kernel), (by decide +kernel), (by decide +kernel)⟩
set_option maxRecDepth 100000 in
theorem V_X9_lays : rx_YV yX9_lays := ⟨(rx_g6 196 rfl rfl), (rx_g0 101 rfl rfl)⟩
set_option maxRecDepth 100000 in
theorem Y_X9_ofRoyal : rx_Y yX9_ofRoyal cX9_ofRoyal 3 (some .int) 2 := ⟨(rx_g7 194 rfl rfl), (rx_g1 10 rfl rfl), (by decide +kernel), (by decide +kernel), (by decide +kernel)⟩
set_option maxRecDepth 100000 in
theorem V_X9_ofRoyal : rx_YV yX9_ofRoyal := ⟨(rx_g7 193 rfl rfl), (rx_g0 115 rfl rfl)⟩
set_option maxRecDepth 100000 in
theorem Y_X9_laysRoyal : rx_Y yX9_laysRoyal cX9_laysRoyal 4 none 3 := ⟨(rx_g6 201 rfl rfl), (rx_g1 10 rfl rfl), (by decide +kernel), (by decide +kernel), (by decide +kernel)⟩
set_option maxRecDepth 100000 in
theorem V_X9_laysRoyal : rx_YV yX9_laysRoyal := ⟨(rx_g6 200 rfl rfl), (rx_g0 102 rfl rfl)⟩
set_option maxRecDepth 100000 in
theorem Y_X9_ofBridge : rx_Y yX9_ofBridge cX9_ofBridge 3 (some .int) 2 := ⟨(rx_g8 30 rfl rfl), (rx_g1 10 rfl rfl), (by decide +kernel), (by decide +kernel), (by decide +kernel)⟩
set_option maxRecDepth 100000 in
theorem V_X9_ofBridge : rx_YV yX9_ofBridge := ⟨(rx_g8 29 rfl rfl), (rx_g0 124 rfl rfl)⟩
set_option maxRecDepth 100000 in
theorem Y_X9_isKingNow : rx_Y yX9_isKingNow cX9_isKingNow 2 (some .boolean) 1 := ⟨(rx_g7 95 rfl rfl), (rx_g1 10 rfl rfl), (by decide +kernel), (by decide +kernel), (by decide +kernel)⟩
set_option maxRecDepth 100000 in
theorem V_X9_isKingNow : rx_YV yX9_isKingNow := ⟨(rx_g7 94 rfl rfl), (rx_g0 108 rfl rfl)⟩
set_option maxRecDepth 100000 in
theorem Y_X9_bow : rx_Y yX9_bow cX9_bow 3 (some .int) 2 := ⟨(rx_g7 142 rfl rfl), (rx_g1 10 rfl rfl), (by decide +kernel), (by decide +kernel), (by decide +kernel)⟩
set_option maxRecDepth 100000 in
theorem S_X9_bow : Cond.static yX9_bow ∈ rx_good := (rx_g7 141 rfl rfl)
set_option maxRecDepth 100000 in
theorem Y_X9_rankOf : rx_Y yX9_rankOf cX9_rankOf 2 (some .int) 1 := ⟨(rx_g7 139 rfl rfl), (rx_g1 10 rfl rfl), (by decide +kernel), (by decide +kernel), (by decide +kernel)⟩
set_option maxRecDepth 100000 in
theorem V_X9_rankOf : rx_YV yX9_rankOf := ⟨(rx_g7 138 rfl rfl), (rx_g0 110 rfl rfl)⟩
set_option maxRecDepth 100000 in
theorem Y_X9_keeperBow : rx_Y yX9_keeperBow cX9_keeperBow 3 (some .int) 2 := ⟨(rx_g7 150 rfl rfl), (rx_g1 10 rfl rfl), (by decide +kernel), (by decide +kernel), (by decide +kernel)⟩
set_option maxRecDepth 100000 in
theorem V_X9_keeperBow : rx_YV yX9_keeperBow := ⟨(rx_g7 149 rfl rfl), (rx_g0 111 rfl rfl)⟩
set_option maxRecDepth 100000 in
theorem Y_X9_isTaken : rx_Y yX9_isTaken cX9_isTaken 3 (some .boolean) 2 := ⟨(rx_g7 158 rfl rfl), (rx_g1 10 rfl rfl), (by decide +kernel), (by decide +kernel), (by decide +kernel)⟩
set_option maxRecDepth 100000 in
theorem V_X9_isTaken : rx_YV yX9_isTaken := ⟨(rx_g7 157 rfl rfl), (rx_g0 112 rfl rfl)⟩
set_option maxRecDepth 100000 in
theorem Y_X9_tollWith : rx_Y yX9_tollWith cX9_tollWith 3 (some .int) 2 := ⟨(rx_g7 166 rfl rfl), (rx_g1 10 rfl rfl), (by decide +kernel), (by decide +kernel), (by decide +kernel)⟩
set_option maxRecDepth 100000 in
theorem V_X9_tollWith : rx_YV yX9_tollWith := ⟨(rx_g7 165 rfl rfl), (rx_g0 113 rfl rfl)⟩
set_option maxRecDepth 100000 in
theorem Y_X9_isQueued : rx_Y yX9_isQueued cX9_isQueued 2 (some .boolean) 1 := ⟨(rx_g7 234 rfl rfl), (rx_g1 10 rfl rfl), (by decide +kernel), (by decide +kernel), (by decide +kernel)⟩
set_option maxRecDepth 100000 in
theorem V_X9_isQueued : rx_YV yX9_isQueued := ⟨(rx_g7 233 rfl rfl), (rx_g0 119 rfl rfl)⟩
set_option maxRecDepth 100000 in
theorem Y_X9_isAhead : rx_Y yX9_isAhead cX9_isAhead 3 (some .boolean) 2 := ⟨(rx_g8 10 rfl rfl), (rx_g1 10 rfl rfl), (by decide +kernel), (by decide +kernel), (by decide +kernel)⟩
set_option maxRecDepth 100000 in
theorem V_X9_isAhead : rx_YV yX9_isAhead := ⟨(rx_g8 9 rfl rfl), (rx_g0 122 rfl rfl)⟩
set_option maxRecDepth 100000 in
theorem Y_X9_placeOf : rx_Y yX9_placeOf cX9_placeOf 4 (some .int) 1 := ⟨(rx_g8 6 rfl rfl), (rx_g1 10 rfl rfl), (by decide +kernel), (by decide +kernel), (by decide +kernel)⟩
set_option maxRecDepth 100000 in
theorem V_X9_placeOf : rx_YV yX9_placeOf := ⟨(rx_g8 5 rfl rfl), (rx_g0 121 rfl rfl)⟩
set_option maxRecDepth 100000 in
theorem Y_X9_at : rx_Y yX9_at cX9_at 4 (some .int) 2 := ⟨(rx_g8 2 rfl rfl), (rx_g1 10 rfl rfl), (by decide +kernel), (by decide +kernel), (by decide +kernel)⟩
set_option maxRecDepth 100000 in
theorem V_X9_at : rx_YV yX9_at := ⟨(rx_g8 1 rfl rfl), (rx_g0 120 rfl rfl)⟩
set_option maxRecDepth 100000 in
theorem Y_X9_lengthOf : rx_Y yX9_lengthOf cX9_lengthOf 4 (some .int) 1 := ⟨(rx_g7 230 rfl rfl), (rx_g1 10 rfl rfl), (by decide +kernel), (by decide +kernel), (by decide +kernel)⟩
set_option maxRecDepth 100000 in
theorem V_X9_lengthOf : rx_YV yX9_lengthOf := ⟨(rx_g7 229 rfl rfl), (rx_g0 118 rfl rfl)⟩
set_option maxRecDepth 100000 in
theorem Y_X9_isOpenNow : rx_Y yX9_isOpenNow cX9_isOpenNow 2 (some .boolean) 1 := ⟨(rx_g8 26 rfl rfl), (rx_g1 10 rfl rfl), (by decide +kernel), (by decide +kernel), (by decide +kernel)⟩
set_option maxRecDepth 100000 in
theorem V_X9_isOpenNow : rx_YV yX9_isOpenNow := ⟨(rx_g8 25 rfl rfl), (rx_g0 123 rfl rfl)⟩
set_option maxRecDepth 100000 in
theorem Y_X9_bounds : rx_Y yX9_bounds cX9_bounds 2 none 1 := ⟨(rx_g8 70 rfl rfl), (rx_g1 10 rfl rfl), (by decide +kernel), (by decide +kernel), (by decide +kernel)⟩
set_option maxRecDepth 100000 in
theorem V_X9_bounds : rx_YV yX9_bounds := ⟨(rx_g8 69 rfl rfl), (rx_g0 131 rfl rfl)⟩
set_option maxRecDepth 100000 in
theorem Y_X9_countsCoins : rx_Y yX9_countsCoins cX9_countsCoins 3 none 1 := ⟨(rx_g8 66 rfl rfl), (rx_g1 10 rfl rfl), (by decide +kernel), (by decide +kernel), (by decide +kernel)⟩
set_option maxRecDepth 100000 in
theorem V_X9_countsCoins : rx_YV yX9_countsCoins := ⟨(rx_g8 65 rfl rfl), (rx_g0 130 rfl rfl)⟩
set_option maxRecDepth 100000 in
theorem Y_X9_crosses : rx_Y yX9_crosses cX9_crosses 4 (some .boolean) 1 := ⟨(rx_g8 62 rfl rfl), (rx_g1 10 rfl rfl), (by decide +kernel), (by decide +kernel), (by decide +kernel)⟩
set_option maxRecDepth 100000 in
theorem V_X9_crosses : rx_YV yX9_crosses := ⟨(rx_g8 61 rfl rfl), (rx_g0 129 rfl rfl)⟩
set_option maxRecDepth 100000 in
theorem Y_X9_passOne : rx_Y yX9_passOne cX9_passOne 7 (some .int) 0 := ⟨(rx_g8 58 rfl rfl), (rx_g1 10 rfl rfl), (by decide +kernel), (by decide +kernel), (by decide +kernel)⟩
set_option maxRecDepth 100000 in
theorem V_X9_passOne : rx_YV yX9_passOne := ⟨(rx_g8 57 rfl rfl), (rx_g0 128 rfl rfl)⟩
set_option maxRecDepth 100000 in
theorem Y_X9_passes : rx_Y yX9_passes cX9_passes 4 (some .int) 1 := ⟨(rx_g8 157 rfl rfl), (rx_g1 10 rfl rfl), (by decide +kernel), (by decide +kernel), (by decide +kernel)⟩
set_option maxRecDepth 100000 in
theorem V_X9_passes : rx_YV yX9_passes := ⟨(rx_g8 156 rfl rfl), (rx_g0 147 rfl rfl)⟩
set_option maxRecDepth 100000 in
theorem Y_X9_passesUpTo : rx_Y yX9_passesUpTo cX9_passesUpTo 4 none 1 := ⟨(rx_g8 82 rfl rfl), (rx_g1 10 rfl rfl), (by decide +kernel), (by decide +kernel), (by decide +kernel)⟩
set_option maxRecDepth 100000 in
theorem V_X9_passesUpTo : rx_YV yX9_passesUpTo := ⟨(rx_g8 81 rfl rfl), (rx_g0 133 rfl rfl)⟩
set_option maxRecDepth 100000 in
theorem Y_X9_royalsOf : rx_Y yX9_royalsOf cX9_royalsOf 4 (some .int) 1 := ⟨(rx_g7 210 rfl rfl), (rx_g1 10 rfl rfl), (by decide +kernel), (by decide +kernel), (by decide +kernel)⟩
set_option maxRecDepth 100000 in
theorem V_X9_royalsOf : rx_YV yX9_royalsOf := ⟨(rx_g7 209 rfl rfl), (rx_g0 116 rfl rfl)⟩
set_option maxRecDepth 100000 in
theorem Y_X9_liesBefore : rx_Y yX9_liesBefore cX9_liesBefore 3 (some .boolean) 2 := ⟨(rx_g8 117 rfl rfl), (rx_g1 10 rfl rfl), (by decide +kernel), (by decide +kernel), (by decide +kernel)⟩
set_option maxRecDepth 100000 in
theorem V_X9_liesBefore : rx_YV yX9_liesBefore := ⟨(rx_g8 116 rfl rfl), (rx_g0 137 rfl rfl)⟩
set_option maxRecDepth 100000 in
theorem Y_X9_can : rx_Y yX9_can cX9_can 4 (some .boolean) 3 := ⟨(rx_g8 113 rfl rfl), (rx_g1 10 rfl rfl), (by decide +kernel), (by decide +kernel), (by decide +kernel)⟩
set_option maxRecDepth 100000 in
theorem V_X9_can : rx_YV yX9_can := ⟨(rx_g8 112 rfl rfl), (rx_g0 136 rfl rfl)⟩
set_option maxRecDepth 100000 in
theorem Y_X9_moves : rx_Y yX9_moves cX9_moves 3 (some .int) 2 := ⟨(rx_g8 129 rfl rfl), (rx_g1 10 rfl rfl), (by decide +kernel), (by decide +kernel), (by decide +kernel)⟩
set_option maxRecDepth 100000 in
theorem V_X9_moves : rx_YV yX9_moves := ⟨(rx_g8 128 rfl rfl), (rx_g0 140 rfl rfl)⟩
set_option maxRecDepth 100000 in
theorem Y_X9_laysDown : rx_Y yX9_laysDown cX9_laysDown 3 (some .int) 2 := ⟨(rx_g8 133 rfl rfl), (rx_g1 10 rfl rfl), (by decide +kernel), (by decide +kernel), (by decide +kernel)⟩
set_option maxRecDepth 100000 in
theorem V_X9_laysDown : rx_YV yX9_laysDown := ⟨(rx_g8 132 rfl rfl), (rx_g0 141 rfl rfl)⟩
set_option maxRecDepth 100000 in
theorem Y_X9_lifts : rx_Y yX9_lifts cX9_lifts 3 (some .int) 2 := ⟨(rx_g8 137 rfl rfl), (rx_g1 10 rfl rfl), (by decide +kernel), (by decide +kernel), (by decide +kernel)⟩
set_option maxRecDepth 100000 in
theorem V_X9_lifts : rx_YV yX9_lifts := ⟨(rx_g8 136 rfl rfl), (rx_g0 142 rfl rfl)⟩
set_option maxRecDepth 100000 in
theorem Y_X9_swaps : rx_Y yX9_swaps cX9_swaps 4 (some .int) 2 := ⟨(rx_g8 141 rfl rfl), (rx_g1 10 rfl rfl), (by decide +kernel), (by decide +kernel), (by decide +kernel)⟩
set_option maxRecDepth 100000 in
theorem V_X9_swaps : rx_YV yX9_swaps := ⟨(rx_g8 140 rfl rfl), (rx_g0 143 rfl rfl)⟩
set_option maxRecDepth 100000 in
theorem Y_X9_joins : rx_Y yX9_joins cX9_joins 3 (some .int) 2 := ⟨(rx_g8 145 rfl rfl), (rx_g1 10 rfl rfl), (by decide +kernel), (by decide +kernel), (by decide +kernel)⟩
set_option maxRecDepth 100000 in
theorem V_X9_joins : rx_YV yX9_joins := ⟨(rx_g8 144 rfl rfl), (rx_g0 144 rfl rfl)⟩
set_option maxRecDepth 100000 in
theorem Y_X9_quits : rx_Y yX9_quits cX9_quits 3 (some .int) 1 := ⟨(rx_g8 149 rfl rfl), (rx_g1 10 rfl rfl), (by decide +kernel), (by decide +kernel), (by decide +kernel)⟩
set_option maxRecDepth 100000 in
theorem V_X9_quits : rx_YV yX9_quits := ⟨(rx_g8 148 rfl rfl), (rx_g0 145 rfl rfl)⟩
set_option maxRecDepth 100000 in
theorem Y_X9_becomesProud : rx_Y yX9_becomesProud cX9_becomesProud 4 (some .int) 2 := ⟨(rx_g8 153 rfl rfl), (rx_g1 10 rfl rfl), (by decide +kernel), (by decide +kernel), (by decide +kernel)⟩
set_option maxRecDepth 100000 in
theorem V_X9_becomesProud : rx_YV yX9_becomesProud := ⟨(rx_g8 152 rfl rfl), (rx_g0 146 rfl rfl)⟩
set_option maxRecDepth 100000 in
theorem Y_X9_does : rx_Y yX9_does cX9_does 5 (some .int) 3 := ⟨(rx_g8 125 rfl rfl), (rx_g1 10 rfl rfl), (by decide +kernel), (by decide +kernel), (by decide +kernel)⟩
set_option maxRecDepth 100000 in
theorem V_X9_does : rx_YV yX9_does := ⟨(rx_g8 124 rfl rfl), (rx_g0 139 rfl rfl)⟩
set_option maxRecDepth 100000 in
theorem Y_X9_bytes : rx_Y yX9_bytes cX9_bytes 3 none 1 := ⟨(rx_g7 38 rfl rfl), (rx_g1 10 rfl rfl), (by decide +kernel), (by decide +kernel), (by decide +kernel)⟩
set_option maxRecDepth 100000 in
theorem V_X9_bytes : rx_YV yX9_bytes := ⟨(rx_g7 37 rfl rfl), (rx_g0 104 rfl rfl)⟩
set_option maxRecDepth 100000 in
theorem Y_X9_appendText : rx_Y yX9_appendText cX9_appendText 6 (some .int) 5 := ⟨(rx_g7 34 rfl rfl), (rx_g1 10 rfl rfl), (by decide +kernel), (by decide +kernel), (by decide +kernel)⟩
set_option maxRecDepth 100000 in
theorem V_X9_appendText : rx_YV yX9_appendText := ⟨(rx_g7 32 rfl rfl), (rx_g7 33 rfl rfl)⟩
set_option maxRecDepth 100000 in
theorem Y_X9_errorCode : rx_Y yX9_errorCode cX9_errorCode 1 (some .int) 0 := ⟨(rx_g7 42 rfl rfl), (rx_g1 10 rfl rfl), (by decide +kernel), (by decide +kernel), (by decide +kernel)⟩
set_option maxRecDepth 100000 in
theorem V_X9_errorCode : rx_YV yX9_errorCode := ⟨(rx_g7 40 rfl rfl), (rx_g7 41 rfl rfl)⟩
set_option maxRecDepth 100000 in
theorem Y_X9_errorOffset : rx_Y yX9_errorOffset cX9_errorOffset 1 (some .int) 0 := ⟨(rx_g7 46 rfl rfl), (rx_g1 10 rfl rfl), (by decide +kernel), (by decide +kernel), (by decide +kernel)⟩
set_option maxRecDepth 100000 in
theorem V_X9_errorOffset : rx_YV yX9_errorOffset := ⟨(rx_g7 44 rfl rfl), (rx_g7 45 rfl rfl)⟩
set_option maxRecDepth 100000 in
theorem Y_X9_byteAt : rx_Y yX9_byteAt cX9_byteAt 2 (some .int) 1 := ⟨(rx_g6 138 rfl rfl), (rx_g1 10 rfl rfl), (by decide +kernel), (by decide +kernel), (by decide +kernel)⟩
set_option maxRecDepth 100000 in
theorem V_X9_byteAt : rx_YV yX9_byteAt := ⟨(rx_g6 137 rfl rfl), (rx_g0 90 rfl rfl)⟩
set_option maxRecDepth 100000 in
theorem Y_X9_isLetter : rx_Y yX9_isLetter cX9_isLetter 1 (some .boolean) 1 := ⟨(rx_g6 141 rfl rfl), (rx_g1 10 rfl rfl), (by decide +kernel), (by decide +kernel), (by decide +kernel)⟩
set_option maxRecDepth 100000 in
theorem S_X9_isLetter : Cond.static yX9_isLetter ∈ rx_good := (rx_g6 140 rfl rfl)
set_option maxRecDepth 100000 in
theorem Y_X9_isFigure : rx_Y yX9_isFigure cX9_isFigure 1 (some .boolean) 1 := ⟨(rx_g6 144 rfl rfl), (rx_g1 10 rfl rfl), (by decide +kernel), (by decide +kernel), (by decide +kernel)⟩
set_option maxRecDepth 100000 in
theorem S_X9_isFigure : Cond.static yX9_isFigure ∈ rx_good := (rx_g6 143 rfl rfl)
set_option maxRecDepth 100000 in
theorem Y_X9_readsNumber : rx_Y yX9_readsNumber cX9_readsNumber 1 none 0 := ⟨(rx_g6 148 rfl rfl), (rx_g1 10 rfl rfl), (by decide +kernel), (by decide +kernel), (by decide +kernel)⟩
set_option maxRecDepth 100000 in
theorem V_X9_readsNumber : rx_YV yX9_readsNumber := ⟨(rx_g6 147 rfl rfl), (rx_g0 91 rfl rfl)⟩
set_option maxRecDepth 100000 in
theorem Y_X9_next : rx_Y yX9_next cX9_next 1 none 0 := ⟨(rx_g6 134 rfl rfl), (rx_g1 10 rfl rfl), (by decide +kernel), (by decide +kernel), (by decide +kernel)⟩
set_option maxRecDepth 100000 in
theorem V_X9_next : rx_YV yX9_next := ⟨(rx_g6 133 rfl rfl), (rx_g0 89 rfl rfl)⟩
set_option maxRecDepth 100000 in
theorem Y_X9_starts : rx_Y yX9_starts cX9_starts 2 none 1 := ⟨(rx_g6 130 rfl rfl), (rx_g1 10 rfl rfl), (by decide +kernel), (by decide +kernel), (by decide +kernel)⟩
set_option maxRecDepth 100000 in
theorem V_X9_starts : rx_YV yX9_starts := ⟨(rx_g6 129 rfl rfl), (rx_g0 88 rfl rfl)⟩
set_option maxRecDepth 100000 in
theorem Y_X9_errs : rx_Y yX9_errs cX9_errs 2 none 1 := ⟨(rx_g6 166 rfl rfl), (rx_g1 10 rfl rfl), (by decide +kernel), (by decide +kernel), (by decide +kernel)⟩
set_option maxRecDepth 100000 in
theorem V_X9_errs : rx_YV yX9_errs := ⟨(rx_g6 165 rfl rfl), (rx_g0 95 rfl rfl)⟩
set_option maxRecDepth 100000 in
theorem Y_X9_isWord : rx_Y yX9_isWord cX9_isWord 3 (some .boolean) 1 := ⟨(rx_g6 162 rfl rfl), (rx_g1 10 rfl rfl), (by decide +kernel), (by decide +kernel), (by decide +kernel)⟩
set_option maxRecDepth 100000 in
theorem V_X9_isWord : rx_YV yX9_isWord := ⟨(rx_g6 161 rfl rfl), (rx_g0 94 rfl rfl)⟩
set_option maxRecDepth 100000 in
theorem Y_X9_mustWord : rx_Y yX9_mustWord cX9_mustWord 2 none 1 := ⟨(rx_g6 158 rfl rfl), (rx_g1 10 rfl rfl), (by decide +kernel), (by decide +kernel), (by decide +kernel)⟩
set_option maxRecDepth 100000 in
theorem V_X9_mustWord : rx_YV yX9_mustWord := ⟨(rx_g6 157 rfl rfl), (rx_g0 93 rfl rfl)⟩
set_option maxRecDepth 100000 in
theorem Y_X9_semicolon : rx_Y yX9_semicolon cX9_semicolon 1 none 0 := ⟨(rx_g6 174 rfl rfl), (rx_g1 10 rfl rfl), (by decide +kernel), (by decide +kernel), (by decide +kernel)⟩
set_option maxRecDepth 100000 in
theorem V_X9_semicolon : rx_YV yX9_semicolon := ⟨(rx_g6 173 rfl rfl), (rx_g0 97 rfl rfl)⟩
set_option maxRecDepth 100000 in
theorem Y_X9_number0 : rx_Y yX9_number0 cX9_number0 4 (some .int) 2 := ⟨(rx_g6 170 rfl rfl), (rx_g1 10 rfl rfl), (by decide +kernel), (by decide +kernel), (by decide +kernel)⟩
set_option maxRecDepth 100000 in
theorem V_X9_number0 : rx_YV yX9_number0 := ⟨(rx_g6 169 rfl rfl), (rx_g0 96 rfl rfl)⟩
set_option maxRecDepth 100000 in
theorem Y_X9_isPersonHere : rx_Y yX9_isPersonHere cX9_isPersonHere 1 (some .boolean) 0 := ⟨(rx_g6 178 rfl rfl), (rx_g1 10 rfl rfl), (by decide +kernel), (by decide +kernel), (by decide +kernel)⟩
set_option maxRecDepth 100000 in
theorem V_X9_isPersonHere : rx_YV yX9_isPersonHere := ⟨(rx_g6 177 rfl rfl), (rx_g0 98 rfl rfl)⟩
set_option maxRecDepth 100000 in
theorem Y_X9_readsText : rx_Y yX9_readsText cX9_readsText 6 none 0 := ⟨(rx_g6 153 rfl rfl), (rx_g1 10 rfl rfl), (by decide +kernel), (by decide +kernel), (by decide +kernel)⟩
set_option maxRecDepth 100000 in
theorem V_X9_readsText : rx_YV yX9_readsText := ⟨(rx_g6 152 rfl rfl), (rx_g0 92 rfl rfl)⟩
set_option maxRecDepth 100000 in
theorem Y_X9_bankHere : rx_Y yX9_bankHere cX9_bankHere 1 (some .int) 0 := ⟨(rx_g6 191 rfl rfl), (rx_g1 10 rfl rfl), (by decide +kernel), (by decide +kernel), (by decide +kernel)⟩
set_option maxRecDepth 100000 in
theorem V_X9_bankHere : rx_YV yX9_bankHere := ⟨(rx_g6 190 rfl rfl), (rx_g0 100 rfl rfl)⟩
set_option maxRecDepth 100000 in
theorem Y_X9_readsPerson : rx_Y yX9_readsPerson cX9_readsPerson 7 none 0 := ⟨(rx_g6 184 rfl rfl), (rx_g1 10 rfl rfl), (by decide +kernel), (by decide +kernel), (by decide +kernel)⟩
set_option maxRecDepth 100000 in
theorem V_X9_readsPerson : rx_YV yX9_readsPerson := ⟨(rx_g6 183 rfl rfl), (rx_g0 99 rfl rfl)⟩
set_option maxRecDepth 100000 in
theorem Y_X9_readsBridge : rx_Y yX9_readsBridge cX9_readsBridge 5 none 0 := ⟨(rx_g6 205 rfl rfl), (rx_g1 10 rfl rfl), (by decide +kernel), (by decide +kernel), (by decide +kernel)⟩
set_option maxRecDepth 100000 in
theorem V_X9_readsBridge : rx_YV yX9_readsBridge := ⟨(rx_g6 204 rfl rfl), (rx_g0 103 rfl rfl)⟩
set_option maxRecDepth 100000 in
theorem Y_X9_loadGame : rx_Y yX9_loadGame cX9_loadGame 2 (some .int) 1 := ⟨(rx_g6 116 rfl rfl), (rx_g1 10 rfl rfl), (by decide +kernel), (by decide +kernel), (by decide +kernel)⟩
set_option maxRecDepth 100000 in
theorem V_X9_loadGame : rx_YV yX9_loadGame := ⟨(rx_g6 114 rfl rfl), (rx_g6 115 rfl rfl)⟩
set_option maxRecDepth 100000 in
theorem Y_X9_turn : rx_Y yX9_turn cX9_turn 1 (some .int) 0 := ⟨(rx_g7 51 rfl rfl), (rx_g1 10 rfl rfl), (by decide +kernel), (by decide +kernel), (by decide +kernel)⟩
set_option maxRecDepth 100000 in
theorem V_X9_turn : rx_YV yX9_turn := ⟨(rx_g7 49 rfl rfl), (rx_g7 50 rfl rfl)⟩
set_option maxRecDepth 100000 in
theorem Y_X9_limitAngle : rx_Y yX9_limitAngle cX9_limitAngle 1 (some .int) 0 := ⟨(rx_g7 55 rfl rfl), (rx_g1 10 rfl rfl), (by decide +kernel), (by decide +kernel), (by decide +kernel)⟩
set_option maxRecDepth 100000 in
theorem V_X9_limitAngle : rx_YV yX9_limitAngle := ⟨(rx_g7 53 rfl rfl), (rx_g7 54 rfl rfl)⟩
set_option maxRecDepth 100000 in
theorem Y_X9_tollBox : rx_Y yX9_tollBox cX9_tollBox 1 (some .int) 0 := ⟨(rx_g7 59 rfl rfl), (rx_g1 10 rfl rfl), (by decide +kernel), (by decide +kernel), (by decide +kernel)⟩
set_option maxRecDepth 100000 in
theorem V_X9_tollBox : rx_YV yX9_tollBox := ⟨(rx_g7 57 rfl rfl), (rx_g7 58 rfl rfl)⟩
set_option maxRecDepth 100000 in
theorem Y_X9_groundCoins : rx_Y yX9_groundCoins cX9_groundCoins 2 (some .int) 1 := ⟨(rx_g7 63 rfl rfl), (rx_g1 10 rfl rfl), (by decide +kernel), (by decide +kernel), (by decide +kernel)⟩
set_option maxRecDepth 100000 in
theorem V_X9_groundCoins : rx_YV yX9_groundCoins := ⟨(rx_g7 61 rfl rfl), (rx_g7 62 rfl rfl)⟩
set_option maxRecDepth 100000 in
theorem Y_X9_personCount : rx_Y yX9_personCount cX9_personCount 1 (some .int) 0 := ⟨(rx_g7 67 rfl rfl), (rx_g1 10 rfl rfl), (by decide +kernel), (by decide +kernel), (by decide +kernel)⟩
set_option maxRecDepth 100000 in
theorem V_X9_personCount : rx_YV yX9_personCount := ⟨(rx_g7 65 rfl rfl), (rx_g7 66 rfl rfl)⟩
set_option maxRecDepth 100000 in
theorem Y_X9_kings : rx_Y yX9_kings cX9_kings 3 (some .int) 0 := ⟨(rx_g7 75 rfl rfl), (rx_g1 10 rfl rfl), (by decide +kernel), (by decide +kernel), (by decide +kernel)⟩
set_option maxRecDepth 100000 in
theorem V_X9_kings : rx_YV yX9_kings := ⟨(rx_g7 74 rfl rfl), (rx_g0 105 rfl rfl)⟩
set_option maxRecDepth 100000 in
theorem Y_X9_kingCount : rx_Y yX9_kingCount cX9_kingCount 1 (some .int) 0 := ⟨(rx_g7 71 rfl rfl), (rx_g1 10 rfl rfl), (by decide +kernel), (by decide +kernel), (by decide +kernel)⟩
set_option maxRecDepth 100000 in
theorem V_X9_kingCount : rx_YV yX9_kingCount := ⟨(rx_g7 69 rfl rfl), (rx_g7 70 rfl rfl)⟩
set_option maxRecDepth 100000 in
theorem Y_X9_bankCount : rx_Y yX9_bankCount cX9_bankCount 4 (some .int) 1 := ⟨(rx_g7 83 rfl rfl), (rx_g1 10 rfl rfl), (by decide +kernel), (by decide +kernel), (by decide +kernel)⟩
set_option maxRecDepth 100000 in
theorem V_X9_bankCount : rx_YV yX9_bankCount := ⟨(rx_g7 81 rfl rfl), (rx_g7 82 rfl rfl)⟩
set_option maxRecDepth 100000 in
theorem Y_X9_noOne : rx_Y yX9_noOne cX9_noOne 2 (some .boolean) 1 := ⟨(rx_g7 91 rfl rfl), (rx_g1 10 rfl rfl), (by decide +kernel), (by decide +kernel), (by decide +kernel)⟩
set_option maxRecDepth 100000 in
theorem V_X9_noOne : rx_YV yX9_noOne := ⟨(rx_g7 90 rfl rfl), (rx_g0 107 rfl rfl)⟩
set_option maxRecDepth 100000 in
theorem Y_X9_isKing : rx_Y yX9_isKing cX9_isKing 2 (some .boolean) 1 := ⟨(rx_g7 87 rfl rfl), (rx_g1 10 rfl rfl), (by decide +kernel), (by decide +kernel), (by decide +kernel)⟩
set_option maxRecDepth 100000 in
theorem V_X9_isKing : rx_YV yX9_isKing := ⟨(rx_g7 85 rfl rfl), (rx_g7 86 rfl rfl)⟩
set_option maxRecDepth 100000 in
theorem Y_X9_isEast : rx_Y yX9_isEast cX9_isEast 2 (some .boolean) 1 := ⟨(rx_g7 99 rfl rfl), (rx_g1 10 rfl rfl), (by decide +kernel), (by decide +kernel), (by decide +kernel)⟩
set_option maxRecDepth 100000 in
theorem V_X9_isEast : rx_YV yX9_isEast := ⟨(rx_g7 97 rfl rfl), (rx_g7 98 rfl rfl)⟩
set_option maxRecDepth 100000 in
theorem Y_X9_asked : rx_Y yX9_asked cX9_asked 3 (some .int) 2 := ⟨(rx_g7 107 rfl rfl), (rx_g1 10 rfl rfl), (by decide +kernel), (by decide +kernel), (by decide +kernel)⟩
set_option maxRecDepth 100000 in
theorem V_X9_asked : rx_YV yX9_asked := ⟨(rx_g7 106 rfl rfl), (rx_g0 109 rfl rfl)⟩
set_option maxRecDepth 100000 in
theorem Y_X9_coins : rx_Y yX9_coins cX9_coins 2 (some .int) 1 := ⟨(rx_g7 103 rfl rfl), (rx_g1 10 rfl rfl), (by decide +kernel), (by decide +kernel), (by decide +kernel)⟩
set_option maxRecDepth 100000 in
theorem V_X9_coins : rx_YV yX9_coins := ⟨(rx_g7 101 rfl rfl), (rx_g7 102 rfl rfl)⟩
set_option maxRecDepth 100000 in
theorem Y_X9_pride : rx_Y yX9_pride cX9_pride 2 (some .int) 1 := ⟨(rx_g7 111 rfl rfl), (rx_g1 10 rfl rfl), (by decide +kernel), (by decide +kernel), (by decide +kernel)⟩
set_option maxRecDepth 100000 in
theorem V_X9_pride : rx_YV yX9_pride := ⟨(rx_g7 109 rfl rfl), (rx_g7 110 rfl rfl)⟩
set_option maxRecDepth 100000 in
theorem Y_X9_rags : rx_Y yX9_rags cX9_rags 2 (some .int) 1 := ⟨(rx_g7 115 rfl rfl), (rx_g1 10 rfl rfl), (by decide +kernel), (by decide +kernel), (by decide +kernel)⟩
set_option maxRecDepth 100000 in
theorem V_X9_rags : rx_YV yX9_rags := ⟨(rx_g7 113 rfl rfl), (rx_g7 114 rfl rfl)⟩
set_option maxRecDepth 100000 in
theorem Y_X9_rank : rx_Y yX9_rank cX9_rank 2 (some .int) 1 := ⟨(rx_g7 119 rfl rfl), (rx_g1 10 rfl rfl), (by decide +kernel), (by decide +kernel), (by decide +kernel)⟩
set_option maxRecDepth 100000 in
theorem V_X9_rank : rx_YV yX9_rank := ⟨(rx_g7 117 rfl rfl), (rx_g7 118 rfl rfl)⟩
set_option maxRecDepth 100000 in
theorem Y_X9_wearer : rx_Y yX9_wearer cX9_wearer 3 (some .int) 1 := ⟨(rx_g7 123 rfl rfl), (rx_g1 10 rfl rfl), (by decide +kernel), (by decide +kernel), (by decide +kernel)⟩
set_option maxRecDepth 100000 in
theorem V_X9_wearer : rx_YV yX9_wearer := ⟨(rx_g7 121 rfl rfl), (rx_g7 122 rfl rfl)⟩
set_option maxRecDepth 100000 in
theorem Y_X9_crossings : rx_Y yX9_crossings cX9_crossings 2 (some .int) 1 := ⟨(rx_g7 127 rfl rfl), (rx_g1 10 rfl rfl), (by decide +kernel), (by decide +kernel), (by decide +kernel)⟩
set_option maxRecDepth 100000 in
theorem V_X9_crossings : rx_YV yX9_crossings := ⟨(rx_g7 125 rfl rfl), (rx_g7 126 rfl rfl)⟩
set_option maxRecDepth 100000 in
theorem Y_X9_richest : rx_Y yX9_richest cX9_richest 3 (some .int) 0 := ⟨(rx_g7 131 rfl rfl), (rx_g1 10 rfl rfl), (by decide +kernel), (by decide +kernel), (by decide +kernel)⟩
set_option maxRecDepth 100000 in
theorem V_X9_richest : rx_YV yX9_richest := ⟨(rx_g7 129 rfl rfl), (rx_g7 130 rfl rfl)⟩
set_option maxRecDepth 100000 in
theorem Y_X9_bowTo : rx_Y yX9_bowTo cX9_bowTo 3 (some .int) 2 := ⟨(rx_g7 135 rfl rfl), (rx_g1 10 rfl rfl), (by decide +kernel), (by decide +kernel), (by decide +kernel)⟩
set_option maxRecDepth 100000 in
theorem V_X9_bowTo : rx_YV yX9_bowTo := ⟨(rx_g7 133 rfl rfl), (rx_g7 134 rfl rfl)⟩
set_option maxRecDepth 100000 in
theorem Y_X9_bowToKeeper : rx_Y yX9_bowToKeeper cX9_bowToKeeper 2 (some .int) 1 := ⟨(rx_g7 146 rfl rfl), (rx_g1 10 rfl rfl), (by decide +kernel), (by decide +kernel), (by decide +kernel)⟩
set_option maxRecDepth 100000 in
theorem V_X9_bowToKeeper : rx_YV yX9_bowToKeeper := ⟨(rx_g7 144 rfl rfl), (rx_g7 145 rfl rfl)⟩
set_option maxRecDepth 100000 in
theorem Y_X9_isTakenForKing : rx_Y yX9_isTakenForKing cX9_isTakenForKing 2 (some .boolean) 1 := ⟨(rx_g7 154 rfl rfl), (rx_g1 10 rfl rfl), (by decide +kernel), (by decide +kernel), (by decide +kernel)⟩
set_option maxRecDepth 100000 in
theorem V_X9_isTakenForKing : rx_YV yX9_isTakenForKing := ⟨(rx_g7 152 rfl rfl), (rx_g7 153 rfl rfl)⟩
set_option maxRecDepth 100000 in
theorem Y_X9_tollOf : rx_Y yX9_tollOf cX9_tollOf 2 (some .int) 1 := ⟨(rx_g7 162 rfl rfl), (rx_g1 10 rfl rfl), (by decide +kernel), (by decide +kernel), (by decide +kernel)⟩
set_option maxRecDepth 100000 in
theorem V_X9_tollOf : rx_YV yX9_tollOf := ⟨(rx_g7 160 rfl rfl), (rx_g7 161 rfl rfl)⟩
set_option maxRecDepth 100000 in
theorem Y_X9_wrongGuesses : rx_Y yX9_wrongGuesses cX9_wrongGuesses 3 (some .int) 0 := ⟨(rx_g7 170 rfl rfl), (rx_g1 10 rfl rfl), (by decide +kernel), (by decide +kernel), (by decide +kernel)⟩
set_option maxRecDepth 100000 in
theorem V_X9_wrongGuesses : rx_YV yX9_wrongGuesses := ⟨(rx_g7 168 rfl rfl), (rx_g7 169 rfl rfl)⟩
set_option maxRecDepth 100000 in
theorem Y_X9_stiffest : rx_Y yX9_stiffest cX9_stiffest 3 (some .int) 0 := ⟨(rx_g7 174 rfl rfl), (rx_g1 10 rfl rfl), (by decide +kernel), (by decide +kernel), (by decide +kernel)⟩
set_option maxRecDepth 100000 in
theorem V_X9_stiffest : rx_YV yX9_stiffest := ⟨(rx_g7 172 rfl rfl), (rx_g7 173 rfl rfl)⟩
set_option maxRecDepth 100000 in
theorem Y_X9_cheapestRags : rx_Y yX9_cheapestRags cX9_cheapestRags 4 (some .int) 1 := ⟨(rx_g7 178 rfl rfl), (rx_g1 10 rfl rfl), (by decide +kernel), (by decide +kernel), (by decide +kernel)⟩
set_option maxRecDepth 100000 in
theorem V_X9_cheapestRags : rx_YV yX9_cheapestRags := ⟨(rx_g7 176 rfl rfl), (rx_g7 177 rfl rfl)⟩
set_option maxRecDepth 100000 in
theorem Y_X9_meanBow : rx_Y yX9_meanBow cX9_meanBow 3 (some .double) 0 := ⟨(rx_g7 182 rfl rfl), (rx_g1 10 rfl rfl), (by decide +kernel), (by decide +kernel), (by decide +kernel)⟩
set_option maxRecDepth 100000 in
theorem V_X9_meanBow : rx_YV yX9_meanBow := ⟨(rx_g7 180 rfl rfl), (rx_g7 181 rfl rfl)⟩
set_option maxRecDepth 100000 in
theorem Y_X9_noKing : rx_Y yX9_noKing cX9_noKing 2 (some .boolean) 1 := ⟨(rx_g7 190 rfl rfl), (rx_g1 10 rfl rfl), (by decide +kernel), (by decide +kernel), (by decide +kernel)⟩
set_option maxRecDepth 100000 in
theorem V_X9_noKing : rx_YV yX9_noKing := ⟨(rx_g7 189 rfl rfl), (rx_g0 114 rfl rfl)⟩
set_option maxRecDepth 100000 in
theorem Y_X9_royalHolder : rx_Y yX9_royalHolder cX9_royalHolder 2 (some .int) 1 := ⟨(rx_g7 186 rfl rfl), (rx_g1 10 rfl rfl), (by decide +kernel), (by decide +kernel), (by decide +kernel)⟩
set_option maxRecDepth 100000 in
theorem V_X9_royalHolder : rx_YV yX9_royalHolder := ⟨(rx_g7 184 rfl rfl), (rx_g7 185 rfl rfl)⟩
set_option maxRecDepth 100000 in
theorem Y_X9_isRoyalCoinEast : rx_Y yX9_isRoyalCoinEast cX9_isRoyalCoinEast 3 (some .boolean) 1 := ⟨(rx_g7 198 rfl rfl), (rx_g1 10 rfl rfl), (by decide +kernel), (by decide +kernel), (by decide +kernel)⟩
set_option maxRecDepth 100000 in
theorem V_X9_isRoyalCoinEast : rx_YV yX9_isRoyalCoinEast := ⟨(rx_g7 196 rfl rfl), (rx_g7 197 rfl rfl)⟩
set_option maxRecDepth 100000 in
theorem Y_X9_isCounted : rx_Y yX9_isCounted cX9_isCounted 2 (some .boolean) 1 := ⟨(rx_g7 202 rfl rfl), (rx_g1 10 rfl rfl), (by decide +kernel), (by decide +kernel), (by decide +kernel)⟩
set_option maxRecDepth 100000 in
theorem V_X9_isCounted : rx_YV yX9_isCounted := ⟨(rx_g7 200 rfl rfl), (rx_g7 201 rfl rfl)⟩
set_option maxRecDepth 100000 in
theorem Y_X9_royalCoins : rx_Y yX9_royalCoins cX9_royalCoins 2 (some .int) 1 := ⟨(rx_g7 206 rfl rfl), (rx_g1 10 rfl rfl), (by decide +kernel), (by decide +kernel), (by decide +kernel)⟩
set_option maxRecDepth 100000 in
theorem V_X9_royalCoins : rx_YV yX9_royalCoins := ⟨(rx_g7 204 rfl rfl), (rx_g7 205 rfl rfl)⟩
set_option maxRecDepth 100000 in
theorem Y_X9_counted : rx_Y yX9_counted cX9_counted 3 (some .int) 0 := ⟨(rx_g7 218 rfl rfl), (rx_g1 10 rfl rfl), (by decide +kernel), (by decide +kernel), (by decide +kernel)⟩
set_option maxRecDepth 100000 in
theorem V_X9_counted : rx_YV yX9_counted := ⟨(rx_g7 217 rfl rfl), (rx_g0 117 rfl rfl)⟩
set_option maxRecDepth 100000 in
theorem Y_X9_countedRoyalCoins : rx_Y yX9_countedRoyalCoins cX9_countedRoyalCoins 1 (some .int) 0 := ⟨(rx_g7 214 rfl rfl), (rx_g1 10 rfl rfl), (by decide +kernel), (by decide +kernel), (by decide +kernel)⟩
set_option maxRecDepth 100000 in
theorem V_X9_countedRoyalCoins : rx_YV yX9_countedRoyalCoins := ⟨(rx_g7 212 rfl rfl), (rx_g7 213 rfl rfl)⟩
set_option maxRecDepth 100000 in
theorem Y_X9_countedShare : rx_Y yX9_countedShare cX9_countedShare 1 (some .float) 0 := ⟨(rx_g7 222 rfl rfl), (rx_g1 10 rfl rfl), (by decide +kernel), (by decide +kernel), (by decide +kernel)⟩
set_option maxRecDepth 100000 in
theorem V_X9_countedShare : rx_YV yX9_countedShare := ⟨(rx_g7 220 rfl rfl), (rx_g7 221 rfl rfl)⟩
set_option maxRecDepth 100000 in
theorem Y_X9_queueLength : rx_Y yX9_queueLength cX9_queueLength 2 (some .int) 1 := ⟨(rx_g7 226 rfl rfl), (rx_g1 10 rfl rfl), (by decide +kernel), (by decide +kernel), (by decide +kernel)⟩
set_option maxRecDepth 100000 in
theorem V_X9_queueLength : rx_YV yX9_queueLength := ⟨(rx_g7 224 rfl rfl), (rx_g7 225 rfl rfl)⟩
set_option maxRecDepth 100000 in
theorem Y_X9_queued : rx_Y yX9_queued cX9_queued 3 (some .int) 2 := ⟨(rx_g7 238 rfl rfl), (rx_g1 10 rfl rfl), (by decide +kernel), (by decide +kernel), (by decide +kernel)⟩
set_option maxRecDepth 100000 in
theorem V_X9_queued : rx_YV yX9_queued := ⟨(rx_g7 236 rfl rfl), (rx_g7 237 rfl rfl)⟩
set_option maxRecDepth 100000 in
theorem Y_X9_offer : rx_Y yX9_offer cX9_offer 2 (some .int) 1 := ⟨(rx_g8 14 rfl rfl), (rx_g1 10 rfl rfl), (by decide +kernel), (by decide +kernel), (by decide +kernel)⟩
set_option maxRecDepth 100000 in
theorem V_X9_offer : rx_YV yX9_offer := ⟨(rx_g8 12 rfl rfl), (rx_g8 13 rfl rfl)⟩
set_option maxRecDepth 100000 in
theorem Y_X9_bridgeCount : rx_Y yX9_bridgeCount cX9_bridgeCount 1 (some .int) 0 := ⟨(rx_g8 18 rfl rfl), (rx_g1 10 rfl rfl), (by decide +kernel), (by decide +kernel), (by decide +kernel)⟩
set_option maxRecDepth 100000 in
theorem V_X9_bridgeCount : rx_YV yX9_bridgeCount := ⟨(rx_g8 16 rfl rfl), (rx_g8 17 rfl rfl)⟩
set_option maxRecDepth 100000 in
theorem Y_X9_isOpen : rx_Y yX9_isOpen cX9_isOpen 2 (some .boolean) 1 := ⟨(rx_g8 22 rfl rfl), (rx_g1 10 rfl rfl), (by decide +kernel), (by decide +kernel), (by decide +kernel)⟩
set_option maxRecDepth 100000 in
theorem V_X9_isOpen : rx_YV yX9_isOpen := ⟨(rx_g8 20 rfl rfl), (rx_g8 21 rfl rfl)⟩
set_option maxRecDepth 100000 in
theorem Y_X9_roomNow : rx_Y yX9_roomNow cX9_roomNow 3 (some .int) 0 := ⟨(rx_g8 38 rfl rfl), (rx_g1 10 rfl rfl), (by decide +kernel), (by decide +kernel), (by decide +kernel)⟩
set_option maxRecDepth 100000 in
theorem V_X9_roomNow : rx_YV yX9_roomNow := ⟨(rx_g8 37 rfl rfl), (rx_g0 125 rfl rfl)⟩
set_option maxRecDepth 100000 in
theorem Y_X9_room : rx_Y yX9_room cX9_room 1 (some .int) 0 := ⟨(rx_g8 34 rfl rfl), (rx_g1 10 rfl rfl), (by decide +kernel), (by decide +kernel), (by decide +kernel)⟩
set_option maxRecDepth 100000 in
theorem V_X9_room : rx_YV yX9_room := ⟨(rx_g8 32 rfl rfl), (rx_g8 33 rfl rfl)⟩
set_option maxRecDepth 100000 in
theorem Y_X9_firstPlaceOffer : rx_Y yX9_firstPlaceOffer cX9_firstPlaceOffer 4 (some .int) 1 := ⟨(rx_g8 42 rfl rfl), (rx_g1 10 rfl rfl), (by decide +kernel), (by decide +kernel), (by decide +kernel)⟩
set_option maxRecDepth 100000 in
theorem V_X9_firstPlaceOffer : rx_YV yX9_firstPlaceOffer := ⟨(rx_g8 40 rfl rfl), (rx_g8 41 rfl rfl)⟩
set_option maxRecDepth 100000 in
theorem Y_X9_tries : rx_Y yX9_tries cX9_tries 1 none 0 := ⟨(rx_g8 50 rfl rfl), (rx_g1 10 rfl rfl), (by decide +kernel), (by decide +kernel), (by decide +kernel)⟩
set_option maxRecDepth 100000 in
theorem V_X9_tries : rx_YV yX9_tries := ⟨(rx_g8 49 rfl rfl), (rx_g0 126 rfl rfl)⟩
set_option maxRecDepth 100000 in
theorem Y_X9_back : rx_Y yX9_back cX9_back 2 (some .int) 1 := ⟨(rx_g8 74 rfl rfl), (rx_g1 10 rfl rfl), (by decide +kernel), (by decide +kernel), (by decide +kernel)⟩
set_option maxRecDepth 100000 in
theorem V_X9_back : rx_YV yX9_back := ⟨(rx_g8 73 rfl rfl), (rx_g0 132 rfl rfl)⟩
set_option maxRecDepth 100000 in
theorem Y_X9_turnsToCross : rx_Y yX9_turnsToCross cX9_turnsToCross 5 (some .int) 1 := ⟨(rx_g8 54 rfl rfl), (rx_g1 10 rfl rfl), (by decide +kernel), (by decide +kernel), (by decide +kernel)⟩
set_option maxRecDepth 100000 in
theorem V_X9_turnsToCross : rx_YV yX9_turnsToCross := ⟨(rx_g8 53 rfl rfl), (rx_g0 127 rfl rfl)⟩
set_option maxRecDepth 100000 in
theorem Y_X9_turnsUntilCrossing : rx_Y yX9_turnsUntilCrossing cX9_turnsUntilCrossing 2 (some .int) 1 := ⟨(rx_g8 46 rfl rfl), (rx_g1 10 rfl rfl), (by decide +kernel), (by decide +kernel), (by decide +kernel)⟩
set_option maxRecDepth 100000 in
theorem V_X9_turnsUntilCrossing : rx_YV yX9_turnsUntilCrossing := ⟨(rx_g8 44 rfl rfl), (rx_g8 45 rfl rfl)⟩
set_option maxRecDepth 100000 in
theorem Y_X9_tollBoxAfter : rx_Y yX9_tollBoxAfter cX9_tollBoxAfter 2 (some .int) 1 := ⟨(rx_g8 78 rfl rfl), (rx_g1 10 rfl rfl), (by decide +kernel), (by decide +kernel), (by decide +kernel)⟩
set_option maxRecDepth 100000 in
theorem V_X9_tollBoxAfter : rx_YV yX9_tollBoxAfter := ⟨(rx_g8 76 rfl rfl), (rx_g8 77 rfl rfl)⟩
set_option maxRecDepth 100000 in
theorem Y_X9_limitAngleAfter : rx_Y yX9_limitAngleAfter cX9_limitAngleAfter 2 (some .int) 1 := ⟨(rx_g8 86 rfl rfl), (rx_g1 10 rfl rfl), (by decide +kernel), (by decide +kernel), (by decide +kernel)⟩
set_option maxRecDepth 100000 in
theorem V_X9_limitAngleAfter : rx_YV yX9_limitAngleAfter := ⟨(rx_g8 84 rfl rfl), (rx_g8 85 rfl rfl)⟩
set_option maxRecDepth 100000 in
theorem Y_X9_crossingObstacle : rx_Y yX9_crossingObstacle cX9_crossingObstacle 3 (some .int) 1 := ⟨(rx_g8 90 rfl rfl), (rx_g1 10 rfl rfl), (by decide +kernel), (by decide +kernel), (by decide +kernel)⟩
set_option maxRecDepth 100000 in
theorem V_X9_crossingObstacle : rx_YV yX9_crossingObstacle := ⟨(rx_g8 88 rfl rfl), (rx_g8 89 rfl rfl)⟩
set_option maxRecDepth 100000 in
theorem Y_X9_coinGap : rx_Y yX9_coinGap cX9_coinGap 3 (some .int) 0 := ⟨(rx_g8 94 rfl rfl), (rx_g1 10 rfl rfl), (by decide +kernel), (by decide +kernel), (by decide +kernel)⟩
set_option maxRecDepth 100000 in
theorem V_X9_coinGap : rx_YV yX9_coinGap := ⟨(rx_g8 92 rfl rfl), (rx_g8 93 rfl rfl)⟩
set_option maxRecDepth 100000 in
theorem Y_X9_keeps : rx_Y yX9_keeps cX9_keeps 1 none 0 := ⟨(rx_g8 121 rfl rfl), (rx_g1 10 rfl rfl), (by decide +kernel), (by decide +kernel), (by decide +kernel)⟩
set_option maxRecDepth 100000 in
theorem V_X9_keeps : rx_YV yX9_keeps := ⟨(rx_g8 120 rfl rfl), (rx_g0 138 rfl rfl)⟩
set_option maxRecDepth 100000 in
theorem Y_X9_operates : rx_Y yX9_operates cX9_operates 5 (some .int) 4 := ⟨(rx_g8 109 rfl rfl), (rx_g1 10 rfl rfl), (by decide +kernel), (by decide +kernel), (by decide +kernel)⟩
set_option maxRecDepth 100000 in
theorem V_X9_operates : rx_YV yX9_operates := ⟨(rx_g8 108 rfl rfl), (rx_g0 135 rfl rfl)⟩
set_option maxRecDepth 100000 in
theorem Y_X9_withCoins : rx_Y yX9_withCoins cX9_withCoins 4 (some .int) 3 := ⟨(rx_g8 105 rfl rfl), (rx_g1 10 rfl rfl), (by decide +kernel), (by decide +kernel), (by decide +kernel)⟩
set_option maxRecDepth 100000 in
theorem V_X9_withCoins : rx_YV yX9_withCoins := ⟨(rx_g8 104 rfl rfl), (rx_g0 134 rfl rfl)⟩
set_option maxRecDepth 100000 in
theorem Y_X9_dropCoins : rx_Y yX9_dropCoins cX9_dropCoins 3 (some .int) 2 := ⟨(rx_g8 101 rfl rfl), (rx_g1 10 rfl rfl), (by decide +kernel), (by decide +kernel), (by decide +kernel)⟩
set_option maxRecDepth 100000 in
theorem V_X9_dropCoins : rx_YV yX9_dropCoins := ⟨(rx_g8 99 rfl rfl), (rx_g8 100 rfl rfl)⟩
set_option maxRecDepth 100000 in
theorem Y_X9_pickCoins : rx_Y yX9_pickCoins cX9_pickCoins 3 (some .int) 2 := ⟨(rx_g8 161 rfl rfl), (rx_g1 10 rfl rfl), (by decide +kernel), (by decide +kernel), (by decide +kernel)⟩
set_option maxRecDepth 100000 in
theorem V_X9_pickCoins : rx_YV yX9_pickCoins := ⟨(rx_g8 159 rfl rfl), (rx_g8 160 rfl rfl)⟩
set_option maxRecDepth 100000 in
theorem Y_X9_withRoyal : rx_Y yX9_withRoyal cX9_withRoyal 4 (some .int) 3 := ⟨(rx_g8 169 rfl rfl), (rx_g1 10 rfl rfl), (by decide +kernel), (by decide +kernel), (by decide +kernel)⟩
set_option maxRecDepth 100000 in
theorem V_X9_withRoyal : rx_YV yX9_withRoyal := ⟨(rx_g8 168 rfl rfl), (rx_g0 148 rfl rfl)⟩
set_option maxRecDepth 100000 in
theorem Y_X9_layRoyalCoin : rx_Y yX9_layRoyalCoin cX9_layRoyalCoin 3 (some .int) 2 := ⟨(rx_g8 165 rfl rfl), (rx_g1 10 rfl rfl), (by decide +kernel), (by decide +kernel), (by decide +kernel)⟩
set_option maxRecDepth 100000 in
theorem V_X9_layRoyalCoin : rx_YV yX9_layRoyalCoin := ⟨(rx_g8 163 rfl rfl), (rx_g8 164 rfl rfl)⟩
set_option maxRecDepth 100000 in
theorem Y_X9_liftRoyalCoin : rx_Y yX9_liftRoyalCoin cX9_liftRoyalCoin 3 (some .int) 2 := ⟨(rx_g8 173 rfl rfl), (rx_g1 10 rfl rfl), (by decide +kernel), (by decide +kernel), (by decide +kernel)⟩
set_option maxRecDepth 100000 in
theorem V_X9_liftRoyalCoin : rx_YV yX9_liftRoyalCoin := ⟨(rx_g8 171 rfl rfl), (rx_g8 172 rfl rfl)⟩
set_option maxRecDepth 100000 in
theorem Y_X9_swapRags : rx_Y yX9_swapRags cX9_swapRags 3 (some .int) 2 := ⟨(rx_g8 177 rfl rfl), (rx_g1 10 rfl rfl), (by decide +kernel), (by decide +kernel), (by decide +kernel)⟩
set_option maxRecDepth 100000 in
theorem V_X9_swapRags : rx_YV yX9_swapRags := ⟨(rx_g8 175 rfl rfl), (rx_g8 176 rfl rfl)⟩
set_option maxRecDepth 100000 in
theorem Y_X9_joinQueue : rx_Y yX9_joinQueue cX9_joinQueue 3 (some .int) 2 := ⟨(rx_g8 181 rfl rfl), (rx_g1 10 rfl rfl), (by decide +kernel), (by decide +kernel), (by decide +kernel)⟩
set_option maxRecDepth 100000 in
theorem V_X9_joinQueue : rx_YV yX9_joinQueue := ⟨(rx_g8 179 rfl rfl), (rx_g8 180 rfl rfl)⟩
set_option maxRecDepth 100000 in
theorem Y_X9_quitQueue : rx_Y yX9_quitQueue cX9_quitQueue 2 (some .int) 1 := ⟨(rx_g8 185 rfl rfl), (rx_g1 10 rfl rfl), (by decide +kernel), (by decide +kernel), (by decide +kernel)⟩
set_option maxRecDepth 100000 in
theorem V_X9_quitQueue : rx_YV yX9_quitQueue := ⟨(rx_g8 183 rfl rfl), (rx_g8 184 rfl rfl)⟩
set_option maxRecDepth 100000 in
theorem Y_X9_setPride : rx_Y yX9_setPride cX9_setPride 3 (some .int) 2 := ⟨(rx_g8 189 rfl rfl), (rx_g1 10 rfl rfl), (by decide +kernel), (by decide +kernel), (by decide +kernel)⟩
set_option maxRecDepth 100000 in
theorem V_X9_setPride : rx_YV yX9_setPride := ⟨(rx_g8 187 rfl rfl), (rx_g8 188 rfl rfl)⟩
set_option maxRecDepth 100000 in
theorem Y_X9_passTurns : rx_Y yX9_passTurns cX9_passTurns 2 (some .int) 1 := ⟨(rx_g8 193 rfl rfl), (rx_g1 10 rfl rfl), (by decide +kernel), (by decide +kernel), (by decide +kernel)⟩
set_option maxRecDepth 100000 in
theorem V_X9_passTurns : rx_YV yX9_passTurns := ⟨(rx_g8 191 rfl rfl), (rx_g8 192 rfl rfl)⟩
set_option maxRecDepth 100000 in
theorem Y_X9_orderHere : rx_Y yX9_orderHere cX9_orderHere 1 (some .int) 0 := ⟨(rx_g8 205 rfl rfl), (rx_g1 10 rfl rfl), (by decide +kernel), (by decide +kernel), (by decide +kernel)⟩
set_option maxRecDepth 100000 in
theorem V_X9_orderHere : rx_YV yX9_orderHere := ⟨(rx_g8 204 rfl rfl), (rx_g0 150 rfl rfl)⟩
set_option maxRecDepth 100000 in
theorem Y_X9_second : rx_Y yX9_second cX9_second 2 (some .int) 1 := ⟨(rx_g8 218 rfl rfl), (rx_g1 10 rfl rfl), (by decide +kernel), (by decide +kernel), (by decide +kernel)⟩
set_option maxRecDepth 100000 in
theorem V_X9_second : rx_YV yX9_second := ⟨(rx_g8 217 rfl rfl), (rx_g0 151 rfl rfl)⟩
set_option maxRecDepth 100000 in
theorem Y_X9_readsOrder : rx_Y yX9_readsOrder cX9_readsOrder 3 none 0 := ⟨(rx_g8 201 rfl rfl), (rx_g1 10 rfl rfl), (by decide +kernel), (by decide +kernel), (by decide +kernel)⟩
set_option maxRecDepth 100000 in
theorem V_X9_readsOrder : rx_YV yX9_readsOrder := ⟨(rx_g8 200 rfl rfl), (rx_g0 149 rfl rfl)⟩
set_option maxRecDepth 100000 in
theorem Y_X9_areThere : rx_Y yX9_areThere cX9_areThere 4 (some .boolean) 3 := ⟨(rx_g8 226 rfl rfl), (rx_g1 10 rfl rfl), (by decide +kernel), (by decide +kernel), (by decide +kernel)⟩
set_option maxRecDepth 100000 in
theorem V_X9_areThere : rx_YV yX9_areThere := ⟨(rx_g8 225 rfl rfl), (rx_g0 153 rfl rfl)⟩
set_option maxRecDepth 100000 in
theorem Y_X9_isDoneNow : rx_Y yX9_isDoneNow cX9_isDoneNow 6 (some .boolean) 1 := ⟨(rx_g8 222 rfl rfl), (rx_g1 10 rfl rfl), (by decide +kernel), (by decide +kernel), (by decide +kernel)⟩
set_option maxRecDepth 100000 in
theorem V_X9_isDoneNow : rx_YV yX9_isDoneNow := ⟨(rx_g8 221 rfl rfl), (rx_g0 152 rfl rfl)⟩
set_option maxRecDepth 100000 in
theorem Y_X9_runScript : rx_Y yX9_runScript cX9_runScript 3 (some .int) 1 := ⟨(rx_g8 197 rfl rfl), (rx_g1 10 rfl rfl), (by decide +kernel), (by decide +kernel), (by decide +kernel)⟩
set_option maxRecDepth 100000 in
theorem V_X9_runScript : rx_YV yX9_runScript := ⟨(rx_g8 195 rfl rfl), (rx_g8 196 rfl rfl)⟩
set_option maxRecDepth 100000 in
theorem Y_X9_writes : rx_Y yX9_writes cX9_writes 2 none 1 := ⟨(rx_g8 234 rfl rfl), (rx_g1 10 rfl rfl), (by decide +kernel), (by decide +kernel), (by decide +kernel)⟩
set_option maxRecDepth 100000 in
theorem V_X9_writes : rx_YV yX9_writes := ⟨(rx_g8 233 rfl rfl), (rx_g0 154 rfl rfl)⟩
set_option maxRecDepth 100000 in
theorem Y_X9_writesNumber : rx_Y yX9_writesNumber cX9_writesNumber 2 none 1 := ⟨(rx_g8 238 rfl rfl), (rx_g1 10 rfl rfl), (by decide +kernel), (by decide +kernel), (by decide +kernel)⟩
set_option maxRecDepth 100000 in
theorem V_X9_writesNumber : rx_YV yX9_writesNumber := ⟨(rx_g8 237 rfl rfl), (rx_g0 155 rfl rfl)⟩
set_option maxRecDepth 100000 in
theorem Y_X9_writeQueue : rx_Y yX9_writeQueue cX9_writeQueue 4 (some .int) 1 := ⟨(rx_g8 230 rfl rfl), (rx_g1 10 rfl rfl), (by decide +kernel), (by decide +kernel), (by decide +kernel)⟩
set_option maxRecDepth 100000 in
theorem V_X9_writeQueue : rx_YV yX9_writeQueue := ⟨(rx_g8 228 rfl rfl), (rx_g8 229 rfl rfl)⟩
set_option maxRecDepth 100000 in
theorem Y_X9_outputByte : rx_Y yX9_outputByte cX9_outputByte 2 (some .int) 1 := ⟨(rx_g9 2 rfl rfl), (rx_g1 10 rfl rfl), (by decide +kernel), (by decide +kernel), (by decide +kernel)⟩
set_option maxRecDepth 100000 in
theorem V_X9_outputByte : rx_YV yX9_outputByte := ⟨(rx_g9 0 rfl rfl), (rx_g9 1 rfl rfl)⟩
set_option maxRecDepth 100000 in
theorem Y_X9_undoableCount : rx_Y yX9_undoableCount cX9_undoableCount 1 (some .int) 0 := ⟨(rx_g9 6 rfl rfl), (rx_g1 10 rfl rfl), (by decide +kernel), (by decide +kernel), (by decide +kernel)⟩
set_option maxRecDepth 100000 in
theorem V_X9_undoableCount : rx_YV yX9_undoableCount := ⟨(rx_g9 4 rfl rfl), (rx_g9 5 rfl rfl)⟩
set_option maxRecDepth 100000 in
theorem Y_X9_undo : rx_Y yX9_undo cX9_undo 1 (some .int) 0 := ⟨(rx_g9 10 rfl rfl), (rx_g1 10 rfl rfl), (by decide +kernel), (by decide +kernel), (by decide +kernel)⟩
set_option maxRecDepth 100000 in
theorem V_X9_undo : rx_YV yX9_undo := ⟨(rx_g9 8 rfl rfl), (rx_g9 9 rfl rfl)⟩
set_option maxRecDepth 100000 in
theorem Y_X9_saveSnapshot : rx_Y yX9_saveSnapshot cX9_saveSnapshot 1 none 0 := ⟨(rx_g9 14 rfl rfl), (rx_g1 10 rfl rfl), (by decide +kernel), (by decide +kernel), (by decide +kernel)⟩
set_option maxRecDepth 100000 in
theorem V_X9_saveSnapshot : rx_YV yX9_saveSnapshot := ⟨(rx_g9 12 rfl rfl), (rx_g9 13 rfl rfl)⟩
set_option maxRecDepth 100000 in
theorem Y_X9_restoreSnapshot : rx_Y yX9_restoreSnapshot cX9_restoreSnapshot 1 (some .int) 0 := ⟨(rx_g9 18 rfl rfl), (rx_g1 10 rfl rfl), (by decide +kernel), (by decide +kernel), (by decide +kernel)⟩
set_option maxRecDepth 100000 in
theorem V_X9_restoreSnapshot : rx_YV yX9_restoreSnapshot := ⟨(rx_g9 16 rfl rfl), (rx_g9 17 rfl rfl)⟩
set_option maxRecDepth 100000 in
theorem Y_Jx29ce0_ordinal_8abf5 : rx_Y yJx29ce0_ordinal_8abf5 cJx29ce0_ordinal_8abf5 1 (some .int) 0 := ⟨(rx_g5 114 rfl rfl), (rx_g1 20 rfl rfl), (by decide +kernel), (by decide +kernel), (by decide +kernel)⟩
set_option maxRecDepth 100000 in
theorem Y_J9_abs_0f7a4 : rx_Y yJ9_abs_0f7a4 cJ9_abs_0f7a4 1 (some .int) 1 := ⟨(rx_g3 12 rfl rfl), (rx_g1 8 rfl rfl), (by decide +kernel), (by decide +kernel), (by decide +kernel)⟩
set_option maxRecDepth 100000 in
theorem S_J9_abs_0f7a4 : Cond.static yJ9_abs_0f7a4 ∈ rx_good := (rx_g3 11 rfl rfl)
set_option maxRecDepth 100000 in
theorem Y_J9_max_7cf53 : rx_Y yJ9_max_7cf53 cJ9_max_7cf53 2 (some .int) 2 := ⟨(rx_g5 49 rfl rfl), (rx_g1 8 rfl rfl), (by decide +kernel), (by decide +kernel), (by decide +kernel)⟩
set_option maxRecDepth 100000 in
theorem S_J9_max_7cf53 : Cond.static yJ9_max_7cf53 ∈ rx_good := (rx_g5 48 rfl rfl)
set_option maxRecDepth 100000 in
theorem Y_J9_min_7cf53 : rx_Y yJ9_min_7cf53 cJ9_min_7cf53 2 (some .int) 2 := ⟨(rx_g2 39 rfl rfl), (rx_g1 8 rfl rfl), (by decide +kernel), (by decide +kernel), (by decide +kernel)⟩
set_option maxRecDepth 100000 in
theorem S_J9_min_7cf53 : Cond.static yJ9_min_7cf53 ∈ rx_good := (rx_g2 38 rfl rfl)
set_option maxRecDepth 100000 in
theorem Y_J0_length_8abf5 : rx_Y yJ0_length_8abf5 cJ0_length_8abf5 1 (some .int) 0 := ⟨(rx_g3 170 rfl rfl), (rx_g1 11 rfl rfl), (by decide +kernel), (by decide +kernel), (by decide +kernel)⟩
set_option maxRecDepth 100000 in
theorem V_J0_length_8abf5 : rx_YV yJ0_length_8abf5 := ⟨(rx_g3 168 rfl rfl), (rx_g3 169 rfl rfl)⟩
set_option maxRecDepth 100000 in
theorem Y_J0_charAt_5068e : rx_Y yJ0_charAt_5068e cJ0_charAt_5068e 2 (some .char) 1 := ⟨(rx_g3 180 rfl rfl), (rx_g1 11 rfl rfl), (by decide +kernel), (by decide +kernel), (by decide +kernel)⟩
set_option maxRecDepth 100000 in
theorem V_J0_charAt_5068e : rx_YV yJ0_charAt_5068e := ⟨(rx_g3 178 rfl rfl), (rx_g3 179 rfl rfl)⟩
set_option maxRecDepth 100000 in
theorem Y_J0_coder_7d493 : rx_Y yJ0_coder_7d493 cJ0_coder_7d493 1 (some .byte) 0 := ⟨(rx_g3 174 rfl rfl), (rx_g1 11 rfl rfl), (by decide +kernel), (by decide +kernel), (by decide +kernel)⟩
set_option maxRecDepth 100000 in
theorem V_J0_coder_7d493 : rx_YV yJ0_coder_7d493 := ⟨(rx_g3 172 rfl rfl), (rx_g3 173 rfl rfl)⟩
set_option maxRecDepth 100000 in
theorem Y_J0_isLatin1_aae02 : rx_Y yJ0_isLatin1_aae02 cJ0_isLatin1_aae02 1 (some .boolean) 0 := ⟨(rx_g3 184 rfl rfl), (rx_g1 11 rfl rfl), (by decide +kernel), (by decide +kernel), (by decide +kernel)⟩
set_option maxRecDepth 100000 in
theorem V_J0_isLatin1_aae02 : rx_YV yJ0_isLatin1_aae02 := ⟨(rx_g3 182 rfl rfl), (rx_g3 183 rfl rfl)⟩
set_option maxRecDepth 100000 in
theorem Y_J0_checkIndex_df160 : rx_Y yJ0_checkIndex_df160 cJ0_checkIndex_df160 2 none 2 := ⟨(rx_g3 190 rfl rfl), (rx_g1 11 rfl rfl), (by decide +kernel), (by decide +kernel), (by decide +kernel)⟩
set_option maxRecDepth 100000 in
theorem S_J0_checkIndex_df160 : Cond.static yJ0_checkIndex_df160 ∈ rx_good := (rx_g3 189 rfl rfl)
set_option maxRecDepth 100000 in
theorem Y_J1_charAt_3b067 : rx_Y yJ1_charAt_3b067 cJ1_charAt_3b067 2 (some .char) 2 := ⟨(rx_g3 187 rfl rfl), (rx_g1 12 rfl rfl), (by decide +kernel), (by decide +kernel), (by decide +kernel)⟩
set_option maxRecDepth 100000 in
theorem S_J1_charAt_3b067 : Cond.static yJ1_charAt_3b067 ∈ rx_good := (rx_g3 186 rfl rfl)
set_option maxRecDepth 100000 in
theorem Y_J2_getChar_3b067 : rx_Y yJ2_getChar_3b067 cJ2_getChar_3b067 2 (some .char) 2 := ⟨(rx_g3 208 rfl rfl), (rx_g1 14 rfl rfl), (by decide +kernel), (by decide +kernel), (by decide +kernel)⟩
set_option maxRecDepth 100000 in
theorem S_J2_getChar_3b067 : Cond.static yJ2_getChar_3b067 ∈ rx_good := (rx_g3 207 rfl rfl)
set_option maxRecDepth 100000 in
theorem Y_J2_length_9d52b : rx_Y yJ2_length_9d52b cJ2_length_9d52b 1 (some .int) 1 := ⟨(rx_g3 204 rfl rfl), (rx_g1 14 rfl rfl), (by decide +kernel), (by decide +kernel), (by decide +kernel)⟩
set_option maxRecDepth 100000 in
theorem S_J2_length_9d52b : Cond.static yJ2_length_9d52b ∈ rx_good := (rx_g3 203 rfl rfl)
set_option maxRecDepth 100000 in
theorem Y_J2_charAt_3b067 : rx_Y yJ2_charAt_3b067 cJ2_charAt_3b067 2 (some .char) 2 := ⟨(rx_g3 198 rfl rfl), (rx_g1 14 rfl rfl), (by decide +kernel), (by decide +kernel), (by decide +kernel)⟩
set_option maxRecDepth 100000 in
theorem S_J2_charAt_3b067 : Cond.static yJ2_charAt_3b067 ∈ rx_good := (rx_g3 197 rfl rfl)
set_option maxRecDepth 100000 in
theorem Y_J2_checkIndex_2214a : rx_Y yJ2_checkIndex_2214a cJ2_checkIndex_2214a 2 none 2 := ⟨(rx_g3 201 rfl rfl), (rx_g1 14 rfl rfl), (by decide +kernel), (by decide +kernel), (by decide +kernel)⟩
set_option maxRecDepth 100000 in
theorem S_J2_checkIndex_2214a : Cond.static yJ2_checkIndex_2214a ∈ rx_good := (rx_g3 200 rfl rfl)
set_option maxRecDepth 100000 in
theorem Y_J3_checkIndex_8e157 : rx_Y yJ3_checkIndex_8e157 cJ3_checkIndex_8e157 3 (some .int) 3 := ⟨(rx_g3 195 rfl rfl), (rx_g1 13 rfl rfl), (by decide +kernel), (by decide +kernel), (by decide +kernel)⟩
set_option maxRecDepth 100000 in
theorem S_J3_checkIndex_8e157 : Cond.static yJ3_checkIndex_8e157 ∈ rx_good := (rx_g3 194 rfl rfl)
set_option maxRecDepth 100000 in
theorem m_L_133 : Cond.methodLink RL 133 yX8_init ∈ rx_good := (rx_g1 26 rfl rfl)
set_option maxRecDepth 100000 in
theorem m_X8_9 : Cond.methodLinkNest RX8 9 yX6_init "BeggarKings" ∈ rx_nest := (rx_n1 34 rfl rfl)
set_option maxRecDepth 100000 in
theorem m_X8_18 : Cond.methodLinkNest RX8 18 yX5_init "BeggarKings" ∈ rx_nest := (rx_n1 72 rfl rfl)
set_option maxRecDepth 100000 in
theorem m_X8_28 : Cond.methodLinkNest RX8 28 yX2_init "BeggarKings" ∈ rx_nest := (rx_n1 134 rfl rfl)
set_option maxRecDepth 100000 in
theorem m_X2_41 : Cond.methodLinkNest RX2 41 yX3_init "BeggarKings" ∈ rx_nest := (rx_n1 140 rfl rfl)
set_option maxRecDepth 100000 in
theorem m_X8_43 : Cond.methodLinkNest RX8 43 yX1_init "BeggarKings" ∈ rx_nest := (rx_n1 215 rfl rfl)
set_option maxRecDepth 100000 in
theorem m_X1_17 : Cond.methodLinkNest RX1 17 yX2_init "BeggarKings" ∈ rx_nest := (rx_n1 221 rfl rfl)
set_option maxRecDepth 100000 in
theorem m_X8_50 : Cond.methodLinkNest RX8 50 yX4_init "BeggarKings" ∈ rx_nest := (rx_n1 235 rfl rfl)
set_option maxRecDepth 100000 in
theorem m_X8_59 : Cond.methodLinkNest RX8 59 yX5_begin "BeggarKings" ∈ rx_nest := (rx_n2 14 rfl rfl)
set_option maxRecDepth 100000 in
theorem m_X8_63 : Cond.methodLinkNest RX8 63 yX5_addPerson "BeggarKings" ∈ rx_nest := (rx_n2 18 rfl rfl)
set_option maxRecDepth 100000 in
theorem m_X5_55 : Cond.methodLinkNest RX5 55 yX8_put "BeggarKings" ∈ rx_nest := (rx_n2 22 rfl rfl)
set_option maxRecDepth 100000 in
theorem m_X8_67 : Cond.methodLinkNest RX8 67 yX5_addBridge "BeggarKings" ∈ rx_nest := (rx_n2 25 rfl rfl)
set_option maxRecDepth 100000 in
theorem m_X8_71 : Cond.methodLinkNest RX8 71 yX2_begin "BeggarKings" ∈ rx_nest := (rx_n2 29 rfl rfl)
set_option maxRecDepth 100000 in
theorem m_X2_66 : Cond.methodLinkNest RX2 66 yX8_put "BeggarKings" ∈ rx_nest := (rx_n2 33 rfl rfl)
set_option maxRecDepth 100000 in
theorem m_X2_74 : Cond.methodLinkNest RX2 74 yX8_copyRow "BeggarKings" ∈ rx_nest := (rx_n2 34 rfl rfl)
set_option maxRecDepth 100000 in
theorem m_X8_408 : Cond.methodLink RX8 408 yJ9_min_7cf53 ∈ rx_good := (rx_g2 37 rfl rfl)
set_option maxRecDepth 100000 in
theorem m_X2_80 : Cond.methodLinkNest RX2 80 yX5_hasKing "BeggarKings" ∈ rx_nest := (rx_n2 43 rfl rfl)
set_option maxRecDepth 100000 in
theorem m_X5_63 : Cond.methodLink RX5 63 yX5_hasPerson ∈ rx_good := (rx_g2 47 rfl rfl)
set_option maxRecDepth 100000 in
theorem m_X5_67 : Cond.methodLinkNest RX5 67 yX8_at "BeggarKings" ∈ rx_nest := (rx_n2 51 rfl rfl)
set_option maxRecDepth 100000 in
theorem m_L_137 : Cond.methodLink RL 137 yX8_appendText ∈ rx_good := (rx_g2 88 rfl rfl)
set_option maxRecDepth 100000 in
theorem m_X8_77 : Cond.methodLinkNest RX8 77 yX6_appendWord "BeggarKings" ∈ rx_nest := (rx_n2 92 rfl rfl)
set_option maxRecDepth 100000 in
theorem m_X6_22 : Cond.methodLinkNest RX6 22 yX8_put "BeggarKings" ∈ rx_nest := (rx_n2 96 rfl rfl)
set_option maxRecDepth 100000 in
theorem m_L_151 : Cond.methodLink RL 151 yX8_errorCode ∈ rx_good := (rx_g2 97 rfl rfl)
set_option maxRecDepth 100000 in
theorem m_L_155 : Cond.methodLink RL 155 yX8_errorOffset ∈ rx_good := (rx_g2 101 rfl rfl)
set_option maxRecDepth 100000 in
theorem m_L_159 : Cond.methodLink RL 159 yX8_turn ∈ rx_good := (rx_g2 105 rfl rfl)
set_option maxRecDepth 100000 in
theorem m_L_163 : Cond.methodLink RL 163 yX8_limitAngle ∈ rx_good := (rx_g2 109 rfl rfl)
set_option maxRecDepth 100000 in
theorem m_L_167 : Cond.methodLink RL 167 yX8_tollBox ∈ rx_good := (rx_g2 113 rfl rfl)
set_option maxRecDepth 100000 in
theorem m_L_171 : Cond.methodLink RL 171 yX8_groundCoins ∈ rx_good := (rx_g2 117 rfl rfl)
set_option maxRecDepth 100000 in
theorem m_X8_132 : Cond.methodLink RX8 132 yX8_bankOf ∈ rx_good := (rx_g2 121 rfl rfl)
set_option maxRecDepth 100000 in
theorem m_X8_136 : Cond.methodLink RX8 136 yX8_at ∈ rx_good := (rx_g2 124 rfl rfl)
set_option maxRecDepth 100000 in
theorem m_L_176 : Cond.methodLink RL 176 yX8_personCount ∈ rx_good := (rx_g2 125 rfl rfl)
set_option maxRecDepth 100000 in
theorem m_L_180 : Cond.methodLink RL 180 yX8_kingCount ∈ rx_good := (rx_g2 129 rfl rfl)
set_option maxRecDepth 100000 in
theorem m_X8_140 : Cond.methodLinkNest RX8 140 yX5_kingsInAll "BeggarKings" ∈ rx_nest := (rx_n2 133 rfl rfl)
set_option maxRecDepth 100000 in
theorem m_L_184 : Cond.methodLink RL 184 yX8_bankCount ∈ rx_good := (rx_g2 137 rfl rfl)
set_option maxRecDepth 100000 in
theorem m_X8_144 : Cond.methodLinkNest RX8 144 yX2_peopleOn "BeggarKings" ∈ rx_nest := (rx_n2 141 rfl rfl)
set_option maxRecDepth 100000 in
theorem m_X2_91 : Cond.methodLinkNest RX2 91 yX8_at "BeggarKings" ∈ rx_nest := (rx_n2 145 rfl rfl)
set_option maxRecDepth 100000 in
theorem m_L_212 : Cond.methodLink RL 212 yX8_richest ∈ rx_good := (rx_g2 146 rfl rfl)
set_option maxRecDepth 100000 in
theorem m_X8_176 : Cond.methodLinkNest RX8 176 yX2_richestPerson "BeggarKings" ∈ rx_nest := (rx_n2 150 rfl rfl)
set_option maxRecDepth 100000 in
theorem m_L_229 : Cond.methodLink RL 229 yX8_wrongGuesses ∈ rx_good := (rx_g2 154 rfl rfl)
set_option maxRecDepth 100000 in
theorem m_X8_199 : Cond.methodLinkNest RX8 199 yX2_misjudgedPeople "BeggarKings" ∈ rx_nest := (rx_n2 158 rfl rfl)
set_option maxRecDepth 100000 in
theorem m_X2_115 : Cond.methodLink RX2 115 yX2_looksKingly ∈ rx_good := (rx_g2 162 rfl rfl)
set_option maxRecDepth 100000 in
theorem m_X2_105 : Cond.methodLink RX2 105 yX2_keeperAngleIn ∈ rx_good := (rx_g2 166 rfl rfl)
set_option maxRecDepth 100000 in
theorem m_X2_101 : Cond.methodLink RX2 101 yX2_angleOf ∈ rx_good := (rx_g2 170 rfl rfl)
set_option maxRecDepth 100000 in
theorem m_L_233 : Cond.methodLink RL 233 yX8_stiffest ∈ rx_good := (rx_g2 173 rfl rfl)
set_option maxRecDepth 100000 in
theorem m_X8_202 : Cond.methodLinkNest RX8 202 yX2_stiffestPerson "BeggarKings" ∈ rx_nest := (rx_n2 177 rfl rfl)
set_option maxRecDepth 100000 in
theorem m_X2_118 : Cond.methodLink RX2 118 yX2_keeperAngle ∈ rx_good := (rx_g2 181 rfl rfl)
set_option maxRecDepth 100000 in
theorem m_L_240 : Cond.methodLink RL 240 yX8_meanBow ∈ rx_good := (rx_g2 185 rfl rfl)
set_option maxRecDepth 100000 in
theorem m_X8_208 : Cond.methodLinkNest RX8 208 yX2_sumOfAngles "BeggarKings" ∈ rx_nest := (rx_n2 189 rfl rfl)
set_option maxRecDepth 100000 in
theorem m_L_257 : Cond.methodLink RL 257 yX8_countedRoyalCoins ∈ rx_good := (rx_g2 193 rfl rfl)
set_option maxRecDepth 100000 in
theorem m_X8_226 : Cond.methodLinkNest RX8 226 yX2_countedInAll "BeggarKings" ∈ rx_nest := (rx_n2 197 rfl rfl)
set_option maxRecDepth 100000 in
theorem m_L_261 : Cond.methodLink RL 261 yX8_countedShare ∈ rx_good := (rx_g2 201 rfl rfl)
set_option maxRecDepth 100000 in
theorem m_L_266 : Cond.methodLink RL 266 yX8_queueLength ∈ rx_good := (rx_g2 205 rfl rfl)
set_option maxRecDepth 100000 in
theorem m_X8_229 : Cond.methodLinkNest RX8 229 yX2_queueOn "BeggarKings" ∈ rx_nest := (rx_n2 209 rfl rfl)
set_option maxRecDepth 100000 in
theorem m_L_270 : Cond.methodLink RL 270 yX8_queued ∈ rx_good := (rx_g2 213 rfl rfl)
set_option maxRecDepth 100000 in
theorem m_X8_238 : Cond.methodLinkNest RX8 238 yX3_personAt "BeggarKings" ∈ rx_nest := (rx_n2 217 rfl rfl)
set_option maxRecDepth 100000 in
theorem m_X3_26 : Cond.methodLinkNest RX3 26 yX8_at "BeggarKings" ∈ rx_nest := (rx_n2 221 rfl rfl)
set_option maxRecDepth 100000 in
theorem m_L_278 : Cond.methodLink RL 278 yX8_bridgeCount ∈ rx_good := (rx_g2 222 rfl rfl)
set_option maxRecDepth 100000 in
theorem m_L_285 : Cond.methodLink RL 285 yX8_room ∈ rx_good := (rx_g2 226 rfl rfl)
set_option maxRecDepth 100000 in
theorem m_X8_256 : Cond.methodLinkNest RX8 256 yX5_roomIn "BeggarKings" ∈ rx_nest := (rx_n2 230 rfl rfl)
set_option maxRecDepth 100000 in
theorem m_X5_71 : Cond.methodLink RX5 71 yX5_opens ∈ rx_good := (rx_g2 234 rfl rfl)
set_option maxRecDepth 100000 in
theorem m_L_304 : Cond.methodLink RL 304 yX8_coinGap ∈ rx_good := (rx_g2 238 rfl rfl)
set_option maxRecDepth 100000 in
theorem m_X8_279 : Cond.methodLinkNest RX8 279 yX2_coinsInAll "BeggarKings" ∈ rx_nest := (rx_n3 2 rfl rfl)
set_option maxRecDepth 100000 in
theorem m_X8_282 : Cond.methodLinkNest RX8 282 yX5_coinsInAll "BeggarKings" ∈ rx_nest := (rx_n3 6 rfl rfl)
set_option maxRecDepth 100000 in
theorem m_X8_283 : Cond.methodLink RX8 283 yJ9_abs_0f7a4 ∈ rx_good := (rx_g3 10 rfl rfl)
set_option maxRecDepth 100000 in
theorem m_L_338 : Cond.methodLink RL 338 yX8_writeQueue ∈ rx_good := (rx_g3 13 rfl rfl)
set_option maxRecDepth 100000 in
theorem m_X8_361 : Cond.methodLink RX8 361 yX8_writeByte ∈ rx_good := (rx_g3 17 rfl rfl)
set_option maxRecDepth 100000 in
theorem m_X8_404 : Cond.methodLink RX8 404 yX8_put ∈ rx_good := (rx_g3 21 rfl rfl)
set_option maxRecDepth 100000 in
theorem m_X8_364 : Cond.methodLink RX8 364 yX8_writeNumber ∈ rx_good := (rx_g3 22 rfl rfl)
set_option maxRecDepth 100000 in
theorem m_X8_367 : Cond.methodLinkNest RX8 367 yX3_offerAt "BeggarKings" ∈ rx_nest := (rx_n3 26 rfl rfl)
set_option maxRecDepth 100000 in
theorem m_X8_193 : Cond.methodLinkNest RX8 193 yX2_looksKingly "BeggarKings" ∈ rx_nest := (rx_n3 30 rfl rfl)
set_option maxRecDepth 100000 in
theorem m_L_345 : Cond.methodLink RL 345 yX8_undoableCount ∈ rx_good := (rx_g3 31 rfl rfl)
set_option maxRecDepth 100000 in
theorem m_L_353 : Cond.methodLink RL 353 yX8_saveSnapshot ∈ rx_good := (rx_g3 35 rfl rfl)
set_option maxRecDepth 100000 in
theorem m_X8_262 : Cond.methodLinkNest RX8 262 yX2_copyFrom "BeggarKings" ∈ rx_nest := (rx_n3 39 rfl rfl)
set_option maxRecDepth 100000 in
theorem m_X2_84 : Cond.methodLinkNest RX2 84 yX3_copyFrom "BeggarKings" ∈ rx_nest := (rx_n3 43 rfl rfl)
set_option maxRecDepth 100000 in
theorem m_X3_22 : Cond.methodLinkNest RX3 22 yX8_copyRow "BeggarKings" ∈ rx_nest := (rx_n3 47 rfl rfl)
set_option maxRecDepth 100000 in
theorem m_L_142 : Cond.methodLink RL 142 yL_loadGame ∈ rx_good := (rx_g3 48 rfl rfl)
set_option maxRecDepth 100000 in
theorem m_L_7 : Cond.methodLink RL 7 yX8_loadGame ∈ rx_good := (rx_g3 52 rfl rfl)
set_option maxRecDepth 100000 in
theorem m_X8_81 : Cond.methodLink RX8 81 yX8_requireLength ∈ rx_good := (rx_g3 56 rfl rfl)
set_option maxRecDepth 100000 in
theorem m_X8_84 : Cond.methodLinkNest RX8 84 yX6_open "BeggarKings" ∈ rx_nest := (rx_n3 128 rfl rfl)
set_option maxRecDepth 100000 in
theorem m_X6_35 : Cond.methodLink RX6 35 yX6_advance ∈ rx_good := (rx_g3 132 rfl rfl)
set_option maxRecDepth 100000 in
theorem m_X6_50 : Cond.methodLinkNest RX6 50 yX8_at "BeggarKings" ∈ rx_nest := (rx_n3 136 rfl rfl)
set_option maxRecDepth 100000 in
theorem m_X6_69 : Cond.methodLink RX6 69 yX6_isBlank ∈ rx_good := (rx_g3 137 rfl rfl)
set_option maxRecDepth 100000 in
theorem m_X6_73 : Cond.methodLink RX6 73 yX6_isLetter ∈ rx_good := (rx_g3 140 rfl rfl)
set_option maxRecDepth 100000 in
theorem m_X6_76 : Cond.methodLink RX6 76 yX6_scanWord ∈ rx_good := (rx_g3 143 rfl rfl)
set_option maxRecDepth 100000 in
theorem m_X6_79 : Cond.methodLink RX6 79 yX6_isDigit ∈ rx_good := (rx_g3 147 rfl rfl)
set_option maxRecDepth 100000 in
theorem m_X6_82 : Cond.methodLink RX6 82 yX6_scanNumber ∈ rx_good := (rx_g3 150 rfl rfl)
set_option maxRecDepth 100000 in
theorem m_X6_85 : Cond.methodLink RX6 85 yJ9_min_7cf53 ∈ rx_good := (rx_g3 154 rfl rfl)
set_option maxRecDepth 100000 in
theorem m_X8_87 : Cond.methodLink RX8 87 yX8_readHeader ∈ rx_good := (rx_g3 155 rfl rfl)
set_option maxRecDepth 100000 in
theorem m_X8_419 : Cond.methodLinkNest RX8 419 yX6_takeWord "BeggarKings" ∈ rx_nest := (rx_n3 159 rfl rfl)
set_option maxRecDepth 100000 in
theorem m_X6_58 : Cond.methodLink RX6 58 yX6_isAtWord ∈ rx_good := (rx_g3 163 rfl rfl)
set_option maxRecDepth 100000 in
theorem m_X6_44 : Cond.methodLink RX6 44 yJ0_length_8abf5 ∈ rx_good := (rx_g3 167 rfl rfl)
set_option maxRecDepth 100000 in
theorem m_J0_335 : Cond.methodLink RJ0 335 yJ0_coder_7d493 ∈ rx_good := (rx_g3 171 rfl rfl)
set_option maxRecDepth 100000 in
theorem m_X6_54 : Cond.methodLink RX6 54 yJ0_charAt_5068e ∈ rx_good := (rx_g3 177 rfl rfl)
set_option maxRecDepth 100000 in
theorem m_J0_492 : Cond.methodLink RJ0 492 yJ0_isLatin1_aae02 ∈ rx_good := (rx_g3 181 rfl rfl)
set_option maxRecDepth 100000 in
theorem m_J0_495 : Cond.methodLink RJ0 495 yJ1_charAt_3b067 ∈ rx_good := (rx_g3 185 rfl rfl)
set_option maxRecDepth 100000 in
theorem m_J1_9 : Cond.methodLink RJ1 9 yJ0_checkIndex_df160 ∈ rx_good := (rx_g3 188 rfl rfl)
set_option maxRecDepth 100000 in
theorem m_J0_1059 : Cond.methodLink RJ0 1059 yJ3_checkIndex_8e157 ∈ rx_good := (rx_g3 193 rfl rfl)
set_option maxRecDepth 100000 in
theorem m_J0_498 : Cond.methodLink RJ0 498 yJ2_charAt_3b067 ∈ rx_good := (rx_g3 196 rfl rfl)
set_option maxRecDepth 100000 in
theorem m_J2_67 : Cond.methodLink RJ2 67 yJ2_checkIndex_2214a ∈ rx_good := (rx_g3 199 rfl rfl)
set_option maxRecDepth 100000 in
theorem m_J2_48 : Cond.methodLink RJ2 48 yJ2_length_9d52b ∈ rx_good := (rx_g3 202 rfl rfl)
set_option maxRecDepth 100000 in
theorem m_J2_414 : Cond.methodLink RJ2 414 yJ0_checkIndex_df160 ∈ rx_good := (rx_g3 205 rfl rfl)
set_option maxRecDepth 100000 in
theorem m_J2_71 : Cond.methodLink RJ2 71 yJ2_getChar_3b067 ∈ rx_good := (rx_g3 206 rfl rfl)
set_option maxRecDepth 100000 in
theorem m_X6_62 : Cond.methodLink RX6 62 yX6_fail ∈ rx_good := (rx_g3 215 rfl rfl)
set_option maxRecDepth 100000 in
theorem m_X8_422 : Cond.methodLinkNest RX8 422 yX6_takeNumber "BeggarKings" ∈ rx_nest := (rx_n3 219 rfl rfl)
set_option maxRecDepth 100000 in
theorem m_X8_425 : Cond.methodLinkNest RX8 425 yX6_takeSemicolon "BeggarKings" ∈ rx_nest := (rx_n3 223 rfl rfl)
set_option maxRecDepth 100000 in
theorem m_X8_91 : Cond.methodLink RX8 91 yX8_readPeople ∈ rx_good := (rx_g3 227 rfl rfl)
set_option maxRecDepth 100000 in
theorem m_X8_428 : Cond.methodLink RX8 428 yX8_isAtPerson ∈ rx_good := (rx_g3 230 rfl rfl)
set_option maxRecDepth 100000 in
theorem m_X8_440 : Cond.methodLinkNest RX8 440 yX6_isAtWord "BeggarKings" ∈ rx_nest := (rx_n3 234 rfl rfl)
set_option maxRecDepth 100000 in
theorem m_X8_432 : Cond.methodLinkNest RX8 432 yX6_fail "BeggarKings" ∈ rx_nest := (rx_n3 236 rfl rfl)
set_option maxRecDepth 100000 in
theorem m_X8_435 : Cond.methodLink RX8 435 yX8_readPerson ∈ rx_good := (rx_g3 237 rfl rfl)
set_option maxRecDepth 100000 in
theorem m_X8_446 : Cond.methodLinkNest RX8 446 yX6_takeEither "BeggarKings" ∈ rx_nest := (rx_n4 0 rfl rfl)
set_option maxRecDepth 100000 in
theorem m_X8_94 : Cond.methodLink RX8 94 yX8_readBridges ∈ rx_good := (rx_g4 6 rfl rfl)
set_option maxRecDepth 100000 in
theorem m_X8_456 : Cond.methodLink RX8 456 yX8_readBridge ∈ rx_good := (rx_g4 10 rfl rfl)
set_option maxRecDepth 100000 in
theorem m_X8_459 : Cond.methodLinkNest RX8 459 yX6_isAtEnd "BeggarKings" ∈ rx_nest := (rx_n4 13 rfl rfl)
set_option maxRecDepth 100000 in
theorem m_X8_97 : Cond.methodLinkNest RX8 97 yX6_hasFailed "BeggarKings" ∈ rx_nest := (rx_n4 17 rfl rfl)
set_option maxRecDepth 100000 in
theorem m_X8_101 : Cond.methodLinkNest RX8 101 yX5_copyFrom "BeggarKings" ∈ rx_nest := (rx_n4 21 rfl rfl)
set_option maxRecDepth 100000 in
theorem m_X5_59 : Cond.methodLinkNest RX5 59 yX8_copyRow "BeggarKings" ∈ rx_nest := (rx_n4 25 rfl rfl)
set_option maxRecDepth 100000 in
theorem m_X8_104 : Cond.methodLinkNest RX8 104 yX1_clear "BeggarKings" ∈ rx_nest := (rx_n4 26 rfl rfl)
set_option maxRecDepth 100000 in
theorem m_L_188 : Cond.methodLink RL 188 yL_isKing ∈ rx_good := (rx_g4 30 rfl rfl)
set_option maxRecDepth 100000 in
theorem m_L_15 : Cond.methodLink RL 15 yX8_isKing ∈ rx_good := (rx_g4 34 rfl rfl)
set_option maxRecDepth 100000 in
theorem m_X8_148 : Cond.methodLink RX8 148 yX8_requirePerson ∈ rx_good := (rx_g4 38 rfl rfl)
set_option maxRecDepth 100000 in
theorem m_X8_385 : Cond.methodLinkNest RX8 385 yX5_hasPerson "BeggarKings" ∈ rx_nest := (rx_n4 42 rfl rfl)
set_option maxRecDepth 100000 in
theorem m_X8_151 : Cond.methodLinkNest RX8 151 yX5_hasKing "BeggarKings" ∈ rx_nest := (rx_n4 59 rfl rfl)
set_option maxRecDepth 100000 in
theorem m_L_191 : Cond.methodLink RL 191 yL_isEast ∈ rx_good := (rx_g4 60 rfl rfl)
set_option maxRecDepth 100000 in
theorem m_L_21 : Cond.methodLink RL 21 yX8_isEast ∈ rx_good := (rx_g4 63 rfl rfl)
set_option maxRecDepth 100000 in
theorem m_L_194 : Cond.methodLink RL 194 yL_coins ∈ rx_good := (rx_g4 67 rfl rfl)
set_option maxRecDepth 100000 in
theorem m_L_24 : Cond.methodLink RL 24 yX8_coins ∈ rx_good := (rx_g4 70 rfl rfl)
set_option maxRecDepth 100000 in
theorem m_L_197 : Cond.methodLink RL 197 yL_pride ∈ rx_good := (rx_g4 74 rfl rfl)
set_option maxRecDepth 100000 in
theorem m_L_27 : Cond.methodLink RL 27 yX8_pride ∈ rx_good := (rx_g4 77 rfl rfl)
set_option maxRecDepth 100000 in
theorem m_L_200 : Cond.methodLink RL 200 yL_rags ∈ rx_good := (rx_g4 81 rfl rfl)
set_option maxRecDepth 100000 in
theorem m_L_30 : Cond.methodLink RL 30 yX8_rags ∈ rx_good := (rx_g4 84 rfl rfl)
set_option maxRecDepth 100000 in
theorem m_L_203 : Cond.methodLink RL 203 yL_rank ∈ rx_good := (rx_g4 88 rfl rfl)
set_option maxRecDepth 100000 in
theorem m_L_33 : Cond.methodLink RL 33 yX8_rank ∈ rx_good := (rx_g4 91 rfl rfl)
set_option maxRecDepth 100000 in
theorem m_L_206 : Cond.methodLink RL 206 yL_wearer ∈ rx_good := (rx_g4 95 rfl rfl)
set_option maxRecDepth 100000 in
theorem m_L_36 : Cond.methodLink RL 36 yX8_wearer ∈ rx_good := (rx_g4 98 rfl rfl)
set_option maxRecDepth 100000 in
theorem m_X8_170 : Cond.methodLinkNest RX8 170 yX2_wearerOf "BeggarKings" ∈ rx_nest := (rx_n4 102 rfl rfl)
set_option maxRecDepth 100000 in
theorem m_L_209 : Cond.methodLink RL 209 yL_crossings ∈ rx_good := (rx_g4 106 rfl rfl)
set_option maxRecDepth 100000 in
theorem m_L_39 : Cond.methodLink RL 39 yX8_crossings ∈ rx_good := (rx_g4 109 rfl rfl)
set_option maxRecDepth 100000 in
theorem m_L_216 : Cond.methodLink RL 216 yL_bowTo ∈ rx_good := (rx_g4 113 rfl rfl)
set_option maxRecDepth 100000 in
theorem m_L_42 : Cond.methodLink RL 42 yX8_bowTo ∈ rx_good := (rx_g4 116 rfl rfl)
set_option maxRecDepth 100000 in
theorem m_X8_186 : Cond.methodLinkNest RX8 186 yX2_angleTo "BeggarKings" ∈ rx_nest := (rx_n4 121 rfl rfl)
set_option maxRecDepth 100000 in
theorem m_L_220 : Cond.methodLink RL 220 yL_bowToKeeper ∈ rx_good := (rx_g4 125 rfl rfl)
set_option maxRecDepth 100000 in
theorem m_L_46 : Cond.methodLink RL 46 yX8_bowToKeeper ∈ rx_good := (rx_g4 128 rfl rfl)
set_option maxRecDepth 100000 in
theorem m_X8_190 : Cond.methodLinkNest RX8 190 yX2_keeperAngle "BeggarKings" ∈ rx_nest := (rx_n4 132 rfl rfl)
set_option maxRecDepth 100000 in
theorem m_L_223 : Cond.methodLink RL 223 yL_isTakenForKing ∈ rx_good := (rx_g4 133 rfl rfl)
set_option maxRecDepth 100000 in
theorem m_L_49 : Cond.methodLink RL 49 yX8_isTakenForKing ∈ rx_good := (rx_g4 136 rfl rfl)
set_option maxRecDepth 100000 in
theorem m_L_226 : Cond.methodLink RL 226 yL_tollOf ∈ rx_good := (rx_g4 140 rfl rfl)
set_option maxRecDepth 100000 in
theorem m_L_52 : Cond.methodLink RL 52 yX8_tollOf ∈ rx_good := (rx_g4 143 rfl rfl)
set_option maxRecDepth 100000 in
theorem m_X8_196 : Cond.methodLinkNest RX8 196 yX2_tollNow "BeggarKings" ∈ rx_nest := (rx_n4 147 rfl rfl)
set_option maxRecDepth 100000 in
theorem m_X2_108 : Cond.methodLink RX2 108 yX2_tollIn ∈ rx_good := (rx_g4 151 rfl rfl)
set_option maxRecDepth 100000 in
theorem m_X2_111 : Cond.methodLinkNest RX2 111 yX5_tollFor "BeggarKings" ∈ rx_nest := (rx_n4 155 rfl rfl)
set_option maxRecDepth 100000 in
theorem m_L_237 : Cond.methodLink RL 237 yL_cheapestRags ∈ rx_good := (rx_g4 159 rfl rfl)
set_option maxRecDepth 100000 in
theorem m_L_55 : Cond.methodLink RL 55 yX8_cheapestRags ∈ rx_good := (rx_g4 162 rfl rfl)
set_option maxRecDepth 100000 in
theorem m_X8_205 : Cond.methodLinkNest RX8 205 yX2_cheapestSet "BeggarKings" ∈ rx_nest := (rx_n4 166 rfl rfl)
set_option maxRecDepth 100000 in
theorem m_L_245 : Cond.methodLink RL 245 yL_royalHolder ∈ rx_good := (rx_g4 170 rfl rfl)
set_option maxRecDepth 100000 in
theorem m_L_58 : Cond.methodLink RL 58 yX8_royalHolder ∈ rx_good := (rx_g4 173 rfl rfl)
set_option maxRecDepth 100000 in
theorem m_X8_211 : Cond.methodLink RX8 211 yX8_requireKing ∈ rx_good := (rx_g4 177 rfl rfl)
set_option maxRecDepth 100000 in
theorem m_L_248 : Cond.methodLink RL 248 yL_isRoyalCoinEast ∈ rx_good := (rx_g4 182 rfl rfl)
set_option maxRecDepth 100000 in
theorem m_L_61 : Cond.methodLink RL 61 yX8_isRoyalCoinEast ∈ rx_good := (rx_g4 185 rfl rfl)
set_option maxRecDepth 100000 in
theorem m_X8_217 : Cond.methodLinkNest RX8 217 yX2_royalCoinBank "BeggarKings" ∈ rx_nest := (rx_n4 189 rfl rfl)
set_option maxRecDepth 100000 in
theorem m_L_251 : Cond.methodLink RL 251 yL_isCounted ∈ rx_good := (rx_g4 193 rfl rfl)
set_option maxRecDepth 100000 in
theorem m_L_64 : Cond.methodLink RL 64 yX8_isCounted ∈ rx_good := (rx_g4 196 rfl rfl)
set_option maxRecDepth 100000 in
theorem m_L_254 : Cond.methodLink RL 254 yL_royalCoins ∈ rx_good := (rx_g4 200 rfl rfl)
set_option maxRecDepth 100000 in
theorem m_L_67 : Cond.methodLink RL 67 yX8_royalCoins ∈ rx_good := (rx_g4 203 rfl rfl)
set_option maxRecDepth 100000 in
theorem m_X8_223 : Cond.methodLinkNest RX8 223 yX2_royalCoinsOf "BeggarKings" ∈ rx_nest := (rx_n4 207 rfl rfl)
set_option maxRecDepth 100000 in
theorem m_L_275 : Cond.methodLink RL 275 yL_offer ∈ rx_good := (rx_g4 211 rfl rfl)
set_option maxRecDepth 100000 in
theorem m_L_70 : Cond.methodLink RL 70 yX8_offer ∈ rx_good := (rx_g4 214 rfl rfl)
set_option maxRecDepth 100000 in
theorem m_X8_241 : Cond.methodLinkNest RX8 241 yX2_offerOf "BeggarKings" ∈ rx_nest := (rx_n4 218 rfl rfl)
set_option maxRecDepth 100000 in
theorem m_X2_122 : Cond.methodLink RX2 122 yX2_queueOn ∈ rx_good := (rx_g4 222 rfl rfl)
set_option maxRecDepth 100000 in
theorem m_X2_126 : Cond.methodLinkNest RX2 126 yX3_placeOf "BeggarKings" ∈ rx_nest := (rx_n4 223 rfl rfl)
set_option maxRecDepth 100000 in
theorem m_X2_129 : Cond.methodLinkNest RX2 129 yX3_offerAt "BeggarKings" ∈ rx_nest := (rx_n4 227 rfl rfl)
set_option maxRecDepth 100000 in
theorem m_L_282 : Cond.methodLink RL 282 yL_isOpen ∈ rx_good := (rx_g4 228 rfl rfl)
set_option maxRecDepth 100000 in
theorem m_L_73 : Cond.methodLink RL 73 yX8_isOpen ∈ rx_good := (rx_g4 231 rfl rfl)
set_option maxRecDepth 100000 in
theorem m_X8_252 : Cond.methodLinkNest RX8 252 yX5_opens "BeggarKings" ∈ rx_nest := (rx_n4 236 rfl rfl)
set_option maxRecDepth 100000 in
theorem m_L_289 : Cond.methodLink RL 289 yL_firstPlaceOffer ∈ rx_good := (rx_g4 237 rfl rfl)
set_option maxRecDepth 100000 in
theorem m_L_76 : Cond.methodLink RL 76 yX8_firstPlaceOffer ∈ rx_good := (rx_g5 0 rfl rfl)
set_option maxRecDepth 100000 in
theorem m_X8_259 : Cond.methodLinkNest RX8 259 yX3_offerToLead "BeggarKings" ∈ rx_nest := (rx_n5 4 rfl rfl)
set_option maxRecDepth 100000 in
theorem m_X3_34 : Cond.methodLink RX3 34 yX3_personAt ∈ rx_good := (rx_g5 8 rfl rfl)
set_option maxRecDepth 100000 in
theorem m_X3_38 : Cond.methodLink RX3 38 yX3_offerAt ∈ rx_good := (rx_g5 9 rfl rfl)
set_option maxRecDepth 100000 in
theorem m_L_292 : Cond.methodLink RL 292 yL_turnsUntilCrossing ∈ rx_good := (rx_g5 10 rfl rfl)
set_option maxRecDepth 100000 in
theorem m_L_79 : Cond.methodLink RL 79 yX8_turnsUntilCrossing ∈ rx_good := (rx_g5 13 rfl rfl)
set_option maxRecDepth 100000 in
theorem m_X8_265 : Cond.methodLinkNest RX8 265 yX2_passTurn "BeggarKings" ∈ rx_nest := (rx_n5 17 rfl rfl)
set_option maxRecDepth 100000 in
theorem m_X2_136 : Cond.methodLink RX2 136 yX2_departureBank ∈ rx_good := (rx_g5 21 rfl rfl)
set_option maxRecDepth 100000 in
theorem m_X2_142 : Cond.methodLinkNest RX2 142 yX5_opens "BeggarKings" ∈ rx_nest := (rx_n5 25 rfl rfl)
set_option maxRecDepth 100000 in
theorem m_X2_149 : Cond.methodLink RX2 149 yX2_letFirstTry ∈ rx_good := (rx_g5 26 rfl rfl)
set_option maxRecDepth 100000 in
theorem m_X2_153 : Cond.methodLinkNest RX2 153 yX3_personAt "BeggarKings" ∈ rx_nest := (rx_n5 30 rfl rfl)
set_option maxRecDepth 100000 in
theorem m_X2_156 : Cond.methodLinkNest RX2 156 yX3_removeAt "BeggarKings" ∈ rx_nest := (rx_n5 31 rfl rfl)
set_option maxRecDepth 100000 in
theorem m_X3_30 : Cond.methodLinkNest RX3 30 yX8_put "BeggarKings" ∈ rx_nest := (rx_n5 35 rfl rfl)
set_option maxRecDepth 100000 in
theorem m_X2_160 : Cond.methodLinkNest RX2 160 yX8_add "BeggarKings" ∈ rx_nest := (rx_n5 36 rfl rfl)
set_option maxRecDepth 100000 in
theorem m_X2_163 : Cond.methodLink RX2 163 yX2_countRoyalCoinsOf ∈ rx_good := (rx_g5 39 rfl rfl)
set_option maxRecDepth 100000 in
theorem m_X2_166 : Cond.methodLink RX2 166 yX2_learn ∈ rx_good := (rx_g5 43 rfl rfl)
set_option maxRecDepth 100000 in
theorem m_X2_173 : Cond.methodLink RX2 173 yJ9_max_7cf53 ∈ rx_good := (rx_g5 47 rfl rfl)
set_option maxRecDepth 100000 in
theorem m_X2_178 : Cond.methodLink RX2 178 yJ9_min_7cf53 ∈ rx_good := (rx_g5 50 rfl rfl)
set_option maxRecDepth 100000 in
theorem m_L_295 : Cond.methodLink RL 295 yL_tollBoxAfter ∈ rx_good := (rx_g5 51 rfl rfl)
set_option maxRecDepth 100000 in
theorem m_L_82 : Cond.methodLink RL 82 yX8_tollBoxAfter ∈ rx_good := (rx_g5 54 rfl rfl)
set_option maxRecDepth 100000 in
theorem m_X8_268 : Cond.methodLink RX8 268 yX8_foresee ∈ rx_good := (rx_g5 58 rfl rfl)
set_option maxRecDepth 100000 in
theorem m_X8_344 : Cond.methodLinkNest RX8 344 yX2_passSeveral "BeggarKings" ∈ rx_nest := (rx_n5 63 rfl rfl)
set_option maxRecDepth 100000 in
theorem m_X2_132 : Cond.methodLink RX2 132 yX2_passTurn ∈ rx_good := (rx_g5 67 rfl rfl)
set_option maxRecDepth 100000 in
theorem m_L_298 : Cond.methodLink RL 298 yL_limitAngleAfter ∈ rx_good := (rx_g5 68 rfl rfl)
set_option maxRecDepth 100000 in
theorem m_L_85 : Cond.methodLink RL 85 yX8_limitAngleAfter ∈ rx_good := (rx_g5 71 rfl rfl)
set_option maxRecDepth 100000 in
theorem m_L_301 : Cond.methodLink RL 301 yL_crossingObstacle ∈ rx_good := (rx_g5 75 rfl rfl)
set_option maxRecDepth 100000 in
theorem m_L_88 : Cond.methodLink RL 88 yX8_crossingObstacle ∈ rx_good := (rx_g5 78 rfl rfl)
set_option maxRecDepth 100000 in
theorem m_X8_271 : Cond.methodLinkNest RX8 271 yX2_departureBank "BeggarKings" ∈ rx_nest := (rx_n5 82 rfl rfl)
set_option maxRecDepth 100000 in
theorem m_X8_274 : Cond.methodLink RX8 274 yJ9_max_7cf53 ∈ rx_good := (rx_g5 83 rfl rfl)
set_option maxRecDepth 100000 in
theorem m_L_308 : Cond.methodLink RL 308 yL_dropCoins ∈ rx_good := (rx_g5 84 rfl rfl)
set_option maxRecDepth 100000 in
theorem m_L_91 : Cond.methodLink RL 91 yX8_dropCoins ∈ rx_good := (rx_g5 88 rfl rfl)
set_option maxRecDepth 100000 in
theorem m_X8_292 : Cond.methodLink RX8 292 yX8_allow ∈ rx_good := (rx_g5 94 rfl rfl)
set_option maxRecDepth 100000 in
theorem m_X8_396 : Cond.methodLinkNest RX8 396 yX2_faultOf "BeggarKings" ∈ rx_nest := (rx_n5 98 rfl rfl)
set_option maxRecDepth 100000 in
theorem m_X2_184 : Cond.methodLinkNest RX2 184 yX5_hasPerson "BeggarKings" ∈ rx_nest := (rx_n5 102 rfl rfl)
set_option maxRecDepth 100000 in
theorem m_X2_187 : Cond.methodLink RX2 187 yX2_isSound ∈ rx_good := (rx_g5 103 rfl rfl)
set_option maxRecDepth 100000 in
theorem m_X2_202 : Cond.methodLinkNest RX2 202 yX7_allows "BeggarKings" ∈ rx_nest := (rx_n5 115 rfl rfl)
set_option maxRecDepth 100000 in
theorem m_X2_191 : Cond.methodLink RX2 191 yX2_isPossible ∈ rx_good := (rx_g5 120 rfl rfl)
set_option maxRecDepth 100000 in
theorem m_X2_205 : Cond.methodLink RX2 205 yX2_offerOf ∈ rx_good := (rx_g5 124 rfl rfl)
set_option maxRecDepth 100000 in
theorem m_X8_351 : Cond.methodLinkNest RX8 351 yX1_push "BeggarKings" ∈ rx_nest := (rx_n5 142 rfl rfl)
set_option maxRecDepth 100000 in
theorem m_X1_27 : Cond.methodLinkNest RX1 27 yX2_copyFrom "BeggarKings" ∈ rx_nest := (rx_n5 146 rfl rfl)
set_option maxRecDepth 100000 in
theorem m_X1_31 : Cond.methodLink RX1 31 yJ9_min_7cf53 ∈ rx_good := (rx_g5 147 rfl rfl)
set_option maxRecDepth 100000 in
theorem m_X8_296 : Cond.methodLinkNest RX8 296 yX2_drop "BeggarKings" ∈ rx_nest := (rx_n5 148 rfl rfl)
set_option maxRecDepth 100000 in
theorem m_L_311 : Cond.methodLink RL 311 yL_pickCoins ∈ rx_good := (rx_g5 152 rfl rfl)
set_option maxRecDepth 100000 in
theorem m_L_96 : Cond.methodLink RL 96 yX8_pickCoins ∈ rx_good := (rx_g5 155 rfl rfl)
set_option maxRecDepth 100000 in
theorem m_X8_302 : Cond.methodLinkNest RX8 302 yX2_pick "BeggarKings" ∈ rx_nest := (rx_n5 161 rfl rfl)
set_option maxRecDepth 100000 in
theorem m_L_314 : Cond.methodLink RL 314 yL_layRoyalCoin ∈ rx_good := (rx_g5 165 rfl rfl)
set_option maxRecDepth 100000 in
theorem m_L_99 : Cond.methodLink RL 99 yX8_layRoyalCoin ∈ rx_good := (rx_g5 168 rfl rfl)
set_option maxRecDepth 100000 in
theorem m_X8_308 : Cond.methodLinkNest RX8 308 yX2_lay "BeggarKings" ∈ rx_nest := (rx_n5 174 rfl rfl)
set_option maxRecDepth 100000 in
theorem m_X2_235 : Cond.methodLink RX2 235 yX2_royalCoinsOf ∈ rx_good := (rx_g5 178 rfl rfl)
set_option maxRecDepth 100000 in
theorem m_L_317 : Cond.methodLink RL 317 yL_liftRoyalCoin ∈ rx_good := (rx_g5 179 rfl rfl)
set_option maxRecDepth 100000 in
theorem m_L_102 : Cond.methodLink RL 102 yX8_liftRoyalCoin ∈ rx_good := (rx_g5 182 rfl rfl)
set_option maxRecDepth 100000 in
theorem m_X8_314 : Cond.methodLinkNest RX8 314 yX2_lift "BeggarKings" ∈ rx_nest := (rx_n5 188 rfl rfl)
set_option maxRecDepth 100000 in
theorem m_L_320 : Cond.methodLink RL 320 yL_swapRags ∈ rx_good := (rx_g5 192 rfl rfl)
set_option maxRecDepth 100000 in
theorem m_L_105 : Cond.methodLink RL 105 yX8_swapRags ∈ rx_good := (rx_g5 195 rfl rfl)
set_option maxRecDepth 100000 in
theorem m_X8_320 : Cond.methodLinkNest RX8 320 yX2_swap "BeggarKings" ∈ rx_nest := (rx_n5 201 rfl rfl)
set_option maxRecDepth 100000 in
theorem m_L_323 : Cond.methodLink RL 323 yL_joinQueue ∈ rx_good := (rx_g5 205 rfl rfl)
set_option maxRecDepth 100000 in
theorem m_L_108 : Cond.methodLink RL 108 yX8_joinQueue ∈ rx_good := (rx_g5 208 rfl rfl)
set_option maxRecDepth 100000 in
theorem m_X8_326 : Cond.methodLinkNest RX8 326 yX2_join "BeggarKings" ∈ rx_nest := (rx_n5 214 rfl rfl)
set_option maxRecDepth 100000 in
theorem m_X2_238 : Cond.methodLinkNest RX2 238 yX3_insert "BeggarKings" ∈ rx_nest := (rx_n5 218 rfl rfl)
set_option maxRecDepth 100000 in
theorem m_L_326 : Cond.methodLink RL 326 yL_quitQueue ∈ rx_good := (rx_g5 222 rfl rfl)
set_option maxRecDepth 100000 in
theorem m_L_111 : Cond.methodLink RL 111 yX8_quitQueue ∈ rx_good := (rx_g5 225 rfl rfl)
set_option maxRecDepth 100000 in
theorem m_X8_332 : Cond.methodLinkNest RX8 332 yX2_quit "BeggarKings" ∈ rx_nest := (rx_n5 231 rfl rfl)
set_option maxRecDepth 100000 in
theorem m_L_329 : Cond.methodLink RL 329 yL_setPride ∈ rx_good := (rx_g5 235 rfl rfl)
set_option maxRecDepth 100000 in
theorem m_L_114 : Cond.methodLink RL 114 yX8_setPride ∈ rx_good := (rx_g5 238 rfl rfl)
set_option maxRecDepth 100000 in
theorem m_X8_338 : Cond.methodLinkNest RX8 338 yX2_changePride "BeggarKings" ∈ rx_nest := (rx_n6 4 rfl rfl)
set_option maxRecDepth 100000 in
theorem m_L_332 : Cond.methodLink RL 332 yL_passTurns ∈ rx_good := (rx_g6 8 rfl rfl)
set_option maxRecDepth 100000 in
theorem m_L_117 : Cond.methodLink RL 117 yX8_passTurns ∈ rx_good := (rx_g6 11 rfl rfl)
set_option maxRecDepth 100000 in
theorem m_L_335 : Cond.methodLink RL 335 yL_runScript ∈ rx_good := (rx_g6 17 rfl rfl)
set_option maxRecDepth 100000 in
theorem m_L_120 : Cond.methodLink RL 120 yX8_runScript ∈ rx_good := (rx_g6 20 rfl rfl)
set_option maxRecDepth 100000 in
theorem m_X8_347 : Cond.methodLinkNest RX8 347 yX4_read "BeggarKings" ∈ rx_nest := (rx_n6 24 rfl rfl)
set_option maxRecDepth 100000 in
theorem m_X4_28 : Cond.methodLinkNest RX4 28 yX6_hasFailed "BeggarKings" ∈ rx_nest := (rx_n6 28 rfl rfl)
set_option maxRecDepth 100000 in
theorem m_X4_34 : Cond.methodLinkNest RX4 34 yX6_isAtEnd "BeggarKings" ∈ rx_nest := (rx_n6 29 rfl rfl)
set_option maxRecDepth 100000 in
theorem m_X4_37 : Cond.methodLink RX4 37 yX4_readCommand ∈ rx_good := (rx_g6 30 rfl rfl)
set_option maxRecDepth 100000 in
theorem m_X4_41 : Cond.methodLinkNest RX4 41 yX7_spelledIn "BeggarKings" ∈ rx_nest := (rx_n6 34 rfl rfl)
set_option maxRecDepth 100000 in
theorem m_X7_72 : Cond.methodLinkNest RX7 72 yX6_isAtWord "BeggarKings" ∈ rx_nest := (rx_n6 39 rfl rfl)
set_option maxRecDepth 100000 in
theorem m_X4_45 : Cond.methodLinkNest RX4 45 yX6_fail "BeggarKings" ∈ rx_nest := (rx_n6 40 rfl rfl)
set_option maxRecDepth 100000 in
theorem m_X4_49 : Cond.methodLinkNest RX4 49 yX6_advance "BeggarKings" ∈ rx_nest := (rx_n6 41 rfl rfl)
set_option maxRecDepth 100000 in
theorem m_X4_52 : Cond.methodLinkNest RX4 52 yX7_lowest "BeggarKings" ∈ rx_nest := (rx_n6 42 rfl rfl)
set_option maxRecDepth 100000 in
theorem m_X4_56 : Cond.methodLinkNest RX4 56 yX7_highest "BeggarKings" ∈ rx_nest := (rx_n6 46 rfl rfl)
set_option maxRecDepth 100000 in
theorem m_X4_59 : Cond.methodLinkNest RX4 59 yX6_takeNumber "BeggarKings" ∈ rx_nest := (rx_n6 50 rfl rfl)
set_option maxRecDepth 100000 in
theorem m_X4_63 : Cond.methodLinkNest RX4 63 yX8_put "BeggarKings" ∈ rx_nest := (rx_n6 51 rfl rfl)
set_option maxRecDepth 100000 in
theorem m_X4_70 : Cond.methodLinkNest RX4 70 yX6_takeSemicolon "BeggarKings" ∈ rx_nest := (rx_n6 52 rfl rfl)
set_option maxRecDepth 100000 in
theorem m_X8_354 : Cond.methodLinkNest RX8 354 yX4_play "BeggarKings" ∈ rx_nest := (rx_n6 53 rfl rfl)
set_option maxRecDepth 100000 in
theorem m_X4_73 : Cond.methodLinkNest RX4 73 yX8_at "BeggarKings" ∈ rx_nest := (rx_n6 57 rfl rfl)
set_option maxRecDepth 100000 in
theorem m_X4_77 : Cond.methodLinkNest RX4 77 yX2_faultOf "BeggarKings" ∈ rx_nest := (rx_n6 58 rfl rfl)
set_option maxRecDepth 100000 in
theorem m_X4_83 : Cond.methodLinkNest RX4 83 yX2_carryOut "BeggarKings" ∈ rx_nest := (rx_n6 59 rfl rfl)
set_option maxRecDepth 100000 in
theorem m_X2_208 : Cond.methodLink RX2 208 yX2_drop ∈ rx_good := (rx_g6 63 rfl rfl)
set_option maxRecDepth 100000 in
theorem m_X2_211 : Cond.methodLink RX2 211 yX2_pick ∈ rx_good := (rx_g6 64 rfl rfl)
set_option maxRecDepth 100000 in
theorem m_X2_214 : Cond.methodLink RX2 214 yX2_lay ∈ rx_good := (rx_g6 65 rfl rfl)
set_option maxRecDepth 100000 in
theorem m_X2_217 : Cond.methodLink RX2 217 yX2_lift ∈ rx_good := (rx_g6 66 rfl rfl)
set_option maxRecDepth 100000 in
theorem m_X2_220 : Cond.methodLink RX2 220 yX2_swap ∈ rx_good := (rx_g6 67 rfl rfl)
set_option maxRecDepth 100000 in
theorem m_X2_223 : Cond.methodLink RX2 223 yX2_join ∈ rx_good := (rx_g6 68 rfl rfl)
set_option maxRecDepth 100000 in
theorem m_X2_226 : Cond.methodLink RX2 226 yX2_quit ∈ rx_good := (rx_g6 69 rfl rfl)
set_option maxRecDepth 100000 in
theorem m_X2_229 : Cond.methodLink RX2 229 yX2_changePride ∈ rx_good := (rx_g6 70 rfl rfl)
set_option maxRecDepth 100000 in
theorem m_X2_232 : Cond.methodLink RX2 232 yX2_passSeveral ∈ rx_good := (rx_g6 71 rfl rfl)
set_option maxRecDepth 100000 in
theorem m_L_342 : Cond.methodLink RL 342 yL_outputByte ∈ rx_good := (rx_g6 72 rfl rfl)
set_option maxRecDepth 100000 in
theorem m_L_123 : Cond.methodLink RL 123 yX8_outputByte ∈ rx_good := (rx_g6 75 rfl rfl)
set_option maxRecDepth 100000 in
theorem m_L_349 : Cond.methodLink RL 349 yL_undo ∈ rx_good := (rx_g6 80 rfl rfl)
set_option maxRecDepth 100000 in
theorem m_L_126 : Cond.methodLink RL 126 yX8_undo ∈ rx_good := (rx_g6 83 rfl rfl)
set_option maxRecDepth 100000 in
theorem m_X8_380 : Cond.methodLinkNest RX8 380 yX1_pop "BeggarKings" ∈ rx_nest := (rx_n6 88 rfl rfl)
set_option maxRecDepth 100000 in
theorem m_L_357 : Cond.methodLink RL 357 yL_restoreSnapshot ∈ rx_good := (rx_g6 92 rfl rfl)
set_option maxRecDepth 100000 in
theorem m_L_130 : Cond.methodLink RL 130 yX8_restoreSnapshot ∈ rx_good := (rx_g6 95 rfl rfl)
set_option maxRecDepth 100000 in
theorem m_L_148 : Cond.methodLink RL 148 yX9_thrown ∈ rx_good := (rx_g6 100 rfl rfl)
set_option maxRecDepth 100000 in
theorem m_L_136 : Cond.methodLink RL 136 yX9_init ∈ rx_good := (rx_g6 106 rfl rfl)
set_option maxRecDepth 100000 in
theorem m_X9_43 : Cond.methodLink RX9 43 yJ0_length_8abf5 ∈ rx_good := (rx_g6 111 rfl rfl)
set_option maxRecDepth 100000 in
theorem m_X9_49 : Cond.methodLink RX9 49 yJ0_charAt_5068e ∈ rx_good := (rx_g6 112 rfl rfl)
set_option maxRecDepth 100000 in
theorem m_X9_56 : Cond.methodLink RX9 56 yX9_loadGame ∈ rx_good := (rx_g6 113 rfl rfl)
set_option maxRecDepth 100000 in
theorem m_X9_200 : Cond.methodLink RX9 200 yX9_in ∈ rx_good := (rx_g6 117 rfl rfl)
set_option maxRecDepth 100000 in
theorem m_X9_239 : Cond.methodLink RX9 239 yX9_fails ∈ rx_good := (rx_g6 120 rfl rfl)
set_option maxRecDepth 100000 in
theorem m_X9_243 : Cond.methodLink RX9 243 yX9_copies ∈ rx_good := (rx_g6 124 rfl rfl)
set_option maxRecDepth 100000 in
theorem m_X9_247 : Cond.methodLink RX9 247 yX9_starts ∈ rx_good := (rx_g6 127 rfl rfl)
set_option maxRecDepth 100000 in
theorem m_X9_190 : Cond.methodLink RX9 190 yX9_next ∈ rx_good := (rx_g6 131 rfl rfl)
set_option maxRecDepth 100000 in
theorem m_X9_171 : Cond.methodLink RX9 171 yX9_byteAt ∈ rx_good := (rx_g6 135 rfl rfl)
set_option maxRecDepth 100000 in
theorem m_X9_184 : Cond.methodLink RX9 184 yX9_isLetter ∈ rx_good := (rx_g6 139 rfl rfl)
set_option maxRecDepth 100000 in
theorem m_X9_174 : Cond.methodLink RX9 174 yX9_isFigure ∈ rx_good := (rx_g6 142 rfl rfl)
set_option maxRecDepth 100000 in
theorem m_X9_187 : Cond.methodLink RX9 187 yX9_readsNumber ∈ rx_good := (rx_g6 145 rfl rfl)
set_option maxRecDepth 100000 in
theorem m_X9_250 : Cond.methodLink RX9 250 yX9_readsText ∈ rx_good := (rx_g6 150 rfl rfl)
set_option maxRecDepth 100000 in
theorem m_X9_210 : Cond.methodLink RX9 210 yX9_mustWord ∈ rx_good := (rx_g6 155 rfl rfl)
set_option maxRecDepth 100000 in
theorem m_X9_193 : Cond.methodLink RX9 193 yX9_isWord ∈ rx_good := (rx_g6 159 rfl rfl)
set_option maxRecDepth 100000 in
theorem m_X9_197 : Cond.methodLink RX9 197 yX9_errs ∈ rx_good := (rx_g6 163 rfl rfl)
set_option maxRecDepth 100000 in
theorem m_X9_214 : Cond.methodLink RX9 214 yX9_number0 ∈ rx_good := (rx_g6 167 rfl rfl)
set_option maxRecDepth 100000 in
theorem m_X9_217 : Cond.methodLink RX9 217 yX9_semicolon ∈ rx_good := (rx_g6 171 rfl rfl)
set_option maxRecDepth 100000 in
theorem m_X9_220 : Cond.methodLink RX9 220 yX9_isPersonHere ∈ rx_good := (rx_g6 175 rfl rfl)
set_option maxRecDepth 100000 in
theorem m_X9_224 : Cond.methodLink RX9 224 yX9_readsPerson ∈ rx_good := (rx_g6 181 rfl rfl)
set_option maxRecDepth 100000 in
theorem m_X9_85 : Cond.methodLink RX9 85 yX9_truth ∈ rx_good := (rx_g6 185 rfl rfl)
set_option maxRecDepth 100000 in
theorem m_X9_234 : Cond.methodLink RX9 234 yX9_bankHere ∈ rx_good := (rx_g6 188 rfl rfl)
set_option maxRecDepth 100000 in
theorem m_X9_105 : Cond.methodLink RX9 105 yX9_lays ∈ rx_good := (rx_g6 194 rfl rfl)
set_option maxRecDepth 100000 in
theorem m_X9_98 : Cond.methodLink RX9 98 yX9_laysRoyal ∈ rx_good := (rx_g6 198 rfl rfl)
set_option maxRecDepth 100000 in
theorem m_X9_227 : Cond.methodLink RX9 227 yX9_readsBridge ∈ rx_good := (rx_g6 202 rfl rfl)
set_option maxRecDepth 100000 in
theorem m_L_141 : Cond.methodLink RL 141 yX9_appendText ∈ rx_good := (rx_g7 31 rfl rfl)
set_option maxRecDepth 100000 in
theorem m_X9_157 : Cond.methodLink RX9 157 yX9_bytes ∈ rx_good := (rx_g7 35 rfl rfl)
set_option maxRecDepth 100000 in
theorem m_L_154 : Cond.methodLink RL 154 yX9_errorCode ∈ rx_good := (rx_g7 39 rfl rfl)
set_option maxRecDepth 100000 in
theorem m_L_158 : Cond.methodLink RL 158 yX9_errorOffset ∈ rx_good := (rx_g7 43 rfl rfl)
set_option maxRecDepth 100000 in
theorem m_L_147 : Cond.methodLink RL 147 yX9_loadGame ∈ rx_good := (rx_g7 47 rfl rfl)
set_option maxRecDepth 100000 in
theorem m_L_162 : Cond.methodLink RL 162 yX9_turn ∈ rx_good := (rx_g7 48 rfl rfl)
set_option maxRecDepth 100000 in
theorem m_L_166 : Cond.methodLink RL 166 yX9_limitAngle ∈ rx_good := (rx_g7 52 rfl rfl)
set_option maxRecDepth 100000 in
theorem m_L_170 : Cond.methodLink RL 170 yX9_tollBox ∈ rx_good := (rx_g7 56 rfl rfl)
set_option maxRecDepth 100000 in
theorem m_L_175 : Cond.methodLink RL 175 yX9_groundCoins ∈ rx_good := (rx_g7 60 rfl rfl)
set_option maxRecDepth 100000 in
theorem m_L_179 : Cond.methodLink RL 179 yX9_personCount ∈ rx_good := (rx_g7 64 rfl rfl)
set_option maxRecDepth 100000 in
theorem m_L_183 : Cond.methodLink RL 183 yX9_kingCount ∈ rx_good := (rx_g7 68 rfl rfl)
set_option maxRecDepth 100000 in
theorem m_X9_260 : Cond.methodLink RX9 260 yX9_kings ∈ rx_good := (rx_g7 72 rfl rfl)
set_option maxRecDepth 100000 in
theorem m_X9_60 : Cond.methodLink RX9 60 yX9_of ∈ rx_good := (rx_g7 76 rfl rfl)
set_option maxRecDepth 100000 in
theorem m_L_187 : Cond.methodLink RL 187 yX9_bankCount ∈ rx_good := (rx_g7 80 rfl rfl)
set_option maxRecDepth 100000 in
theorem m_L_190 : Cond.methodLink RL 190 yX9_isKing ∈ rx_good := (rx_g7 84 rfl rfl)
set_option maxRecDepth 100000 in
theorem m_X9_263 : Cond.methodLink RX9 263 yX9_noOne ∈ rx_good := (rx_g7 88 rfl rfl)
set_option maxRecDepth 100000 in
theorem m_X9_64 : Cond.methodLink RX9 64 yX9_isKingNow ∈ rx_good := (rx_g7 92 rfl rfl)
set_option maxRecDepth 100000 in
theorem m_L_193 : Cond.methodLink RL 193 yX9_isEast ∈ rx_good := (rx_g7 96 rfl rfl)
set_option maxRecDepth 100000 in
theorem m_L_196 : Cond.methodLink RL 196 yX9_coins ∈ rx_good := (rx_g7 100 rfl rfl)
set_option maxRecDepth 100000 in
theorem m_X9_266 : Cond.methodLink RX9 266 yX9_asked ∈ rx_good := (rx_g7 104 rfl rfl)
set_option maxRecDepth 100000 in
theorem m_L_199 : Cond.methodLink RL 199 yX9_pride ∈ rx_good := (rx_g7 108 rfl rfl)
set_option maxRecDepth 100000 in
theorem m_L_202 : Cond.methodLink RL 202 yX9_rags ∈ rx_good := (rx_g7 112 rfl rfl)
set_option maxRecDepth 100000 in
theorem m_L_205 : Cond.methodLink RL 205 yX9_rank ∈ rx_good := (rx_g7 116 rfl rfl)
set_option maxRecDepth 100000 in
theorem m_L_208 : Cond.methodLink RL 208 yX9_wearer ∈ rx_good := (rx_g7 120 rfl rfl)
set_option maxRecDepth 100000 in
theorem m_L_211 : Cond.methodLink RL 211 yX9_crossings ∈ rx_good := (rx_g7 124 rfl rfl)
set_option maxRecDepth 100000 in
theorem m_L_215 : Cond.methodLink RL 215 yX9_richest ∈ rx_good := (rx_g7 128 rfl rfl)
set_option maxRecDepth 100000 in
theorem m_L_219 : Cond.methodLink RL 219 yX9_bowTo ∈ rx_good := (rx_g7 132 rfl rfl)
set_option maxRecDepth 100000 in
theorem m_X9_102 : Cond.methodLink RX9 102 yX9_rankOf ∈ rx_good := (rx_g7 136 rfl rfl)
set_option maxRecDepth 100000 in
theorem m_X9_68 : Cond.methodLink RX9 68 yX9_bow ∈ rx_good := (rx_g7 140 rfl rfl)
set_option maxRecDepth 100000 in
theorem m_L_222 : Cond.methodLink RL 222 yX9_bowToKeeper ∈ rx_good := (rx_g7 143 rfl rfl)
set_option maxRecDepth 100000 in
theorem m_X9_72 : Cond.methodLink RX9 72 yX9_keeperBow ∈ rx_good := (rx_g7 147 rfl rfl)
set_option maxRecDepth 100000 in
theorem m_L_225 : Cond.methodLink RL 225 yX9_isTakenForKing ∈ rx_good := (rx_g7 151 rfl rfl)
set_option maxRecDepth 100000 in
theorem m_X9_75 : Cond.methodLink RX9 75 yX9_isTaken ∈ rx_good := (rx_g7 155 rfl rfl)
set_option maxRecDepth 100000 in
theorem m_L_228 : Cond.methodLink RL 228 yX9_tollOf ∈ rx_good := (rx_g7 159 rfl rfl)
set_option maxRecDepth 100000 in
theorem m_X9_269 : Cond.methodLink RX9 269 yX9_tollWith ∈ rx_good := (rx_g7 163 rfl rfl)
set_option maxRecDepth 100000 in
theorem m_L_232 : Cond.methodLink RL 232 yX9_wrongGuesses ∈ rx_good := (rx_g7 167 rfl rfl)
set_option maxRecDepth 100000 in
theorem m_L_236 : Cond.methodLink RL 236 yX9_stiffest ∈ rx_good := (rx_g7 171 rfl rfl)
set_option maxRecDepth 100000 in
theorem m_L_239 : Cond.methodLink RL 239 yX9_cheapestRags ∈ rx_good := (rx_g7 175 rfl rfl)
set_option maxRecDepth 100000 in
theorem m_L_244 : Cond.methodLink RL 244 yX9_meanBow ∈ rx_good := (rx_g7 179 rfl rfl)
set_option maxRecDepth 100000 in
theorem m_L_247 : Cond.methodLink RL 247 yX9_royalHolder ∈ rx_good := (rx_g7 183 rfl rfl)
set_option maxRecDepth 100000 in
theorem m_X9_272 : Cond.methodLink RX9 272 yX9_noKing ∈ rx_good := (rx_g7 187 rfl rfl)
set_option maxRecDepth 100000 in
theorem m_X9_95 : Cond.methodLink RX9 95 yX9_ofRoyal ∈ rx_good := (rx_g7 191 rfl rfl)
set_option maxRecDepth 100000 in
theorem m_L_250 : Cond.methodLink RL 250 yX9_isRoyalCoinEast ∈ rx_good := (rx_g7 195 rfl rfl)
set_option maxRecDepth 100000 in
theorem m_L_253 : Cond.methodLink RL 253 yX9_isCounted ∈ rx_good := (rx_g7 199 rfl rfl)
set_option maxRecDepth 100000 in
theorem m_L_256 : Cond.methodLink RL 256 yX9_royalCoins ∈ rx_good := (rx_g7 203 rfl rfl)
set_option maxRecDepth 100000 in
theorem m_X9_130 : Cond.methodLink RX9 130 yX9_royalsOf ∈ rx_good := (rx_g7 207 rfl rfl)
set_option maxRecDepth 100000 in
theorem m_L_260 : Cond.methodLink RL 260 yX9_countedRoyalCoins ∈ rx_good := (rx_g7 211 rfl rfl)
set_option maxRecDepth 100000 in
theorem m_X9_275 : Cond.methodLink RX9 275 yX9_counted ∈ rx_good := (rx_g7 215 rfl rfl)
set_option maxRecDepth 100000 in
theorem m_L_265 : Cond.methodLink RL 265 yX9_countedShare ∈ rx_good := (rx_g7 219 rfl rfl)
set_option maxRecDepth 100000 in
theorem m_L_269 : Cond.methodLink RL 269 yX9_queueLength ∈ rx_good := (rx_g7 223 rfl rfl)
set_option maxRecDepth 100000 in
theorem m_X9_278 : Cond.methodLink RX9 278 yX9_lengthOf ∈ rx_good := (rx_g7 227 rfl rfl)
set_option maxRecDepth 100000 in
theorem m_X9_79 : Cond.methodLink RX9 79 yX9_isQueued ∈ rx_good := (rx_g7 231 rfl rfl)
set_option maxRecDepth 100000 in
theorem m_L_274 : Cond.methodLink RL 274 yX9_queued ∈ rx_good := (rx_g7 235 rfl rfl)
set_option maxRecDepth 100000 in
theorem m_X9_118 : Cond.methodLink RX9 118 yX9_at ∈ rx_good := (rx_g7 239 rfl rfl)
set_option maxRecDepth 100000 in
theorem m_X9_89 : Cond.methodLink RX9 89 yX9_placeOf ∈ rx_good := (rx_g8 3 rfl rfl)
set_option maxRecDepth 100000 in
theorem m_X9_82 : Cond.methodLink RX9 82 yX9_isAhead ∈ rx_good := (rx_g8 7 rfl rfl)
set_option maxRecDepth 100000 in
theorem m_L_277 : Cond.methodLink RL 277 yX9_offer ∈ rx_good := (rx_g8 11 rfl rfl)
set_option maxRecDepth 100000 in
theorem m_L_281 : Cond.methodLink RL 281 yX9_bridgeCount ∈ rx_good := (rx_g8 15 rfl rfl)
set_option maxRecDepth 100000 in
theorem m_L_284 : Cond.methodLink RL 284 yX9_isOpen ∈ rx_good := (rx_g8 19 rfl rfl)
set_option maxRecDepth 100000 in
theorem m_X9_115 : Cond.methodLink RX9 115 yX9_isOpenNow ∈ rx_good := (rx_g8 23 rfl rfl)
set_option maxRecDepth 100000 in
theorem m_X9_92 : Cond.methodLink RX9 92 yX9_ofBridge ∈ rx_good := (rx_g8 27 rfl rfl)
set_option maxRecDepth 100000 in
theorem m_L_288 : Cond.methodLink RL 288 yX9_room ∈ rx_good := (rx_g8 31 rfl rfl)
set_option maxRecDepth 100000 in
theorem m_X9_281 : Cond.methodLink RX9 281 yX9_roomNow ∈ rx_good := (rx_g8 35 rfl rfl)
set_option maxRecDepth 100000 in
theorem m_L_291 : Cond.methodLink RL 291 yX9_firstPlaceOffer ∈ rx_good := (rx_g8 39 rfl rfl)
set_option maxRecDepth 100000 in
theorem m_L_294 : Cond.methodLink RL 294 yX9_turnsUntilCrossing ∈ rx_good := (rx_g8 43 rfl rfl)
set_option maxRecDepth 100000 in
theorem m_X9_284 : Cond.methodLink RX9 284 yX9_tries ∈ rx_good := (rx_g8 47 rfl rfl)
set_option maxRecDepth 100000 in
theorem m_X9_287 : Cond.methodLink RX9 287 yX9_turnsToCross ∈ rx_good := (rx_g8 51 rfl rfl)
set_option maxRecDepth 100000 in
theorem m_X9_124 : Cond.methodLink RX9 124 yX9_passOne ∈ rx_good := (rx_g8 55 rfl rfl)
set_option maxRecDepth 100000 in
theorem m_X9_121 : Cond.methodLink RX9 121 yX9_crosses ∈ rx_good := (rx_g8 59 rfl rfl)
set_option maxRecDepth 100000 in
theorem m_X9_108 : Cond.methodLink RX9 108 yX9_countsCoins ∈ rx_good := (rx_g8 63 rfl rfl)
set_option maxRecDepth 100000 in
theorem m_X9_112 : Cond.methodLink RX9 112 yX9_bounds ∈ rx_good := (rx_g8 67 rfl rfl)
set_option maxRecDepth 100000 in
theorem m_X9_290 : Cond.methodLink RX9 290 yX9_back ∈ rx_good := (rx_g8 71 rfl rfl)
set_option maxRecDepth 100000 in
theorem m_L_297 : Cond.methodLink RL 297 yX9_tollBoxAfter ∈ rx_good := (rx_g8 75 rfl rfl)
set_option maxRecDepth 100000 in
theorem m_X9_293 : Cond.methodLink RX9 293 yX9_passesUpTo ∈ rx_good := (rx_g8 79 rfl rfl)
set_option maxRecDepth 100000 in
theorem m_L_300 : Cond.methodLink RL 300 yX9_limitAngleAfter ∈ rx_good := (rx_g8 83 rfl rfl)
set_option maxRecDepth 100000 in
theorem m_L_303 : Cond.methodLink RL 303 yX9_crossingObstacle ∈ rx_good := (rx_g8 87 rfl rfl)
set_option maxRecDepth 100000 in
theorem m_L_307 : Cond.methodLink RL 307 yX9_coinGap ∈ rx_good := (rx_g8 91 rfl rfl)
set_option maxRecDepth 100000 in
theorem m_X9_296 : Cond.methodLink RX9 296 yX9_plain ∈ rx_good := (rx_g8 95 rfl rfl)
set_option maxRecDepth 100000 in
theorem m_L_310 : Cond.methodLink RL 310 yX9_dropCoins ∈ rx_good := (rx_g8 98 rfl rfl)
set_option maxRecDepth 100000 in
theorem m_X9_313 : Cond.methodLink RX9 313 yX9_withCoins ∈ rx_good := (rx_g8 102 rfl rfl)
set_option maxRecDepth 100000 in
theorem m_X9_309 : Cond.methodLink RX9 309 yX9_operates ∈ rx_good := (rx_g8 106 rfl rfl)
set_option maxRecDepth 100000 in
theorem m_X9_299 : Cond.methodLink RX9 299 yX9_can ∈ rx_good := (rx_g8 110 rfl rfl)
set_option maxRecDepth 100000 in
theorem m_X9_127 : Cond.methodLink RX9 127 yX9_liesBefore ∈ rx_good := (rx_g8 114 rfl rfl)
set_option maxRecDepth 100000 in
theorem m_X9_302 : Cond.methodLink RX9 302 yX9_keeps ∈ rx_good := (rx_g8 118 rfl rfl)
set_option maxRecDepth 100000 in
theorem m_X9_305 : Cond.methodLink RX9 305 yX9_does ∈ rx_good := (rx_g8 122 rfl rfl)
set_option maxRecDepth 100000 in
theorem m_X9_133 : Cond.methodLink RX9 133 yX9_moves ∈ rx_good := (rx_g8 126 rfl rfl)
set_option maxRecDepth 100000 in
theorem m_X9_136 : Cond.methodLink RX9 136 yX9_laysDown ∈ rx_good := (rx_g8 130 rfl rfl)
set_option maxRecDepth 100000 in
theorem m_X9_139 : Cond.methodLink RX9 139 yX9_lifts ∈ rx_good := (rx_g8 134 rfl rfl)
set_option maxRecDepth 100000 in
theorem m_X9_142 : Cond.methodLink RX9 142 yX9_swaps ∈ rx_good := (rx_g8 138 rfl rfl)
set_option maxRecDepth 100000 in
theorem m_X9_145 : Cond.methodLink RX9 145 yX9_joins ∈ rx_good := (rx_g8 142 rfl rfl)
set_option maxRecDepth 100000 in
theorem m_X9_148 : Cond.methodLink RX9 148 yX9_quits ∈ rx_good := (rx_g8 146 rfl rfl)
set_option maxRecDepth 100000 in
theorem m_X9_151 : Cond.methodLink RX9 151 yX9_becomesProud ∈ rx_good := (rx_g8 150 rfl rfl)
set_option maxRecDepth 100000 in
theorem m_X9_154 : Cond.methodLink RX9 154 yX9_passes ∈ rx_good := (rx_g8 154 rfl rfl)
set_option maxRecDepth 100000 in
theorem m_L_313 : Cond.methodLink RL 313 yX9_pickCoins ∈ rx_good := (rx_g8 158 rfl rfl)
set_option maxRecDepth 100000 in
theorem m_L_316 : Cond.methodLink RL 316 yX9_layRoyalCoin ∈ rx_good := (rx_g8 162 rfl rfl)
set_option maxRecDepth 100000 in
theorem m_X9_316 : Cond.methodLink RX9 316 yX9_withRoyal ∈ rx_good := (rx_g8 166 rfl rfl)
set_option maxRecDepth 100000 in
theorem m_L_319 : Cond.methodLink RL 319 yX9_liftRoyalCoin ∈ rx_good := (rx_g8 170 rfl rfl)
set_option maxRecDepth 100000 in
theorem m_L_322 : Cond.methodLink RL 322 yX9_swapRags ∈ rx_good := (rx_g8 174 rfl rfl)
set_option maxRecDepth 100000 in
theorem m_L_325 : Cond.methodLink RL 325 yX9_joinQueue ∈ rx_good := (rx_g8 178 rfl rfl)
set_option maxRecDepth 100000 in
theorem m_L_328 : Cond.methodLink RL 328 yX9_quitQueue ∈ rx_good := (rx_g8 182 rfl rfl)
set_option maxRecDepth 100000 in
theorem m_L_331 : Cond.methodLink RL 331 yX9_setPride ∈ rx_good := (rx_g8 186 rfl rfl)
set_option maxRecDepth 100000 in
theorem m_L_334 : Cond.methodLink RL 334 yX9_passTurns ∈ rx_good := (rx_g8 190 rfl rfl)
set_option maxRecDepth 100000 in
theorem m_L_337 : Cond.methodLink RL 337 yX9_runScript ∈ rx_good := (rx_g8 194 rfl rfl)
set_option maxRecDepth 100000 in
theorem m_X9_349 : Cond.methodLink RX9 349 yX9_readsOrder ∈ rx_good := (rx_g8 198 rfl rfl)
set_option maxRecDepth 100000 in
theorem m_X9_337 : Cond.methodLink RX9 337 yX9_orderHere ∈ rx_good := (rx_g8 202 rfl rfl)
set_option maxRecDepth 100000 in
theorem m_X9_343 : Cond.methodLink RX9 343 yX9_second ∈ rx_good := (rx_g8 215 rfl rfl)
set_option maxRecDepth 100000 in
theorem m_X9_352 : Cond.methodLink RX9 352 yX9_isDoneNow ∈ rx_good := (rx_g8 219 rfl rfl)
set_option maxRecDepth 100000 in
theorem m_X9_346 : Cond.methodLink RX9 346 yX9_areThere ∈ rx_good := (rx_g8 223 rfl rfl)
set_option maxRecDepth 100000 in
theorem m_L_341 : Cond.methodLink RL 341 yX9_writeQueue ∈ rx_good := (rx_g8 227 rfl rfl)
set_option maxRecDepth 100000 in
theorem m_X9_358 : Cond.methodLink RX9 358 yX9_writes ∈ rx_good := (rx_g8 231 rfl rfl)
set_option maxRecDepth 100000 in
theorem m_X9_361 : Cond.methodLink RX9 361 yX9_writesNumber ∈ rx_good := (rx_g8 235 rfl rfl)
set_option maxRecDepth 100000 in
theorem m_L_344 : Cond.methodLink RL 344 yX9_outputByte ∈ rx_good := (rx_g8 239 rfl rfl)
set_option maxRecDepth 100000 in
theorem m_L_348 : Cond.methodLink RL 348 yX9_undoableCount ∈ rx_good := (rx_g9 3 rfl rfl)
set_option maxRecDepth 100000 in
theorem m_L_352 : Cond.methodLink RL 352 yX9_undo ∈ rx_good := (rx_g9 7 rfl rfl)
set_option maxRecDepth 100000 in
theorem m_L_356 : Cond.methodLink RL 356 yX9_saveSnapshot ∈ rx_good := (rx_g9 11 rfl rfl)
set_option maxRecDepth 100000 in
theorem m_L_359 : Cond.methodLink RL 359 yX9_restoreSnapshot ∈ rx_good := (rx_g9 15 rfl rfl)
