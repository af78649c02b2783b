theorem rx_c0 {w : Cond} (h : w ∈ k2_sels lw_privs) : w ∈ lw_tbl := List.mem_append_left _ h
theorem rx_g0 (i : Nat) {w : Cond} (h : (k2_sels lw_privs)[i]? = some w) (hg : goodWord w = true) : w ∈ rx_good := List.mem_filter.mpr ⟨rx_c0 (List.mem_of_getElem? h), hg⟩
theorem rx_n0 (i : Nat) {w : Cond} (h : (k2_sels lw_privs)[i]? = some w) (hg : rx_isNest w = true) : w ∈ rx_nest := List.mem_filter.mpr ⟨rx_c0 (List.mem_of_getElem? h), hg⟩
theorem rx_c1 {w : Cond} (h : w ∈ tables_1_1) : w ∈ lw_tbl := List.mem_append_right _ (show w ∈ tables_1 from List.mem_append_left _ h)
theorem rx_g1 (i : Nat) {w : Cond} (h : (tables_1_1)[i]? = some w) (hg : goodWord w = true) : w ∈ rx_good := List.mem_filter.mpr ⟨rx_c1 (List.mem_of_getElem? h), hg⟩
theorem rx_n1 (i : Nat) {w : Cond} (h : (tables_1_1)[i]? = some w) (hg : rx_isNest w = true) : w ∈ rx_nest := List.mem_filter.mpr ⟨rx_c1 (List.mem_of_getElem? h), hg⟩
theorem rx_c2 {w : Cond} (h : w ∈ tables_1_2) : w ∈ lw_tbl := List.mem_append_right _ (show w ∈ tables_1 from List.mem_append_right _ (List.mem_append_left _ h))
theorem rx_g2 (i : Nat) {w : Cond} (h : (tables_1_2)[i]? = some w) (hg : goodWord w = true) : w ∈ rx_good := List.mem_filter.mpr ⟨rx_c2 (List.mem_of_getElem? h), hg⟩
theorem rx_n2 (i : Nat) {w : Cond} (h : (tables_1_2)[i]? = some w) (hg : rx_isNest w = true) : w ∈ rx_nest := List.mem_filter.mpr ⟨rx_c2 (List.mem_of_getElem? h), hg⟩
theorem rx_c3 {w : Cond} (h : w ∈ tables_1_3) : w ∈ lw_tbl := List.mem_append_right _ (show w ∈ tables_1 from List.mem_append_right _ (List.mem_append_right _ (List.mem_append_left _ h)))
theorem rx_g3 (i : Nat) {w : Cond} (h : (tables_1_3)[i]? = some w) (hg : goodWord w = true) : w ∈ rx_good := List.mem_filter.mpr ⟨rx_c3 (List.mem_of_getElem? h), hg⟩
theorem rx_n3 (i : Nat) {w : Cond} (h : (tables_1_3)[i]? = some w) (hg : rx_isNest w = true) : w ∈ rx_nest := List.mem_filter.mpr ⟨rx_c3 (List.mem_of_getElem? h), hg⟩
theorem rx_c4 {w : Cond} (h : w ∈ tables_1_4) : w ∈ lw_tbl := List.mem_append_right _ (show w ∈ tables_1 from List.mem_append_right _ (List.mem_append_right _ (List.mem_append_right _ (List.mem_append_left _ h))))
theorem rx_g4 (i : Nat) {w : Cond} (h : (tables_1_4)[i]? = some w) (hg : goodWord w = true) : w ∈ rx_good := List.mem_filter.mpr ⟨rx_c4 (List.mem_of_getElem? h), hg⟩
theorem rx_n4 (i : Nat) {w : Cond} (h : (tables_1_4)[i]? = some w) (hg : rx_isNest w = true) : w ∈ rx_nest := List.mem_filter.mpr ⟨rx_c4 (List.mem_of_getElem? h), hg⟩
theorem rx_c5 {w : Cond} (h : w ∈ tables_1_5) : w ∈ lw_tbl := List.mem_append_right _ (show w ∈ tables_1 from List.mem_append_right _ (List.mem_append_right _ (List.mem_append_right _ (List.mem_append_right _ (h)))))
theorem rx_g5 (i : Nat) {w : Cond} (h : (tables_1_5)[i]? = some w) (hg : goodWord w = true) : w ∈ rx_good := List.mem_filter.mpr ⟨rx_c5 (List.mem_of_getElem? h), hg⟩
theorem rx_n5 (i : Nat) {w : Cond} (h : (tables_1_5)[i]? = some w) (hg : rx_isNest w = true) : w ∈ rx_nest := List.mem_filter.mpr ⟨rx_c5 (List.mem_of_getElem? h), hg⟩
theorem rx_gl {ws : List Cond} (ps : List Nat) (hp : ws = ps.filterMap (fun i => lw_tbl[i]?)) (h : ws.all goodWord = true) : ∀ w ∈ ws, w ∈ rx_good := fun w hw => by
  have h1 := List.all_eq_true.mp h w hw
  rw [hp] at hw
  obtain ⟨i, -, hi⟩ := List.mem_filterMap.mp hw
  exact List.mem_filter.mpr ⟨List.mem_of_getElem? hi, h1⟩
theorem in_X1 : ∀ w ∈ u_ws RX1 TX1 3, w ∈ rx_good := rx_gl [298, 300, 302] (by decide +kernel) (by decide +kernel)
theorem in_X2 : ∀ w ∈ u_ws RX2 TX2 15, w ∈ rx_good := rx_gl [255, 257, 259, 261, 263, 265, 267, 269, 271, 273, 275, 277, 279, 281, 283] (by decide +kernel) (by decide +kernel)
theorem in_X3 : ∀ w ∈ u_ws RX3 TX3 3, w ∈ rx_good := rx_gl [223, 225, 227] (by decide +kernel) (by decide +kernel)
theorem in_X4 : ∀ w ∈ u_ws RX4 TX4 4, w ∈ rx_good := rx_gl [316, 318, 320, 322] (by decide +kernel) (by decide +kernel)
theorem in_X5 : ∀ w ∈ u_ws RX5 TX5 14, w ∈ rx_good := rx_gl [177, 179, 181, 183, 185, 187, 189, 191, 193, 195, 197, 199, 201, 203] (by decide +kernel) (by decide +kernel)
theorem in_X6 : ∀ w ∈ u_ws RX6 TX6 9, w ∈ rx_good := rx_gl [125, 127, 129, 131, 133, 135, 137, 139, 141] (by decide +kernel) (by decide +kernel)
theorem in_X7 : ∀ w ∈ u_ws RX7 TX7 0, w ∈ rx_good := rx_gl [] (by decide +kernel) (by decide +kernel)
theorem in_X8 : ∀ w ∈ u_ws RX8 TX8 11, w ∈ rx_good := rx_gl [375, 377, 379, 381, 383, 385, 387, 389, 391, 393, 395] (by decide +kernel) (by decide +kernel)
theorem in_L : ∀ w ∈ u_ws RL TL 5, w ∈ rx_good := rx_gl [433, 435, 437, 439, 441] (by decide +kernel) (by decide +kernel)
set_option maxRecDepth 100000 in
theorem f_X6_9 : rx_F RX6 9 5 0 := ⟨RX6, TX6, 9, rfl, in_X6, by decide, (rx_g1 37 rfl rfl)⟩
set_option maxRecDepth 100000 in
theorem f_X8_73 : rx_FN RX8 73 5 1 := ⟨RX6, TX6, 9, "BeggarKings", rfl, in_X6, by decide, (rx_n1 38 rfl rfl)⟩
set_option maxRecDepth 100000 in
theorem f_X6_19 : rx_F RX6 19 5 1 := ⟨RX6, TX6, 9, rfl, in_X6, by decide, (rx_g1 39 rfl rfl)⟩
set_option maxRecDepth 100000 in
theorem f_X6_29 : rx_F RX6 29 5 2 := ⟨RX6, TX6, 9, rfl, in_X6, by decide, (rx_g1 40 rfl rfl)⟩
set_option maxRecDepth 100000 in
theorem f_X6_41 : rx_F RX6 41 5 3 := ⟨RX6, TX6, 9, rfl, in_X6, by decide, (rx_g1 41 rfl rfl)⟩
set_option maxRecDepth 100000 in
theorem f_X6_38 : rx_F RX6 38 5 4 := ⟨RX6, TX6, 9, rfl, in_X6, by decide, (rx_g1 42 rfl rfl)⟩
set_option maxRecDepth 100000 in
theorem f_X6_32 : rx_F RX6 32 5 5 := ⟨RX6, TX6, 9, rfl, in_X6, by decide, (rx_g1 43 rfl rfl)⟩
set_option maxRecDepth 100000 in
theorem f_X6_66 : rx_F RX6 66 5 6 := ⟨RX6, TX6, 9, rfl, in_X6, by decide, (rx_g1 44 rfl rfl)⟩
set_option maxRecDepth 100000 in
theorem f_X6_26 : rx_F RX6 26 5 7 := ⟨RX6, TX6, 9, rfl, in_X6, by decide, (rx_g1 45 rfl rfl)⟩
set_option maxRecDepth 100000 in
theorem f_X8_114 : rx_FN RX8 114 5 7 := ⟨RX6, TX6, 9, "BeggarKings", rfl, in_X6, by decide, (rx_n1 46 rfl rfl)⟩
set_option maxRecDepth 100000 in
theorem f_X6_15 : rx_F RX6 15 5 8 := ⟨RX6, TX6, 9, rfl, in_X6, by decide, (rx_g1 47 rfl rfl)⟩
set_option maxRecDepth 100000 in
theorem f_X8_117 : rx_FN RX8 117 5 8 := ⟨RX6, TX6, 9, "BeggarKings", rfl, in_X6, by decide, (rx_n1 48 rfl rfl)⟩
set_option maxRecDepth 100000 in
theorem f_X5_36 : rx_F RX5 36 4 0 := ⟨RX5, TX5, 14, rfl, in_X5, by decide, (rx_g1 75 rfl rfl)⟩
set_option maxRecDepth 100000 in
theorem f_X2_57 : rx_FN RX2 57 4 0 := ⟨RX5, TX5, 14, "BeggarKings", rfl, in_X5, by decide, (rx_n1 76 rfl rfl)⟩
set_option maxRecDepth 100000 in
theorem f_X5_40 : rx_F RX5 40 4 1 := ⟨RX5, TX5, 14, rfl, in_X5, by decide, (rx_g1 77 rfl rfl)⟩
set_option maxRecDepth 100000 in
theorem f_X2_170 : rx_FN RX2 170 4 1 := ⟨RX5, TX5, 14, "BeggarKings", rfl, in_X5, by decide, (rx_n1 78 rfl rfl)⟩
set_option maxRecDepth 100000 in
theorem f_X5_43 : rx_F RX5 43 4 2 := ⟨RX5, TX5, 14, rfl, in_X5, by decide, (rx_g1 79 rfl rfl)⟩
set_option maxRecDepth 100000 in
theorem f_X5_46 : rx_F RX5 46 4 3 := ⟨RX5, TX5, 14, rfl, in_X5, by decide, (rx_g1 80 rfl rfl)⟩
set_option maxRecDepth 100000 in
theorem f_X5_49 : rx_F RX5 49 4 4 := ⟨RX5, TX5, 14, rfl, in_X5, by decide, (rx_g1 81 rfl rfl)⟩
set_option maxRecDepth 100000 in
theorem f_X8_111 : rx_FN RX8 111 4 4 := ⟨RX5, TX5, 14, "BeggarKings", rfl, in_X5, by decide, (rx_n1 82 rfl rfl)⟩
set_option maxRecDepth 100000 in
theorem f_X2_88 : rx_FN RX2 88 4 4 := ⟨RX5, TX5, 14, "BeggarKings", rfl, in_X5, by decide, (rx_n1 83 rfl rfl)⟩
set_option maxRecDepth 100000 in
theorem f_X5_52 : rx_F RX5 52 4 5 := ⟨RX5, TX5, 14, rfl, in_X5, by decide, (rx_g1 84 rfl rfl)⟩
set_option maxRecDepth 100000 in
theorem f_X2_139 : rx_FN RX2 139 4 5 := ⟨RX5, TX5, 14, "BeggarKings", rfl, in_X5, by decide, (rx_n1 85 rfl rfl)⟩
set_option maxRecDepth 100000 in
theorem f_X8_244 : rx_FN RX8 244 4 5 := ⟨RX5, TX5, 14, "BeggarKings", rfl, in_X5, by decide, (rx_n1 86 rfl rfl)⟩
set_option maxRecDepth 100000 in
theorem f_X5_9 : rx_F RX5 9 4 6 := ⟨RX5, TX5, 14, rfl, in_X5, by decide, (rx_g1 87 rfl rfl)⟩
set_option maxRecDepth 100000 in
theorem f_X2_98 : rx_FN RX2 98 4 6 := ⟨RX5, TX5, 14, "BeggarKings", rfl, in_X5, by decide, (rx_n1 88 rfl rfl)⟩
set_option maxRecDepth 100000 in
theorem f_X5_15 : rx_F RX5 15 4 7 := ⟨RX5, TX5, 14, rfl, in_X5, by decide, (rx_g1 89 rfl rfl)⟩
set_option maxRecDepth 100000 in
theorem f_X2_73 : rx_FN RX2 73 4 7 := ⟨RX5, TX5, 14, "BeggarKings", rfl, in_X5, by decide, (rx_n1 90 rfl rfl)⟩
set_option maxRecDepth 100000 in
theorem f_X5_18 : rx_F RX5 18 4 8 := ⟨RX5, TX5, 14, rfl, in_X5, by decide, (rx_g1 91 rfl rfl)⟩
set_option maxRecDepth 100000 in
theorem f_X2_78 : rx_FN RX2 78 4 8 := ⟨RX5, TX5, 14, "BeggarKings", rfl, in_X5, by decide, (rx_n1 92 rfl rfl)⟩
set_option maxRecDepth 100000 in
theorem f_X5_21 : rx_F RX5 21 4 9 := ⟨RX5, TX5, 14, rfl, in_X5, by decide, (rx_g1 93 rfl rfl)⟩
set_option maxRecDepth 100000 in
theorem f_X2_79 : rx_FN RX2 79 4 9 := ⟨RX5, TX5, 14, "BeggarKings", rfl, in_X5, by decide, (rx_n1 94 rfl rfl)⟩
set_option maxRecDepth 100000 in
theorem f_X5_24 : rx_F RX5 24 4 10 := ⟨RX5, TX5, 14, rfl, in_X5, by decide, (rx_g1 95 rfl rfl)⟩
set_option maxRecDepth 100000 in
theorem f_X2_95 : rx_FN RX2 95 4 10 := ⟨RX5, TX5, 14, "BeggarKings", rfl, in_X5, by decide, (rx_n1 96 rfl rfl)⟩
set_option maxRecDepth 100000 in
theorem f_X5_27 : rx_F RX5 27 4 11 := ⟨RX5, TX5, 14, rfl, in_X5, by decide, (rx_g1 97 rfl rfl)⟩
set_option maxRecDepth 100000 in
theorem f_X5_30 : rx_F RX5 30 4 12 := ⟨RX5, TX5, 14, rfl, in_X5, by decide, (rx_g1 98 rfl rfl)⟩
set_option maxRecDepth 100000 in
theorem f_X5_33 : rx_F RX5 33 4 13 := ⟨RX5, TX5, 14, rfl, in_X5, by decide, (rx_g1 99 rfl rfl)⟩
set_option maxRecDepth 100000 in
theorem f_X2_146 : rx_FN RX2 146 4 13 := ⟨RX5, TX5, 14, "BeggarKings", rfl, in_X5, by decide, (rx_n1 100 rfl rfl)⟩
set_option maxRecDepth 100000 in
theorem f_X3_9 : rx_F RX3 9 2 0 := ⟨RX3, TX3, 3, rfl, in_X3, by decide, (rx_g1 142 rfl rfl)⟩
set_option maxRecDepth 100000 in
theorem f_X3_15 : rx_F RX3 15 2 1 := ⟨RX3, TX3, 3, rfl, in_X3, by decide, (rx_g1 143 rfl rfl)⟩
set_option maxRecDepth 100000 in
theorem f_X3_18 : rx_F RX3 18 2 2 := ⟨RX3, TX3, 3, rfl, in_X3, by decide, (rx_g1 144 rfl rfl)⟩
set_option maxRecDepth 100000 in
theorem f_X2_70 : rx_FN RX2 70 2 2 := ⟨RX3, TX3, 3, "BeggarKings", rfl, in_X3, by decide, (rx_n1 145 rfl rfl)⟩
set_option maxRecDepth 100000 in
theorem f_X8_233 : rx_FN RX8 233 2 2 := ⟨RX3, TX3, 3, "BeggarKings", rfl, in_X3, by decide, (rx_n1 146 rfl rfl)⟩
set_option maxRecDepth 100000 in
theorem f_X2_49 : rx_F RX2 49 1 0 := ⟨RX2, TX2, 15, rfl, in_X2, by decide, (rx_g1 154 rfl rfl)⟩
set_option maxRecDepth 100000 in
theorem f_X2_53 : rx_F RX2 53 1 1 := ⟨RX2, TX2, 15, rfl, in_X2, by decide, (rx_g1 155 rfl rfl)⟩
set_option maxRecDepth 100000 in
theorem f_X8_120 : rx_FN RX8 120 1 1 := ⟨RX2, TX2, 15, "BeggarKings", rfl, in_X2, by decide, (rx_n1 156 rfl rfl)⟩
set_option maxRecDepth 100000 in
theorem f_X2_62 : rx_F RX2 62 1 2 := ⟨RX2, TX2, 15, rfl, in_X2, by decide, (rx_g1 157 rfl rfl)⟩
set_option maxRecDepth 100000 in
theorem f_X8_123 : rx_FN RX8 123 1 2 := ⟨RX2, TX2, 15, "BeggarKings", rfl, in_X2, by decide, (rx_n1 158 rfl rfl)⟩
set_option maxRecDepth 100000 in
theorem f_X2_63 : rx_F RX2 63 1 3 := ⟨RX2, TX2, 15, rfl, in_X2, by decide, (rx_g1 159 rfl rfl)⟩
set_option maxRecDepth 100000 in
theorem f_X8_126 : rx_FN RX8 126 1 3 := ⟨RX2, TX2, 15, "BeggarKings", rfl, in_X2, by decide, (rx_n1 160 rfl rfl)⟩
set_option maxRecDepth 100000 in
theorem f_X2_9 : rx_F RX2 9 1 4 := ⟨RX2, TX2, 15, rfl, in_X2, by decide, (rx_g1 161 rfl rfl)⟩
set_option maxRecDepth 100000 in
theorem f_X8_129 : rx_FN RX8 129 1 4 := ⟨RX2, TX2, 15, "BeggarKings", rfl, in_X2, by decide, (rx_n1 162 rfl rfl)⟩
set_option maxRecDepth 100000 in
theorem f_X2_15 : rx_F RX2 15 1 5 := ⟨RX2, TX2, 15, rfl, in_X2, by decide, (rx_g1 163 rfl rfl)⟩
set_option maxRecDepth 100000 in
theorem f_X8_155 : rx_FN RX8 155 1 5 := ⟨RX2, TX2, 15, "BeggarKings", rfl, in_X2, by decide, (rx_n1 164 rfl rfl)⟩
set_option maxRecDepth 100000 in
theorem f_X2_18 : rx_F RX2 18 1 6 := ⟨RX2, TX2, 15, rfl, in_X2, by decide, (rx_g1 165 rfl rfl)⟩
set_option maxRecDepth 100000 in
theorem f_X8_158 : rx_FN RX8 158 1 6 := ⟨RX2, TX2, 15, "BeggarKings", rfl, in_X2, by decide, (rx_n1 166 rfl rfl)⟩
set_option maxRecDepth 100000 in
theorem f_X2_21 : rx_F RX2 21 1 7 := ⟨RX2, TX2, 15, rfl, in_X2, by decide, (rx_g1 167 rfl rfl)⟩
set_option maxRecDepth 100000 in
theorem f_X2_24 : rx_F RX2 24 1 8 := ⟨RX2, TX2, 15, rfl, in_X2, by decide, (rx_g1 168 rfl rfl)⟩
set_option maxRecDepth 100000 in
theorem f_X8_164 : rx_FN RX8 164 1 8 := ⟨RX2, TX2, 15, "BeggarKings", rfl, in_X2, by decide, (rx_n1 169 rfl rfl)⟩
set_option maxRecDepth 100000 in
theorem f_X2_27 : rx_F RX2 27 1 9 := ⟨RX2, TX2, 15, rfl, in_X2, by decide, (rx_g1 170 rfl rfl)⟩
set_option maxRecDepth 100000 in
theorem f_X8_173 : rx_FN RX8 173 1 9 := ⟨RX2, TX2, 15, "BeggarKings", rfl, in_X2, by decide, (rx_n1 171 rfl rfl)⟩
set_option maxRecDepth 100000 in
theorem f_X2_30 : rx_F RX2 30 1 10 := ⟨RX2, TX2, 15, rfl, in_X2, by decide, (rx_g1 172 rfl rfl)⟩
set_option maxRecDepth 100000 in
theorem f_X8_214 : rx_FN RX8 214 1 10 := ⟨RX2, TX2, 15, "BeggarKings", rfl, in_X2, by decide, (rx_n1 173 rfl rfl)⟩
set_option maxRecDepth 100000 in
theorem f_X2_33 : rx_F RX2 33 1 11 := ⟨RX2, TX2, 15, rfl, in_X2, by decide, (rx_g1 174 rfl rfl)⟩
set_option maxRecDepth 100000 in
theorem f_X2_36 : rx_F RX2 36 1 12 := ⟨RX2, TX2, 15, rfl, in_X2, by decide, (rx_g1 175 rfl rfl)⟩
set_option maxRecDepth 100000 in
theorem f_X8_220 : rx_FN RX8 220 1 12 := ⟨RX2, TX2, 15, "BeggarKings", rfl, in_X2, by decide, (rx_n1 176 rfl rfl)⟩
set_option maxRecDepth 100000 in
theorem f_X2_42 : rx_F RX2 42 1 13 := ⟨RX2, TX2, 15, rfl, in_X2, by decide, (rx_g1 177 rfl rfl)⟩
set_option maxRecDepth 100000 in
theorem f_X2_46 : rx_F RX2 46 1 14 := ⟨RX2, TX2, 15, rfl, in_X2, by decide, (rx_g1 178 rfl rfl)⟩
set_option maxRecDepth 100000 in
theorem f_X1_11 : rx_F RX1 11 0 0 := ⟨RX1, TX1, 3, rfl, in_X1, by decide, (rx_g1 219 rfl rfl)⟩
set_option maxRecDepth 100000 in
theorem f_X1_24 : rx_F RX1 24 0 1 := ⟨RX1, TX1, 3, rfl, in_X1, by decide, (rx_g1 220 rfl rfl)⟩
set_option maxRecDepth 100000 in
theorem f_X1_20 : rx_F RX1 20 0 2 := ⟨RX1, TX1, 3, rfl, in_X1, by decide, (rx_g1 221 rfl rfl)⟩
set_option maxRecDepth 100000 in
theorem f_X4_11 : rx_F RX4 11 3 0 := ⟨RX4, TX4, 4, rfl, in_X4, by decide, (rx_g1 237 rfl rfl)⟩
set_option maxRecDepth 100000 in
theorem f_X4_17 : rx_F RX4 17 3 1 := ⟨RX4, TX4, 4, rfl, in_X4, by decide, (rx_g1 238 rfl rfl)⟩
set_option maxRecDepth 100000 in
theorem f_X4_21 : rx_F RX4 21 3 2 := ⟨RX4, TX4, 4, rfl, in_X4, by decide, (rx_g1 239 rfl rfl)⟩
set_option maxRecDepth 100000 in
theorem f_X8_10 : rx_F RX8 10 7 0 := ⟨RX8, TX8, 11, rfl, in_X8, by decide, (rx_g2 49 rfl rfl)⟩
set_option maxRecDepth 100000 in
theorem f_X8_19 : rx_F RX8 19 7 1 := ⟨RX8, TX8, 11, rfl, in_X8, by decide, (rx_g2 50 rfl rfl)⟩
set_option maxRecDepth 100000 in
theorem f_X8_23 : rx_F RX8 23 7 2 := ⟨RX8, TX8, 11, rfl, in_X8, by decide, (rx_g2 51 rfl rfl)⟩
set_option maxRecDepth 100000 in
theorem f_X8_31 : rx_F RX8 31 7 3 := ⟨RX8, TX8, 11, rfl, in_X8, by decide, (rx_g2 52 rfl rfl)⟩
set_option maxRecDepth 100000 in
theorem f_X8_35 : rx_F RX8 35 7 4 := ⟨RX8, TX8, 11, rfl, in_X8, by decide, (rx_g2 53 rfl rfl)⟩
set_option maxRecDepth 100000 in
theorem f_X8_38 : rx_F RX8 38 7 5 := ⟨RX8, TX8, 11, rfl, in_X8, by decide, (rx_g2 54 rfl rfl)⟩
set_option maxRecDepth 100000 in
theorem f_X8_44 : rx_F RX8 44 7 6 := ⟨RX8, TX8, 11, rfl, in_X8, by decide, (rx_g2 55 rfl rfl)⟩
set_option maxRecDepth 100000 in
theorem f_X8_51 : rx_F RX8 51 7 7 := ⟨RX8, TX8, 11, rfl, in_X8, by decide, (rx_g2 56 rfl rfl)⟩
set_option maxRecDepth 100000 in
theorem f_X8_55 : rx_F RX8 55 7 8 := ⟨RX8, TX8, 11, rfl, in_X8, by decide, (rx_g2 57 rfl rfl)⟩
set_option maxRecDepth 100000 in
theorem f_X8_107 : rx_F RX8 107 7 10 := ⟨RX8, TX8, 11, rfl, in_X8, by decide, (rx_g2 58 rfl rfl)⟩
set_option maxRecDepth 100000 in
theorem f_L_7 : rx_F RL 7 8 0 := ⟨RL, TL, 5, rfl, in_L, by decide, (rx_g2 112 rfl rfl)⟩
set_option maxRecDepth 100000 in
theorem f_L_13 : rx_F RL 13 8 1 := ⟨RL, TL, 5, rfl, in_L, by decide, (rx_g2 113 rfl rfl)⟩
set_option maxRecDepth 100000 in
theorem f_L_30 : rx_F RL 30 8 2 := ⟨RL, TL, 5, rfl, in_L, by decide, (rx_g2 114 rfl rfl)⟩
set_option maxRecDepth 100000 in
theorem f_L_45 : rx_F RL 45 8 3 := ⟨RL, TL, 5, rfl, in_L, by decide, (rx_g2 115 rfl rfl)⟩
set_option maxRecDepth 100000 in
theorem f_L_48 : rx_F RL 48 8 4 := ⟨RL, TL, 5, rfl, in_L, by decide, (rx_g2 116 rfl rfl)⟩
theorem t_X1_0 : rx_FT 0 0 (.array (.object "BeggarKings$Position")) true := ⟨RX1, TX1, 3, tyX1, rfl, tyX1_ok, nmX1, rfl, by decide +kernel, fun _ => rfl⟩
theorem t_X1_1 : rx_FT 0 1 .int false := ⟨RX1, TX1, 3, tyX1, rfl, tyX1_ok, nmX1, rfl, by decide +kernel, fun h => by cases h⟩
theorem t_X1_2 : rx_FT 0 2 .int false := ⟨RX1, TX1, 3, tyX1, rfl, tyX1_ok, nmX1, rfl, by decide +kernel, fun h => by cases h⟩
theorem t_X2_0 : rx_FT 1 0 (.object "BeggarKings$Setting") true := ⟨RX2, TX2, 15, tyX2, rfl, tyX2_ok, nmX2, rfl, by decide +kernel, fun _ => rfl⟩
theorem t_X2_1 : rx_FT 1 1 .int false := ⟨RX2, TX2, 15, tyX2, rfl, tyX2_ok, nmX2, rfl, by decide +kernel, fun h => by cases h⟩
theorem t_X2_2 : rx_FT 1 2 .int false := ⟨RX2, TX2, 15, tyX2, rfl, tyX2_ok, nmX2, rfl, by decide +kernel, fun h => by cases h⟩
theorem t_X2_3 : rx_FT 1 3 .int false := ⟨RX2, TX2, 15, tyX2, rfl, tyX2_ok, nmX2, rfl, by decide +kernel, fun h => by cases h⟩
theorem t_X2_4 : rx_FT 1 4 (.array .int) true := ⟨RX2, TX2, 15, tyX2, rfl, tyX2_ok, nmX2, rfl, by decide +kernel, fun _ => rfl⟩
theorem t_X2_5 : rx_FT 1 5 (.array .int) true := ⟨RX2, TX2, 15, tyX2, rfl, tyX2_ok, nmX2, rfl, by decide +kernel, fun _ => rfl⟩
theorem t_X2_6 : rx_FT 1 6 (.array .int) true := ⟨RX2, TX2, 15, tyX2, rfl, tyX2_ok, nmX2, rfl, by decide +kernel, fun _ => rfl⟩
theorem t_X2_7 : rx_FT 1 7 (.array .int) true := ⟨RX2, TX2, 15, tyX2, rfl, tyX2_ok, nmX2, rfl, by decide +kernel, fun _ => rfl⟩
theorem t_X2_8 : rx_FT 1 8 (.array .int) true := ⟨RX2, TX2, 15, tyX2, rfl, tyX2_ok, nmX2, rfl, by decide +kernel, fun _ => rfl⟩
theorem t_X2_9 : rx_FT 1 9 (.array .int) true := ⟨RX2, TX2, 15, tyX2, rfl, tyX2_ok, nmX2, rfl, by decide +kernel, fun _ => rfl⟩
theorem t_X2_10 : rx_FT 1 10 (.array .int) true := ⟨RX2, TX2, 15, tyX2, rfl, tyX2_ok, nmX2, rfl, by decide +kernel, fun _ => rfl⟩
theorem t_X2_11 : rx_FT 1 11 (.array .int) true := ⟨RX2, TX2, 15, tyX2, rfl, tyX2_ok, nmX2, rfl, by decide +kernel, fun _ => rfl⟩
theorem t_X2_12 : rx_FT 1 12 (.array .int) true := ⟨RX2, TX2, 15, tyX2, rfl, tyX2_ok, nmX2, rfl, by decide +kernel, fun _ => rfl⟩
theorem t_X2_13 : rx_FT 1 13 (.object "BeggarKings$Queue") true := ⟨RX2, TX2, 15, tyX2, rfl, tyX2_ok, nmX2, rfl, by decide +kernel, fun _ => rfl⟩
theorem t_X2_14 : rx_FT 1 14 (.object "BeggarKings$Queue") true := ⟨RX2, TX2, 15, tyX2, rfl, tyX2_ok, nmX2, rfl, by decide +kernel, fun _ => rfl⟩
theorem t_X3_0 : rx_FT 2 0 (.array .int) true := ⟨RX3, TX3, 3, tyX3, rfl, tyX3_ok, nmX3, rfl, by decide +kernel, fun _ => rfl⟩
theorem t_X3_1 : rx_FT 2 1 (.array .int) true := ⟨RX3, TX3, 3, tyX3, rfl, tyX3_ok, nmX3, rfl, by decide +kernel, fun _ => rfl⟩
theorem t_X3_2 : rx_FT 2 2 .int false := ⟨RX3, TX3, 3, tyX3, rfl, tyX3_ok, nmX3, rfl, by decide +kernel, fun h => by cases h⟩
theorem t_X4_0 : rx_FT 3 0 (.array (.object "BeggarKings$Verb")) true := ⟨RX4, TX4, 4, tyX4, rfl, tyX4_ok, nmX4, rfl, by decide +kernel, fun _ => rfl⟩
theorem t_X4_1 : rx_FT 3 1 (.array .int) true := ⟨RX4, TX4, 4, tyX4, rfl, tyX4_ok, nmX4, rfl, by decide +kernel, fun _ => rfl⟩
theorem t_X4_2 : rx_FT 3 2 (.array .int) true := ⟨RX4, TX4, 4, tyX4, rfl, tyX4_ok, nmX4, rfl, by decide +kernel, fun _ => rfl⟩
theorem t_X4_3 : rx_FT 3 3 .int false := ⟨RX4, TX4, 4, tyX4, rfl, tyX4_ok, nmX4, rfl, by decide +kernel, fun h => by cases h⟩
theorem t_X5_0 : rx_FT 4 0 .int false := ⟨RX5, TX5, 14, tyX5, rfl, tyX5_ok, nmX5, rfl, by decide +kernel, fun h => by cases h⟩
theorem t_X5_1 : rx_FT 4 1 .int false := ⟨RX5, TX5, 14, tyX5, rfl, tyX5_ok, nmX5, rfl, by decide +kernel, fun h => by cases h⟩
theorem t_X5_2 : rx_FT 4 2 .int false := ⟨RX5, TX5, 14, tyX5, rfl, tyX5_ok, nmX5, rfl, by decide +kernel, fun h => by cases h⟩
theorem t_X5_3 : rx_FT 4 3 .int false := ⟨RX5, TX5, 14, tyX5, rfl, tyX5_ok, nmX5, rfl, by decide +kernel, fun h => by cases h⟩
theorem t_X5_4 : rx_FT 4 4 .int false := ⟨RX5, TX5, 14, tyX5, rfl, tyX5_ok, nmX5, rfl, by decide +kernel, fun h => by cases h⟩
theorem t_X5_5 : rx_FT 4 5 .int false := ⟨RX5, TX5, 14, tyX5, rfl, tyX5_ok, nmX5, rfl, by decide +kernel, fun h => by cases h⟩
theorem t_X5_6 : rx_FT 4 6 (.array .int) true := ⟨RX5, TX5, 14, tyX5, rfl, tyX5_ok, nmX5, rfl, by decide +kernel, fun _ => rfl⟩
theorem t_X5_7 : rx_FT 4 7 (.array .int) true := ⟨RX5, TX5, 14, tyX5, rfl, tyX5_ok, nmX5, rfl, by decide +kernel, fun _ => rfl⟩
theorem t_X5_8 : rx_FT 4 8 (.array .int) true := ⟨RX5, TX5, 14, tyX5, rfl, tyX5_ok, nmX5, rfl, by decide +kernel, fun _ => rfl⟩
theorem t_X5_9 : rx_FT 4 9 (.array .int) true := ⟨RX5, TX5, 14, tyX5, rfl, tyX5_ok, nmX5, rfl, by decide +kernel, fun _ => rfl⟩
theorem t_X5_10 : rx_FT 4 10 (.array .int) true := ⟨RX5, TX5, 14, tyX5, rfl, tyX5_ok, nmX5, rfl, by decide +kernel, fun _ => rfl⟩
theorem t_X5_11 : rx_FT 4 11 (.array .int) true := ⟨RX5, TX5, 14, tyX5, rfl, tyX5_ok, nmX5, rfl, by decide +kernel, fun _ => rfl⟩
theorem t_X5_12 : rx_FT 4 12 (.array .int) true := ⟨RX5, TX5, 14, tyX5, rfl, tyX5_ok, nmX5, rfl, by decide +kernel, fun _ => rfl⟩
theorem t_X5_13 : rx_FT 4 13 (.array .int) true := ⟨RX5, TX5, 14, tyX5, rfl, tyX5_ok, nmX5, rfl, by decide +kernel, fun _ => rfl⟩
theorem t_X6_0 : rx_FT 5 0 (.array .int) true := ⟨RX6, TX6, 9, tyX6, rfl, tyX6_ok, nmX6, rfl, by decide +kernel, fun _ => rfl⟩
theorem t_X6_1 : rx_FT 5 1 .int false := ⟨RX6, TX6, 9, tyX6, rfl, tyX6_ok, nmX6, rfl, by decide +kernel, fun h => by cases h⟩
theorem t_X6_2 : rx_FT 5 2 .int false := ⟨RX6, TX6, 9, tyX6, rfl, tyX6_ok, nmX6, rfl, by decide +kernel, fun h => by cases h⟩
theorem t_X6_3 : rx_FT 5 3 .int false := ⟨RX6, TX6, 9, tyX6, rfl, tyX6_ok, nmX6, rfl, by decide +kernel, fun h => by cases h⟩
theorem t_X6_4 : rx_FT 5 4 .int false := ⟨RX6, TX6, 9, tyX6, rfl, tyX6_ok, nmX6, rfl, by decide +kernel, fun h => by cases h⟩
theorem t_X6_5 : rx_FT 5 5 .int false := ⟨RX6, TX6, 9, tyX6, rfl, tyX6_ok, nmX6, rfl, by decide +kernel, fun h => by cases h⟩
theorem t_X6_6 : rx_FT 5 6 .int false := ⟨RX6, TX6, 9, tyX6, rfl, tyX6_ok, nmX6, rfl, by decide +kernel, fun h => by cases h⟩
theorem t_X6_7 : rx_FT 5 7 .int false := ⟨RX6, TX6, 9, tyX6, rfl, tyX6_ok, nmX6, rfl, by decide +kernel, fun h => by cases h⟩
theorem t_X6_8 : rx_FT 5 8 .int false := ⟨RX6, TX6, 9, tyX6, rfl, tyX6_ok, nmX6, rfl, by decide +kernel, fun h => by cases h⟩
theorem t_X8_0 : rx_FT 7 0 (.object "BeggarKings$Text") true := ⟨RX8, TX8, 11, tyX8, rfl, tyX8_ok, nmX8, rfl, by decide +kernel, fun _ => rfl⟩
theorem t_X8_1 : rx_FT 7 1 (.object "BeggarKings$Setting") true := ⟨RX8, TX8, 11, tyX8, rfl, tyX8_ok, nmX8, rfl, by decide +kernel, fun _ => rfl⟩
theorem t_X8_2 : rx_FT 7 2 (.object "BeggarKings$Setting") true := ⟨RX8, TX8, 11, tyX8, rfl, tyX8_ok, nmX8, rfl, by decide +kernel, fun _ => rfl⟩
theorem t_X8_3 : rx_FT 7 3 (.object "BeggarKings$Position") true := ⟨RX8, TX8, 11, tyX8, rfl, tyX8_ok, nmX8, rfl, by decide +kernel, fun _ => rfl⟩
theorem t_X8_4 : rx_FT 7 4 (.object "BeggarKings$Position") true := ⟨RX8, TX8, 11, tyX8, rfl, tyX8_ok, nmX8, rfl, by decide +kernel, fun _ => rfl⟩
theorem t_X8_5 : rx_FT 7 5 (.object "BeggarKings$Position") true := ⟨RX8, TX8, 11, tyX8, rfl, tyX8_ok, nmX8, rfl, by decide +kernel, fun _ => rfl⟩
theorem t_X8_6 : rx_FT 7 6 (.object "BeggarKings$History") true := ⟨RX8, TX8, 11, tyX8, rfl, tyX8_ok, nmX8, rfl, by decide +kernel, fun _ => rfl⟩
theorem t_X8_7 : rx_FT 7 7 (.object "BeggarKings$Script") true := ⟨RX8, TX8, 11, tyX8, rfl, tyX8_ok, nmX8, rfl, by decide +kernel, fun _ => rfl⟩
theorem t_X8_8 : rx_FT 7 8 (.array .int) true := ⟨RX8, TX8, 11, tyX8, rfl, tyX8_ok, nmX8, rfl, by decide +kernel, fun _ => rfl⟩
theorem t_X8_9 : rx_FT 7 9 .int false := ⟨RX8, TX8, 11, tyX8, rfl, tyX8_ok, nmX8, rfl, by decide +kernel, fun h => by cases h⟩
theorem t_X8_10 : rx_FT 7 10 .boolean false := ⟨RX8, TX8, 11, tyX8, rfl, tyX8_ok, nmX8, rfl, by decide +kernel, fun h => by cases h⟩
theorem t_L_0 : rx_FT 8 0 (.array .int) true := ⟨RL, TL, 5, tyL, rfl, tyL_ok, nmL, rfl, by decide +kernel, fun _ => rfl⟩
theorem t_L_1 : rx_FT 8 1 (.array .int) true := ⟨RL, TL, 5, tyL, rfl, tyL_ok, nmL, rfl, by decide +kernel, fun _ => rfl⟩
theorem t_L_2 : rx_FT 8 2 .int false := ⟨RL, TL, 5, tyL, rfl, tyL_ok, nmL, rfl, by decide +kernel, fun h => by cases h⟩
theorem t_L_3 : rx_FT 8 3 .int false := ⟨RL, TL, 5, tyL, rfl, tyL_ok, nmL, rfl, by decide +kernel, fun h => by cases h⟩
theorem t_L_4 : rx_FT 8 4 .int false := ⟨RL, TL, 5, tyL, rfl, tyL_ok, nmL, rfl, by decide +kernel, fun h => by cases h⟩
set_option maxRecDepth 100000 in
theorem Y_X1_init : rx_Y yX1_init cX1_init 3 none 1 := ⟨(rx_g1 214 rfl rfl), (rx_g1 6 rfl rfl), (by decide +kernel), (by decide +kernel), (by decide +kernel)⟩
set_option maxRecDepth 100000 in
theorem I_X1_init : Cond.instanceMethod yX1_init ∈ rx_good := (rx_g1 213 rfl rfl)
set_option maxRecDepth 100000 in
theorem Y_X1_clear : rx_Y yX1_clear cX1_clear 1 none 0 := ⟨(rx_g3 149 rfl rfl), (rx_g1 6 rfl rfl), (by decide +kernel), (by decide +kernel), (by decide +kernel)⟩
set_option maxRecDepth 100000 in
theorem V_X1_clear : rx_YV yX1_clear := ⟨(rx_g3 148 rfl rfl), (rx_g0 30 rfl rfl)⟩
set_option maxRecDepth 100000 in
theorem Y_X1_push : rx_Y yX1_push cX1_push 3 none 1 := ⟨(rx_g4 38 rfl rfl), (rx_g1 6 rfl rfl), (by decide +kernel), (by decide +kernel), (by decide +kernel)⟩
set_option maxRecDepth 100000 in
theorem V_X1_push : rx_YV yX1_push := ⟨(rx_g4 37 rfl rfl), (rx_g0 43 rfl rfl)⟩
set_option maxRecDepth 100000 in
theorem Y_X2_init : rx_Y yX2_init cX2_init 2 none 1 := ⟨(rx_g1 134 rfl rfl), (rx_g1 4 rfl rfl), (by decide +kernel), (by decide +kernel), (by decide +kernel)⟩
set_option maxRecDepth 100000 in
theorem I_X2_init : Cond.instanceMethod yX2_init ∈ rx_good := (rx_g1 133 rfl rfl)
set_option maxRecDepth 100000 in
theorem Y_X2_begin : rx_Y yX2_begin cX2_begin 2 none 0 := ⟨(rx_g2 27 rfl rfl), (rx_g1 4 rfl rfl), (by decide +kernel), (by decide +kernel), (by decide +kernel)⟩
set_option maxRecDepth 100000 in
theorem V_X2_begin : rx_YV yX2_begin := ⟨(rx_g2 26 rfl rfl), (rx_g0 3 rfl rfl)⟩
set_option maxRecDepth 100000 in
theorem Y_X2_copyFrom : rx_Y yX2_copyFrom cX2_copyFrom 2 none 1 := ⟨(rx_g4 42 rfl rfl), (rx_g1 4 rfl rfl), (by decide +kernel), (by decide +kernel), (by decide +kernel)⟩
set_option maxRecDepth 100000 in
theorem V_X2_copyFrom : rx_YV yX2_copyFrom := ⟨(rx_g4 41 rfl rfl), (rx_g0 44 rfl rfl)⟩
set_option maxRecDepth 100000 in
theorem Y_X2_peopleOn : rx_Y yX2_peopleOn cX2_peopleOn 4 (some .int) 1 := ⟨(rx_g5 38 rfl rfl), (rx_g1 4 rfl rfl), (by decide +kernel), (by decide +kernel), (by decide +kernel)⟩
set_option maxRecDepth 100000 in
theorem V_X2_peopleOn : rx_YV yX2_peopleOn := ⟨(rx_g5 37 rfl rfl), (rx_g0 74 rfl rfl)⟩
set_option maxRecDepth 100000 in
theorem Y_X2_wearerOf : rx_Y yX2_wearerOf cX2_wearerOf 3 (some .int) 1 := ⟨(rx_g5 13 rfl rfl), (rx_g1 4 rfl rfl), (by decide +kernel), (by decide +kernel), (by decide +kernel)⟩
set_option maxRecDepth 100000 in
theorem V_X2_wearerOf : rx_YV yX2_wearerOf := ⟨(rx_g5 12 rfl rfl), (rx_g0 72 rfl rfl)⟩
set_option maxRecDepth 100000 in
theorem Y_X2_coinsInAll : rx_Y yX2_coinsInAll cX2_coinsInAll 3 (some .int) 0 := ⟨(rx_g2 98 rfl rfl), (rx_g1 4 rfl rfl), (by decide +kernel), (by decide +kernel), (by decide +kernel)⟩
set_option maxRecDepth 100000 in
theorem V_X2_coinsInAll : rx_YV yX2_coinsInAll := ⟨(rx_g2 97 rfl rfl), (rx_g0 7 rfl rfl)⟩
set_option maxRecDepth 100000 in
theorem Y_X2_royalCoinBank : rx_Y yX2_royalCoinBank cX2_royalCoinBank 3 (some .int) 1 := ⟨(rx_g4 108 rfl rfl), (rx_g1 4 rfl rfl), (by decide +kernel), (by decide +kernel), (by decide +kernel)⟩
set_option maxRecDepth 100000 in
theorem V_X2_royalCoinBank : rx_YV yX2_royalCoinBank := ⟨(rx_g4 107 rfl rfl), (rx_g0 51 rfl rfl)⟩
set_option maxRecDepth 100000 in
theorem Y_X2_royalCoinsOf : rx_Y yX2_royalCoinsOf cX2_royalCoinsOf 4 (some .int) 1 := ⟨(rx_g4 100 rfl rfl), (rx_g1 4 rfl rfl), (by decide +kernel), (by decide +kernel), (by decide +kernel)⟩
set_option maxRecDepth 100000 in
theorem V_X2_royalCoinsOf : rx_YV yX2_royalCoinsOf := ⟨(rx_g4 99 rfl rfl), (rx_g0 50 rfl rfl)⟩
set_option maxRecDepth 100000 in
theorem Y_X2_countedInAll : rx_Y yX2_countedInAll cX2_countedInAll 3 (some .int) 0 := ⟨(rx_g2 89 rfl rfl), (rx_g1 4 rfl rfl), (by decide +kernel), (by decide +kernel), (by decide +kernel)⟩
set_option maxRecDepth 100000 in
theorem V_X2_countedInAll : rx_YV yX2_countedInAll := ⟨(rx_g2 88 rfl rfl), (rx_g0 6 rfl rfl)⟩
set_option maxRecDepth 100000 in
theorem Y_X2_keeperAngleIn : rx_Y yX2_keeperAngleIn cX2_keeperAngleIn 3 (some .int) 2 := ⟨(rx_g4 206 rfl rfl), (rx_g1 4 rfl rfl), (by decide +kernel), (by decide +kernel), (by decide +kernel)⟩
set_option maxRecDepth 100000 in
theorem V_X2_keeperAngleIn : rx_YV yX2_keeperAngleIn := ⟨(rx_g4 205 rfl rfl), (rx_g0 65 rfl rfl)⟩
set_option maxRecDepth 100000 in
theorem Y_X2_angleOf : rx_Y yX2_angleOf cX2_angleOf 3 (some .int) 2 := ⟨(rx_g4 209 rfl rfl), (rx_g1 4 rfl rfl), (by decide +kernel), (by decide +kernel), (by decide +kernel)⟩
set_option maxRecDepth 100000 in
theorem S_X2_angleOf : Cond.static yX2_angleOf ∈ rx_good := (rx_g4 208 rfl rfl)
set_option maxRecDepth 100000 in
theorem Y_X2_queueOn : rx_Y yX2_queueOn cX2_queueOn 2 (some (.object "BeggarKings$Queue")) 1 := ⟨(rx_g4 8 rfl rfl), (rx_g1 4 rfl rfl), (by decide +kernel), (by decide +kernel), (by decide +kernel)⟩
set_option maxRecDepth 100000 in
theorem V_X2_queueOn : rx_YV yX2_queueOn := ⟨(rx_g4 7 rfl rfl), (rx_g0 40 rfl rfl)⟩
set_option maxRecDepth 100000 in
theorem Y_X2_offerOf : rx_Y yX2_offerOf cX2_offerOf 3 (some .int) 1 := ⟨(rx_g4 4 rfl rfl), (rx_g1 4 rfl rfl), (by decide +kernel), (by decide +kernel), (by decide +kernel)⟩
set_option maxRecDepth 100000 in
theorem V_X2_offerOf : rx_YV yX2_offerOf := ⟨(rx_g4 3 rfl rfl), (rx_g0 39 rfl rfl)⟩
set_option maxRecDepth 100000 in
theorem Y_X2_departureBank : rx_Y yX2_departureBank cX2_departureBank 1 (some .int) 0 := ⟨(rx_g4 190 rfl rfl), (rx_g1 4 rfl rfl), (by decide +kernel), (by decide +kernel), (by decide +kernel)⟩
set_option maxRecDepth 100000 in
theorem V_X2_departureBank : rx_YV yX2_departureBank := ⟨(rx_g4 189 rfl rfl), (rx_g0 61 rfl rfl)⟩
set_option maxRecDepth 100000 in
theorem Y_X2_passSeveral : rx_Y yX2_passSeveral cX2_passSeveral 4 (some .int) 1 := ⟨(rx_g4 182 rfl rfl), (rx_g1 4 rfl rfl), (by decide +kernel), (by decide +kernel), (by decide +kernel)⟩
set_option maxRecDepth 100000 in
theorem V_X2_passSeveral : rx_YV yX2_passSeveral := ⟨(rx_g4 181 rfl rfl), (rx_g0 59 rfl rfl)⟩
set_option maxRecDepth 100000 in
theorem Y_X2_passTurn : rx_Y yX2_passTurn cX2_passTurn 7 (some .int) 0 := ⟨(rx_g4 186 rfl rfl), (rx_g1 4 rfl rfl), (by decide +kernel), (by decide +kernel), (by decide +kernel)⟩
set_option maxRecDepth 100000 in
theorem V_X2_passTurn : rx_YV yX2_passTurn := ⟨(rx_g4 185 rfl rfl), (rx_g0 60 rfl rfl)⟩
set_option maxRecDepth 100000 in
theorem Y_X2_letFirstTry : rx_Y yX2_letFirstTry cX2_letFirstTry 5 (some .int) 1 := ⟨(rx_g4 198 rfl rfl), (rx_g1 4 rfl rfl), (by decide +kernel), (by decide +kernel), (by decide +kernel)⟩
set_option maxRecDepth 100000 in
theorem V_X2_letFirstTry : rx_YV yX2_letFirstTry := ⟨(rx_g4 197 rfl rfl), (rx_g0 63 rfl rfl)⟩
set_option maxRecDepth 100000 in
theorem Y_X2_countRoyalCoinsOf : rx_Y yX2_countRoyalCoinsOf cX2_countRoyalCoinsOf 3 none 1 := ⟨(rx_g4 217 rfl rfl), (rx_g1 4 rfl rfl), (by decide +kernel), (by decide +kernel), (by decide +kernel)⟩
set_option maxRecDepth 100000 in
theorem V_X2_countRoyalCoinsOf : rx_YV yX2_countRoyalCoinsOf := ⟨(rx_g4 216 rfl rfl), (rx_g0 67 rfl rfl)⟩
set_option maxRecDepth 100000 in
theorem Y_X2_learn : rx_Y yX2_learn cX2_learn 3 none 2 := ⟨(rx_g4 221 rfl rfl), (rx_g1 4 rfl rfl), (by decide +kernel), (by decide +kernel), (by decide +kernel)⟩
set_option maxRecDepth 100000 in
theorem V_X2_learn : rx_YV yX2_learn := ⟨(rx_g4 220 rfl rfl), (rx_g0 68 rfl rfl)⟩
set_option maxRecDepth 100000 in
theorem Y_X2_faultOf : rx_Y yX2_faultOf cX2_faultOf 4 (some .int) 3 := ⟨(rx_g3 218 rfl rfl), (rx_g1 4 rfl rfl), (by decide +kernel), (by decide +kernel), (by decide +kernel)⟩
set_option maxRecDepth 100000 in
theorem V_X2_faultOf : rx_YV yX2_faultOf := ⟨(rx_g3 217 rfl rfl), (rx_g0 35 rfl rfl)⟩
set_option maxRecDepth 100000 in
theorem Y_X2_isSound : rx_Y yX2_isSound cX2_isSound 4 (some .boolean) 3 := ⟨(rx_g3 223 rfl rfl), (rx_g1 4 rfl rfl), (by decide +kernel), (by decide +kernel), (by decide +kernel)⟩
set_option maxRecDepth 100000 in
theorem V_X2_isSound : rx_YV yX2_isSound := ⟨(rx_g3 222 rfl rfl), (rx_g0 36 rfl rfl)⟩
set_option maxRecDepth 100000 in
theorem Y_X2_isPossible : rx_Y yX2_isPossible cX2_isPossible 4 (some .boolean) 3 := ⟨(rx_g4 0 rfl rfl), (rx_g1 4 rfl rfl), (by decide +kernel), (by decide +kernel), (by decide +kernel)⟩
set_option maxRecDepth 100000 in
theorem V_X2_isPossible : rx_YV yX2_isPossible := ⟨(rx_g3 239 rfl rfl), (rx_g0 38 rfl rfl)⟩
set_option maxRecDepth 100000 in
theorem Y_X2_drop : rx_Y yX2_drop cX2_drop 4 (some .int) 2 := ⟨(rx_g4 52 rfl rfl), (rx_g1 4 rfl rfl), (by decide +kernel), (by decide +kernel), (by decide +kernel)⟩
set_option maxRecDepth 100000 in
theorem V_X2_drop : rx_YV yX2_drop := ⟨(rx_g4 51 rfl rfl), (rx_g0 46 rfl rfl)⟩
set_option maxRecDepth 100000 in
theorem Y_X2_pick : rx_Y yX2_pick cX2_pick 3 (some .int) 2 := ⟨(rx_g4 77 rfl rfl), (rx_g1 4 rfl rfl), (by decide +kernel), (by decide +kernel), (by decide +kernel)⟩
set_option maxRecDepth 100000 in
theorem V_X2_pick : rx_YV yX2_pick := ⟨(rx_g4 76 rfl rfl), (rx_g0 47 rfl rfl)⟩
set_option maxRecDepth 100000 in
theorem Y_X2_lay : rx_Y yX2_lay cX2_lay 3 (some .int) 2 := ⟨(rx_g4 96 rfl rfl), (rx_g1 4 rfl rfl), (by decide +kernel), (by decide +kernel), (by decide +kernel)⟩
set_option maxRecDepth 100000 in
theorem V_X2_lay : rx_YV yX2_lay := ⟨(rx_g4 95 rfl rfl), (rx_g0 49 rfl rfl)⟩
set_option maxRecDepth 100000 in
theorem Y_X2_lift : rx_Y yX2_lift cX2_lift 3 (some .int) 2 := ⟨(rx_g4 118 rfl rfl), (rx_g1 4 rfl rfl), (by decide +kernel), (by decide +kernel), (by decide +kernel)⟩
set_option maxRecDepth 100000 in
theorem V_X2_lift : rx_YV yX2_lift := ⟨(rx_g4 117 rfl rfl), (rx_g0 52 rfl rfl)⟩
set_option maxRecDepth 100000 in
theorem Y_X2_swap : rx_Y yX2_swap cX2_swap 4 (some .int) 2 := ⟨(rx_g4 128 rfl rfl), (rx_g1 4 rfl rfl), (by decide +kernel), (by decide +kernel), (by decide +kernel)⟩
set_option maxRecDepth 100000 in
theorem V_X2_swap : rx_YV yX2_swap := ⟨(rx_g4 127 rfl rfl), (rx_g0 53 rfl rfl)⟩
set_option maxRecDepth 100000 in
theorem Y_X2_join : rx_Y yX2_join cX2_join 3 (some .int) 2 := ⟨(rx_g4 143 rfl rfl), (rx_g1 4 rfl rfl), (by decide +kernel), (by decide +kernel), (by decide +kernel)⟩
set_option maxRecDepth 100000 in
theorem V_X2_join : rx_YV yX2_join := ⟨(rx_g4 142 rfl rfl), (rx_g0 54 rfl rfl)⟩
set_option maxRecDepth 100000 in
theorem Y_X2_quit : rx_Y yX2_quit cX2_quit 5 (some .int) 1 := ⟨(rx_g4 158 rfl rfl), (rx_g1 4 rfl rfl), (by decide +kernel), (by decide +kernel), (by decide +kernel)⟩
set_option maxRecDepth 100000 in
theorem V_X2_quit : rx_YV yX2_quit := ⟨(rx_g4 157 rfl rfl), (rx_g0 56 rfl rfl)⟩
set_option maxRecDepth 100000 in
theorem Y_X2_changePride : rx_Y yX2_changePride cX2_changePride 4 (some .int) 2 := ⟨(rx_g4 172 rfl rfl), (rx_g1 4 rfl rfl), (by decide +kernel), (by decide +kernel), (by decide +kernel)⟩
set_option maxRecDepth 100000 in
theorem V_X2_changePride : rx_YV yX2_changePride := ⟨(rx_g4 171 rfl rfl), (rx_g0 58 rfl rfl)⟩
set_option maxRecDepth 100000 in
theorem Y_X3_init : rx_Y yX3_init cX3_init 1 none 0 := ⟨(rx_g1 140 rfl rfl), (rx_g1 5 rfl rfl), (by decide +kernel), (by decide +kernel), (by decide +kernel)⟩
set_option maxRecDepth 100000 in
theorem I_X3_init : Cond.instanceMethod yX3_init ∈ rx_good := (rx_g1 139 rfl rfl)
set_option maxRecDepth 100000 in
theorem Y_X3_copyFrom : rx_Y yX3_copyFrom cX3_copyFrom 2 none 1 := ⟨(rx_g4 46 rfl rfl), (rx_g1 5 rfl rfl), (by decide +kernel), (by decide +kernel), (by decide +kernel)⟩
set_option maxRecDepth 100000 in
theorem V_X3_copyFrom : rx_YV yX3_copyFrom := ⟨(rx_g4 45 rfl rfl), (rx_g0 45 rfl rfl)⟩
set_option maxRecDepth 100000 in
theorem Y_X3_personAt : rx_Y yX3_personAt cX3_personAt 2 (some .int) 1 := ⟨(rx_g4 202 rfl rfl), (rx_g1 5 rfl rfl), (by decide +kernel), (by decide +kernel), (by decide +kernel)⟩
set_option maxRecDepth 100000 in
theorem V_X3_personAt : rx_YV yX3_personAt := ⟨(rx_g4 201 rfl rfl), (rx_g0 64 rfl rfl)⟩
set_option maxRecDepth 100000 in
theorem Y_X3_offerAt : rx_Y yX3_offerAt cX3_offerAt 2 (some .int) 1 := ⟨(rx_g4 17 rfl rfl), (rx_g1 5 rfl rfl), (by decide +kernel), (by decide +kernel), (by decide +kernel)⟩
set_option maxRecDepth 100000 in
theorem V_X3_offerAt : rx_YV yX3_offerAt := ⟨(rx_g4 16 rfl rfl), (rx_g0 42 rfl rfl)⟩
set_option maxRecDepth 100000 in
theorem Y_X3_placeOf : rx_Y yX3_placeOf cX3_placeOf 3 (some .int) 1 := ⟨(rx_g4 12 rfl rfl), (rx_g1 5 rfl rfl), (by decide +kernel), (by decide +kernel), (by decide +kernel)⟩
set_option maxRecDepth 100000 in
theorem V_X3_placeOf : rx_YV yX3_placeOf := ⟨(rx_g4 11 rfl rfl), (rx_g0 41 rfl rfl)⟩
set_option maxRecDepth 100000 in
theorem Y_X3_insert : rx_Y yX3_insert cX3_insert 4 (some .int) 2 := ⟨(rx_g4 147 rfl rfl), (rx_g1 5 rfl rfl), (by decide +kernel), (by decide +kernel), (by decide +kernel)⟩
set_option maxRecDepth 100000 in
theorem V_X3_insert : rx_YV yX3_insert := ⟨(rx_g4 146 rfl rfl), (rx_g0 55 rfl rfl)⟩
set_option maxRecDepth 100000 in
theorem Y_X3_removeAt : rx_Y yX3_removeAt cX3_removeAt 3 none 1 := ⟨(rx_g4 162 rfl rfl), (rx_g1 5 rfl rfl), (by decide +kernel), (by decide +kernel), (by decide +kernel)⟩
set_option maxRecDepth 100000 in
theorem V_X3_removeAt : rx_YV yX3_removeAt := ⟨(rx_g4 161 rfl rfl), (rx_g0 57 rfl rfl)⟩
set_option maxRecDepth 100000 in
theorem Y_X4_init : rx_Y yX4_init cX4_init 1 none 0 := ⟨(rx_g1 233 rfl rfl), (rx_g1 7 rfl rfl), (by decide +kernel), (by decide +kernel), (by decide +kernel)⟩
set_option maxRecDepth 100000 in
theorem I_X4_init : Cond.instanceMethod yX4_init ∈ rx_good := (rx_g1 232 rfl rfl)
set_option maxRecDepth 100000 in
theorem Y_X5_init : rx_Y yX5_init cX5_init 1 none 0 := ⟨(rx_g1 73 rfl rfl), (rx_g1 3 rfl rfl), (by decide +kernel), (by decide +kernel), (by decide +kernel)⟩
set_option maxRecDepth 100000 in
theorem I_X5_init : Cond.instanceMethod yX5_init ∈ rx_good := (rx_g1 72 rfl rfl)
set_option maxRecDepth 100000 in
theorem Y_X5_begin : rx_Y yX5_begin cX5_begin 5 none 4 := ⟨(rx_g2 12 rfl rfl), (rx_g1 3 rfl rfl), (by decide +kernel), (by decide +kernel), (by decide +kernel)⟩
set_option maxRecDepth 100000 in
theorem V_X5_begin : rx_YV yX5_begin := ⟨(rx_g2 11 rfl rfl), (rx_g0 0 rfl rfl)⟩
set_option maxRecDepth 100000 in
theorem Y_X5_addPerson : rx_Y yX5_addPerson cX5_addPerson 6 none 5 := ⟨(rx_g2 16 rfl rfl), (rx_g1 3 rfl rfl), (by decide +kernel), (by decide +kernel), (by decide +kernel)⟩
set_option maxRecDepth 100000 in
theorem V_X5_addPerson : rx_YV yX5_addPerson := ⟨(rx_g2 15 rfl rfl), (rx_g0 1 rfl rfl)⟩
set_option maxRecDepth 100000 in
theorem Y_X5_addBridge : rx_Y yX5_addBridge cX5_addBridge 4 none 3 := ⟨(rx_g2 23 rfl rfl), (rx_g1 3 rfl rfl), (by decide +kernel), (by decide +kernel), (by decide +kernel)⟩
set_option maxRecDepth 100000 in
theorem V_X5_addBridge : rx_YV yX5_addBridge := ⟨(rx_g2 22 rfl rfl), (rx_g0 2 rfl rfl)⟩
set_option maxRecDepth 100000 in
theorem Y_X5_copyFrom : rx_Y yX5_copyFrom cX5_copyFrom 2 none 1 := ⟨(rx_g3 144 rfl rfl), (rx_g1 3 rfl rfl), (by decide +kernel), (by decide +kernel), (by decide +kernel)⟩
set_option maxRecDepth 100000 in
theorem V_X5_copyFrom : rx_YV yX5_copyFrom := ⟨(rx_g3 143 rfl rfl), (rx_g0 29 rfl rfl)⟩
set_option maxRecDepth 100000 in
theorem Y_X5_hasPerson : rx_Y yX5_hasPerson cX5_hasPerson 2 (some .boolean) 1 := ⟨(rx_g2 45 rfl rfl), (rx_g1 3 rfl rfl), (by decide +kernel), (by decide +kernel), (by decide +kernel)⟩
set_option maxRecDepth 100000 in
theorem V_X5_hasPerson : rx_YV yX5_hasPerson := ⟨(rx_g2 44 rfl rfl), (rx_g0 5 rfl rfl)⟩
set_option maxRecDepth 100000 in
theorem Y_X5_hasKing : rx_Y yX5_hasKing cX5_hasKing 2 (some .boolean) 1 := ⟨(rx_g2 41 rfl rfl), (rx_g1 3 rfl rfl), (by decide +kernel), (by decide +kernel), (by decide +kernel)⟩
set_option maxRecDepth 100000 in
theorem V_X5_hasKing : rx_YV yX5_hasKing := ⟨(rx_g2 40 rfl rfl), (rx_g0 4 rfl rfl)⟩
set_option maxRecDepth 100000 in
theorem Y_X5_kingsInAll : rx_Y yX5_kingsInAll cX5_kingsInAll 3 (some .int) 0 := ⟨(rx_g5 30 rfl rfl), (rx_g1 3 rfl rfl), (by decide +kernel), (by decide +kernel), (by decide +kernel)⟩
set_option maxRecDepth 100000 in
theorem V_X5_kingsInAll : rx_YV yX5_kingsInAll := ⟨(rx_g5 29 rfl rfl), (rx_g0 73 rfl rfl)⟩
set_option maxRecDepth 100000 in
theorem Y_X5_coinsInAll : rx_Y yX5_coinsInAll cX5_coinsInAll 3 (some .int) 0 := ⟨(rx_g2 102 rfl rfl), (rx_g1 3 rfl rfl), (by decide +kernel), (by decide +kernel), (by decide +kernel)⟩
set_option maxRecDepth 100000 in
theorem V_X5_coinsInAll : rx_YV yX5_coinsInAll := ⟨(rx_g2 101 rfl rfl), (rx_g0 8 rfl rfl)⟩
set_option maxRecDepth 100000 in
theorem Y_X5_tollFor : rx_Y yX5_tollFor cX5_tollFor 2 (some .int) 1 := ⟨(rx_g4 213 rfl rfl), (rx_g1 3 rfl rfl), (by decide +kernel), (by decide +kernel), (by decide +kernel)⟩
set_option maxRecDepth 100000 in
theorem V_X5_tollFor : rx_YV yX5_tollFor := ⟨(rx_g4 212 rfl rfl), (rx_g0 66 rfl rfl)⟩
set_option maxRecDepth 100000 in
theorem Y_X5_opens : rx_Y yX5_opens cX5_opens 4 (some .boolean) 2 := ⟨(rx_g4 194 rfl rfl), (rx_g1 3 rfl rfl), (by decide +kernel), (by decide +kernel), (by decide +kernel)⟩
set_option maxRecDepth 100000 in
theorem V_X5_opens : rx_YV yX5_opens := ⟨(rx_g4 193 rfl rfl), (rx_g0 62 rfl rfl)⟩
set_option maxRecDepth 100000 in
theorem Y_X6_init : rx_Y yX6_init cX6_init 1 none 0 := ⟨(rx_g1 35 rfl rfl), (rx_g1 2 rfl rfl), (by decide +kernel), (by decide +kernel), (by decide +kernel)⟩
set_option maxRecDepth 100000 in
theorem I_X6_init : Cond.instanceMethod yX6_init ∈ rx_good := (rx_g1 34 rfl rfl)
set_option maxRecDepth 100000 in
theorem Y_X6_appendWord : rx_Y yX6_appendWord cX6_appendWord 3 none 1 := ⟨(rx_g2 216 rfl rfl), (rx_g1 2 rfl rfl), (by decide +kernel), (by decide +kernel), (by decide +kernel)⟩
set_option maxRecDepth 100000 in
theorem V_X6_appendWord : rx_YV yX6_appendWord := ⟨(rx_g2 215 rfl rfl), (rx_g0 14 rfl rfl)⟩
set_option maxRecDepth 100000 in
theorem Y_X6_open : rx_Y yX6_open cX6_open 2 none 1 := ⟨(rx_g3 57 rfl rfl), (rx_g1 2 rfl rfl), (by decide +kernel), (by decide +kernel), (by decide +kernel)⟩
set_option maxRecDepth 100000 in
theorem V_X6_open : rx_YV yX6_open := ⟨(rx_g3 56 rfl rfl), (rx_g0 17 rfl rfl)⟩
set_option maxRecDepth 100000 in
theorem Y_X6_hasFailed : rx_Y yX6_hasFailed cX6_hasFailed 1 (some .boolean) 0 := ⟨(rx_g3 140 rfl rfl), (rx_g1 2 rfl rfl), (by decide +kernel), (by decide +kernel), (by decide +kernel)⟩
set_option maxRecDepth 100000 in
theorem V_X6_hasFailed : rx_YV yX6_hasFailed := ⟨(rx_g3 139 rfl rfl), (rx_g0 28 rfl rfl)⟩
set_option maxRecDepth 100000 in
theorem Y_X6_fail : rx_Y yX6_fail cX6_fail 2 none 1 := ⟨(rx_g3 98 rfl rfl), (rx_g1 2 rfl rfl), (by decide +kernel), (by decide +kernel), (by decide +kernel)⟩
set_option maxRecDepth 100000 in
theorem V_X6_fail : rx_YV yX6_fail := ⟨(rx_g3 97 rfl rfl), (rx_g0 23 rfl rfl)⟩
set_option maxRecDepth 100000 in
theorem Y_X6_isAtEnd : rx_Y yX6_isAtEnd cX6_isAtEnd 1 (some .boolean) 0 := ⟨(rx_g3 136 rfl rfl), (rx_g1 2 rfl rfl), (by decide +kernel), (by decide +kernel), (by decide +kernel)⟩
set_option maxRecDepth 100000 in
theorem V_X6_isAtEnd : rx_YV yX6_isAtEnd := ⟨(rx_g3 135 rfl rfl), (rx_g0 27 rfl rfl)⟩
set_option maxRecDepth 100000 in
theorem Y_X6_isAtWord : rx_Y yX6_isAtWord cX6_isAtWord 3 (some .boolean) 1 := ⟨(rx_g3 92 rfl rfl), (rx_g1 2 rfl rfl), (by decide +kernel), (by decide +kernel), (by decide +kernel)⟩
set_option maxRecDepth 100000 in
theorem V_X6_isAtWord : rx_YV yX6_isAtWord := ⟨(rx_g3 91 rfl rfl), (rx_g0 22 rfl rfl)⟩
set_option maxRecDepth 100000 in
theorem Y_X6_takeWord : rx_Y yX6_takeWord cX6_takeWord 2 none 1 := ⟨(rx_g3 88 rfl rfl), (rx_g1 2 rfl rfl), (by decide +kernel), (by decide +kernel), (by decide +kernel)⟩
set_option maxRecDepth 100000 in
theorem V_X6_takeWord : rx_YV yX6_takeWord := ⟨(rx_g3 87 rfl rfl), (rx_g0 21 rfl rfl)⟩
set_option maxRecDepth 100000 in
theorem Y_X6_takeEither : rx_Y yX6_takeEither cX6_takeEither 4 (some .int) 2 := ⟨(rx_g3 123 rfl rfl), (rx_g1 2 rfl rfl), (by decide +kernel), (by decide +kernel), (by decide +kernel)⟩
set_option maxRecDepth 100000 in
theorem V_X6_takeEither : rx_YV yX6_takeEither := ⟨(rx_g3 122 rfl rfl), (rx_g0 26 rfl rfl)⟩
set_option maxRecDepth 100000 in
theorem Y_X6_takeSemicolon : rx_Y yX6_takeSemicolon cX6_takeSemicolon 1 none 0 := ⟨(rx_g3 106 rfl rfl), (rx_g1 2 rfl rfl), (by decide +kernel), (by decide +kernel), (by decide +kernel)⟩
set_option maxRecDepth 100000 in
theorem V_X6_takeSemicolon : rx_YV yX6_takeSemicolon := ⟨(rx_g3 105 rfl rfl), (rx_g0 25 rfl rfl)⟩
set_option maxRecDepth 100000 in
theorem Y_X6_takeNumber : rx_Y yX6_takeNumber cX6_takeNumber 4 (some .int) 2 := ⟨(rx_g3 102 rfl rfl), (rx_g1 2 rfl rfl), (by decide +kernel), (by decide +kernel), (by decide +kernel)⟩
set_option maxRecDepth 100000 in
theorem V_X6_takeNumber : rx_YV yX6_takeNumber := ⟨(rx_g3 101 rfl rfl), (rx_g0 24 rfl rfl)⟩
set_option maxRecDepth 100000 in
theorem Y_X6_advance : rx_Y yX6_advance cX6_advance 1 none 0 := ⟨(rx_g3 61 rfl rfl), (rx_g1 2 rfl rfl), (by decide +kernel), (by decide +kernel), (by decide +kernel)⟩
set_option maxRecDepth 100000 in
theorem V_X6_advance : rx_YV yX6_advance := ⟨(rx_g3 60 rfl rfl), (rx_g0 18 rfl rfl)⟩
set_option maxRecDepth 100000 in
theorem Y_X6_scanWord : rx_Y yX6_scanWord cX6_scanWord 1 none 0 := ⟨(rx_g3 72 rfl rfl), (rx_g1 2 rfl rfl), (by decide +kernel), (by decide +kernel), (by decide +kernel)⟩
set_option maxRecDepth 100000 in
theorem V_X6_scanWord : rx_YV yX6_scanWord := ⟨(rx_g3 71 rfl rfl), (rx_g0 19 rfl rfl)⟩
set_option maxRecDepth 100000 in
theorem Y_X6_scanNumber : rx_Y yX6_scanNumber cX6_scanNumber 1 none 0 := ⟨(rx_g3 79 rfl rfl), (rx_g1 2 rfl rfl), (by decide +kernel), (by decide +kernel), (by decide +kernel)⟩
set_option maxRecDepth 100000 in
theorem V_X6_scanNumber : rx_YV yX6_scanNumber := ⟨(rx_g3 78 rfl rfl), (rx_g0 20 rfl rfl)⟩
set_option maxRecDepth 100000 in
theorem Y_X6_isBlank : rx_Y yX6_isBlank cX6_isBlank 1 (some .boolean) 1 := ⟨(rx_g3 65 rfl rfl), (rx_g1 2 rfl rfl), (by decide +kernel), (by decide +kernel), (by decide +kernel)⟩
set_option maxRecDepth 100000 in
theorem S_X6_isBlank : Cond.static yX6_isBlank ∈ rx_good := (rx_g3 64 rfl rfl)
set_option maxRecDepth 100000 in
theorem Y_X6_isLetter : rx_Y yX6_isLetter cX6_isLetter 1 (some .boolean) 1 := ⟨(rx_g3 68 rfl rfl), (rx_g1 2 rfl rfl), (by decide +kernel), (by decide +kernel), (by decide +kernel)⟩
set_option maxRecDepth 100000 in
theorem S_X6_isLetter : Cond.static yX6_isLetter ∈ rx_good := (rx_g3 67 rfl rfl)
set_option maxRecDepth 100000 in
theorem Y_X6_isDigit : rx_Y yX6_isDigit cX6_isDigit 1 (some .boolean) 1 := ⟨(rx_g3 75 rfl rfl), (rx_g1 2 rfl rfl), (by decide +kernel), (by decide +kernel), (by decide +kernel)⟩
set_option maxRecDepth 100000 in
theorem S_X6_isDigit : Cond.static yX6_isDigit ∈ rx_good := (rx_g3 74 rfl rfl)
set_option maxRecDepth 100000 in
theorem Y_X7_allows : rx_Y yX7_allows cX7_allows 2 (some .boolean) 1 := ⟨(rx_g3 236 rfl rfl), (rx_g1 20 rfl rfl), (by decide +kernel), (by decide +kernel), (by decide +kernel)⟩
set_option maxRecDepth 100000 in
theorem V_X7_allows : rx_YV yX7_allows := ⟨(rx_g3 234 rfl rfl), (rx_g0 37 rfl rfl)⟩
set_option maxRecDepth 100000 in
theorem Y_X8_init : rx_Y yX8_init cX8_init 1 none 0 := ⟨(rx_g1 27 rfl rfl), (rx_g1 1 rfl rfl), (by decide +kernel), (by decide +kernel), (by decide +kernel)⟩
set_option maxRecDepth 100000 in
theorem I_X8_init : Cond.instanceMethod yX8_init ∈ rx_good := (rx_g1 26 rfl rfl)
set_option maxRecDepth 100000 in
theorem Y_X8_appendText : rx_Y yX8_appendText cX8_appendText 6 (some .int) 5 := ⟨(rx_g2 212 rfl rfl), (rx_g1 1 rfl rfl), (by decide +kernel), (by decide +kernel), (by decide +kernel)⟩
set_option maxRecDepth 100000 in
theorem V_X8_appendText : rx_YV yX8_appendText := ⟨(rx_g2 210 rfl rfl), (rx_g2 211 rfl rfl)⟩
set_option maxRecDepth 100000 in
theorem Y_X8_loadGame : rx_Y yX8_loadGame cX8_loadGame 2 (some .int) 1 := ⟨(rx_g2 221 rfl rfl), (rx_g1 1 rfl rfl), (by decide +kernel), (by decide +kernel), (by decide +kernel)⟩
set_option maxRecDepth 100000 in
theorem V_X8_loadGame : rx_YV yX8_loadGame := ⟨(rx_g2 219 rfl rfl), (rx_g2 220 rfl rfl)⟩
set_option maxRecDepth 100000 in
theorem Y_X8_errorCode : rx_Y yX8_errorCode cX8_errorCode 1 (some .int) 0 := ⟨(rx_g3 153 rfl rfl), (rx_g1 1 rfl rfl), (by decide +kernel), (by decide +kernel), (by decide +kernel)⟩
set_option maxRecDepth 100000 in
theorem V_X8_errorCode : rx_YV yX8_errorCode := ⟨(rx_g3 151 rfl rfl), (rx_g3 152 rfl rfl)⟩
set_option maxRecDepth 100000 in
theorem Y_X8_errorOffset : rx_Y yX8_errorOffset cX8_errorOffset 1 (some .int) 0 := ⟨(rx_g3 157 rfl rfl), (rx_g1 1 rfl rfl), (by decide +kernel), (by decide +kernel), (by decide +kernel)⟩
set_option maxRecDepth 100000 in
theorem V_X8_errorOffset : rx_YV yX8_errorOffset := ⟨(rx_g3 155 rfl rfl), (rx_g3 156 rfl rfl)⟩
set_option maxRecDepth 100000 in
theorem Y_X8_turn : rx_Y yX8_turn cX8_turn 1 (some .int) 0 := ⟨(rx_g3 161 rfl rfl), (rx_g1 1 rfl rfl), (by decide +kernel), (by decide +kernel), (by decide +kernel)⟩
set_option maxRecDepth 100000 in
theorem V_X8_turn : rx_YV yX8_turn := ⟨(rx_g3 159 rfl rfl), (rx_g3 160 rfl rfl)⟩
set_option maxRecDepth 100000 in
theorem Y_X8_limitAngle : rx_Y yX8_limitAngle cX8_limitAngle 1 (some .int) 0 := ⟨(rx_g5 56 rfl rfl), (rx_g1 1 rfl rfl), (by decide +kernel), (by decide +kernel), (by decide +kernel)⟩
set_option maxRecDepth 100000 in
theorem V_X8_limitAngle : rx_YV yX8_limitAngle := ⟨(rx_g5 54 rfl rfl), (rx_g5 55 rfl rfl)⟩
set_option maxRecDepth 100000 in
theorem Y_X8_tollBox : rx_Y yX8_tollBox cX8_tollBox 1 (some .int) 0 := ⟨(rx_g3 165 rfl rfl), (rx_g1 1 rfl rfl), (by decide +kernel), (by decide +kernel), (by decide +kernel)⟩
set_option maxRecDepth 100000 in
theorem V_X8_tollBox : rx_YV yX8_tollBox := ⟨(rx_g3 163 rfl rfl), (rx_g3 164 rfl rfl)⟩
set_option maxRecDepth 100000 in
theorem Y_X8_groundCoins : rx_Y yX8_groundCoins cX8_groundCoins 2 (some .int) 1 := ⟨(rx_g4 64 rfl rfl), (rx_g1 1 rfl rfl), (by decide +kernel), (by decide +kernel), (by decide +kernel)⟩
set_option maxRecDepth 100000 in
theorem V_X8_groundCoins : rx_YV yX8_groundCoins := ⟨(rx_g4 62 rfl rfl), (rx_g4 63 rfl rfl)⟩
set_option maxRecDepth 100000 in
theorem Y_X8_kingCount : rx_Y yX8_kingCount cX8_kingCount 1 (some .int) 0 := ⟨(rx_g5 26 rfl rfl), (rx_g1 1 rfl rfl), (by decide +kernel), (by decide +kernel), (by decide +kernel)⟩
set_option maxRecDepth 100000 in
theorem V_X8_kingCount : rx_YV yX8_kingCount := ⟨(rx_g5 24 rfl rfl), (rx_g5 25 rfl rfl)⟩
set_option maxRecDepth 100000 in
theorem Y_X8_bankCount : rx_Y yX8_bankCount cX8_bankCount 2 (some .int) 1 := ⟨(rx_g5 34 rfl rfl), (rx_g1 1 rfl rfl), (by decide +kernel), (by decide +kernel), (by decide +kernel)⟩
set_option maxRecDepth 100000 in
theorem V_X8_bankCount : rx_YV yX8_bankCount := ⟨(rx_g5 32 rfl rfl), (rx_g5 33 rfl rfl)⟩
set_option maxRecDepth 100000 in
theorem Y_X8_isKing : rx_Y yX8_isKing cX8_isKing 2 (some .boolean) 1 := ⟨(rx_g3 177 rfl rfl), (rx_g1 1 rfl rfl), (by decide +kernel), (by decide +kernel), (by decide +kernel)⟩
set_option maxRecDepth 100000 in
theorem V_X8_isKing : rx_YV yX8_isKing := ⟨(rx_g3 175 rfl rfl), (rx_g3 176 rfl rfl)⟩
set_option maxRecDepth 100000 in
theorem Y_X8_isEast : rx_Y yX8_isEast cX8_isEast 2 (some .boolean) 1 := ⟨(rx_g4 60 rfl rfl), (rx_g1 1 rfl rfl), (by decide +kernel), (by decide +kernel), (by decide +kernel)⟩
set_option maxRecDepth 100000 in
theorem V_X8_isEast : rx_YV yX8_isEast := ⟨(rx_g4 58 rfl rfl), (rx_g4 59 rfl rfl)⟩
set_option maxRecDepth 100000 in
theorem Y_X8_coins : rx_Y yX8_coins cX8_coins 2 (some .int) 1 := ⟨(rx_g3 203 rfl rfl), (rx_g1 1 rfl rfl), (by decide +kernel), (by decide +kernel), (by decide +kernel)⟩
set_option maxRecDepth 100000 in
theorem V_X8_coins : rx_YV yX8_coins := ⟨(rx_g3 201 rfl rfl), (rx_g3 202 rfl rfl)⟩
set_option maxRecDepth 100000 in
theorem Y_X8_rags : rx_Y yX8_rags cX8_rags 2 (some .int) 1 := ⟨(rx_g5 5 rfl rfl), (rx_g1 1 rfl rfl), (by decide +kernel), (by decide +kernel), (by decide +kernel)⟩
set_option maxRecDepth 100000 in
theorem V_X8_rags : rx_YV yX8_rags := ⟨(rx_g5 3 rfl rfl), (rx_g5 4 rfl rfl)⟩
set_option maxRecDepth 100000 in
theorem Y_X8_wearer : rx_Y yX8_wearer cX8_wearer 2 (some .int) 1 := ⟨(rx_g5 9 rfl rfl), (rx_g1 1 rfl rfl), (by decide +kernel), (by decide +kernel), (by decide +kernel)⟩
set_option maxRecDepth 100000 in
theorem V_X8_wearer : rx_YV yX8_wearer := ⟨(rx_g5 7 rfl rfl), (rx_g5 8 rfl rfl)⟩
set_option maxRecDepth 100000 in
theorem Y_X8_crossings : rx_Y yX8_crossings cX8_crossings 2 (some .int) 1 := ⟨(rx_g4 237 rfl rfl), (rx_g1 1 rfl rfl), (by decide +kernel), (by decide +kernel), (by decide +kernel)⟩
set_option maxRecDepth 100000 in
theorem V_X8_crossings : rx_YV yX8_crossings := ⟨(rx_g4 235 rfl rfl), (rx_g4 236 rfl rfl)⟩
set_option maxRecDepth 100000 in
theorem Y_X8_royalHolder : rx_Y yX8_royalHolder cX8_royalHolder 2 (some .int) 1 := ⟨(rx_g4 81 rfl rfl), (rx_g1 1 rfl rfl), (by decide +kernel), (by decide +kernel), (by decide +kernel)⟩
set_option maxRecDepth 100000 in
theorem V_X8_royalHolder : rx_YV yX8_royalHolder := ⟨(rx_g4 79 rfl rfl), (rx_g4 80 rfl rfl)⟩
set_option maxRecDepth 100000 in
theorem Y_X8_isRoyalCoinEast : rx_Y yX8_isRoyalCoinEast cX8_isRoyalCoinEast 2 (some .boolean) 1 := ⟨(rx_g4 104 rfl rfl), (rx_g1 1 rfl rfl), (by decide +kernel), (by decide +kernel), (by decide +kernel)⟩
set_option maxRecDepth 100000 in
theorem V_X8_isRoyalCoinEast : rx_YV yX8_isRoyalCoinEast := ⟨(rx_g4 102 rfl rfl), (rx_g4 103 rfl rfl)⟩
set_option maxRecDepth 100000 in
theorem Y_X8_isCounted : rx_Y yX8_isCounted cX8_isCounted 2 (some .boolean) 1 := ⟨(rx_g5 22 rfl rfl), (rx_g1 1 rfl rfl), (by decide +kernel), (by decide +kernel), (by decide +kernel)⟩
set_option maxRecDepth 100000 in
theorem V_X8_isCounted : rx_YV yX8_isCounted := ⟨(rx_g5 20 rfl rfl), (rx_g5 21 rfl rfl)⟩
set_option maxRecDepth 100000 in
theorem Y_X8_royalCoins : rx_Y yX8_royalCoins cX8_royalCoins 2 (some .int) 1 := ⟨(rx_g5 17 rfl rfl), (rx_g1 1 rfl rfl), (by decide +kernel), (by decide +kernel), (by decide +kernel)⟩
set_option maxRecDepth 100000 in
theorem V_X8_royalCoins : rx_YV yX8_royalCoins := ⟨(rx_g5 15 rfl rfl), (rx_g5 16 rfl rfl)⟩
set_option maxRecDepth 100000 in
theorem Y_X8_countedRoyalCoins : rx_Y yX8_countedRoyalCoins cX8_countedRoyalCoins 1 (some .int) 0 := ⟨(rx_g2 85 rfl rfl), (rx_g1 1 rfl rfl), (by decide +kernel), (by decide +kernel), (by decide +kernel)⟩
set_option maxRecDepth 100000 in
theorem V_X8_countedRoyalCoins : rx_YV yX8_countedRoyalCoins := ⟨(rx_g2 83 rfl rfl), (rx_g2 84 rfl rfl)⟩
set_option maxRecDepth 100000 in
theorem Y_X8_queueLength : rx_Y yX8_queueLength cX8_queueLength 2 (some .int) 1 := ⟨(rx_g5 46 rfl rfl), (rx_g1 1 rfl rfl), (by decide +kernel), (by decide +kernel), (by decide +kernel)⟩
set_option maxRecDepth 100000 in
theorem V_X8_queueLength : rx_YV yX8_queueLength := ⟨(rx_g5 44 rfl rfl), (rx_g5 45 rfl rfl)⟩
set_option maxRecDepth 100000 in
theorem Y_X8_queued : rx_Y yX8_queued cX8_queued 3 (some .int) 2 := ⟨(rx_g5 51 rfl rfl), (rx_g1 1 rfl rfl), (by decide +kernel), (by decide +kernel), (by decide +kernel)⟩
set_option maxRecDepth 100000 in
theorem V_X8_queued : rx_YV yX8_queued := ⟨(rx_g5 49 rfl rfl), (rx_g5 50 rfl rfl)⟩
set_option maxRecDepth 100000 in
theorem Y_X8_offer : rx_Y yX8_offer cX8_offer 2 (some .int) 1 := ⟨(rx_g4 132 rfl rfl), (rx_g1 1 rfl rfl), (by decide +kernel), (by decide +kernel), (by decide +kernel)⟩
set_option maxRecDepth 100000 in
theorem V_X8_offer : rx_YV yX8_offer := ⟨(rx_g4 130 rfl rfl), (rx_g4 131 rfl rfl)⟩
set_option maxRecDepth 100000 in
theorem Y_X8_coinGap : rx_Y yX8_coinGap cX8_coinGap 1 (some .int) 0 := ⟨(rx_g2 94 rfl rfl), (rx_g1 1 rfl rfl), (by decide +kernel), (by decide +kernel), (by decide +kernel)⟩
set_option maxRecDepth 100000 in
theorem V_X8_coinGap : rx_YV yX8_coinGap := ⟨(rx_g2 92 rfl rfl), (rx_g2 93 rfl rfl)⟩
set_option maxRecDepth 100000 in
theorem Y_X8_dropCoins : rx_Y yX8_dropCoins cX8_dropCoins 3 (some .int) 2 := ⟨(rx_g3 208 rfl rfl), (rx_g1 1 rfl rfl), (by decide +kernel), (by decide +kernel), (by decide +kernel)⟩
set_option maxRecDepth 100000 in
theorem V_X8_dropCoins : rx_YV yX8_dropCoins := ⟨(rx_g3 206 rfl rfl), (rx_g3 207 rfl rfl)⟩
set_option maxRecDepth 100000 in
theorem Y_X8_pickCoins : rx_Y yX8_pickCoins cX8_pickCoins 3 (some .int) 2 := ⟨(rx_g4 71 rfl rfl), (rx_g1 1 rfl rfl), (by decide +kernel), (by decide +kernel), (by decide +kernel)⟩
set_option maxRecDepth 100000 in
theorem V_X8_pickCoins : rx_YV yX8_pickCoins := ⟨(rx_g4 69 rfl rfl), (rx_g4 70 rfl rfl)⟩
set_option maxRecDepth 100000 in
theorem Y_X8_layRoyalCoin : rx_Y yX8_layRoyalCoin cX8_layRoyalCoin 3 (some .int) 2 := ⟨(rx_g4 90 rfl rfl), (rx_g1 1 rfl rfl), (by decide +kernel), (by decide +kernel), (by decide +kernel)⟩
set_option maxRecDepth 100000 in
theorem V_X8_layRoyalCoin : rx_YV yX8_layRoyalCoin := ⟨(rx_g4 88 rfl rfl), (rx_g4 89 rfl rfl)⟩
set_option maxRecDepth 100000 in
theorem Y_X8_liftRoyalCoin : rx_Y yX8_liftRoyalCoin cX8_liftRoyalCoin 3 (some .int) 2 := ⟨(rx_g4 112 rfl rfl), (rx_g1 1 rfl rfl), (by decide +kernel), (by decide +kernel), (by decide +kernel)⟩
set_option maxRecDepth 100000 in
theorem V_X8_liftRoyalCoin : rx_YV yX8_liftRoyalCoin := ⟨(rx_g4 110 rfl rfl), (rx_g4 111 rfl rfl)⟩
set_option maxRecDepth 100000 in
theorem Y_X8_swapRags : rx_Y yX8_swapRags cX8_swapRags 3 (some .int) 2 := ⟨(rx_g4 122 rfl rfl), (rx_g1 1 rfl rfl), (by decide +kernel), (by decide +kernel), (by decide +kernel)⟩
set_option maxRecDepth 100000 in
theorem V_X8_swapRags : rx_YV yX8_swapRags := ⟨(rx_g4 120 rfl rfl), (rx_g4 121 rfl rfl)⟩
set_option maxRecDepth 100000 in
theorem Y_X8_joinQueue : rx_Y yX8_joinQueue cX8_joinQueue 3 (some .int) 2 := ⟨(rx_g4 137 rfl rfl), (rx_g1 1 rfl rfl), (by decide +kernel), (by decide +kernel), (by decide +kernel)⟩
set_option maxRecDepth 100000 in
theorem V_X8_joinQueue : rx_YV yX8_joinQueue := ⟨(rx_g4 135 rfl rfl), (rx_g4 136 rfl rfl)⟩
set_option maxRecDepth 100000 in
theorem Y_X8_quitQueue : rx_Y yX8_quitQueue cX8_quitQueue 2 (some .int) 1 := ⟨(rx_g4 152 rfl rfl), (rx_g1 1 rfl rfl), (by decide +kernel), (by decide +kernel), (by decide +kernel)⟩
set_option maxRecDepth 100000 in
theorem V_X8_quitQueue : rx_YV yX8_quitQueue := ⟨(rx_g4 150 rfl rfl), (rx_g4 151 rfl rfl)⟩
set_option maxRecDepth 100000 in
theorem Y_X8_setPride : rx_Y yX8_setPride cX8_setPride 3 (some .int) 2 := ⟨(rx_g4 166 rfl rfl), (rx_g1 1 rfl rfl), (by decide +kernel), (by decide +kernel), (by decide +kernel)⟩
set_option maxRecDepth 100000 in
theorem V_X8_setPride : rx_YV yX8_setPride := ⟨(rx_g4 164 rfl rfl), (rx_g4 165 rfl rfl)⟩
set_option maxRecDepth 100000 in
theorem Y_X8_passTurns : rx_Y yX8_passTurns cX8_passTurns 2 (some .int) 1 := ⟨(rx_g4 176 rfl rfl), (rx_g1 1 rfl rfl), (by decide +kernel), (by decide +kernel), (by decide +kernel)⟩
set_option maxRecDepth 100000 in
theorem V_X8_passTurns : rx_YV yX8_passTurns := ⟨(rx_g4 174 rfl rfl), (rx_g4 175 rfl rfl)⟩
set_option maxRecDepth 100000 in
theorem Y_X8_requirePerson : rx_Y yX8_requirePerson cX8_requirePerson 2 none 1 := ⟨(rx_g3 181 rfl rfl), (rx_g1 1 rfl rfl), (by decide +kernel), (by decide +kernel), (by decide +kernel)⟩
set_option maxRecDepth 100000 in
theorem V_X8_requirePerson : rx_YV yX8_requirePerson := ⟨(rx_g3 180 rfl rfl), (rx_g0 33 rfl rfl)⟩
set_option maxRecDepth 100000 in
theorem Y_X8_requireKing : rx_Y yX8_requireKing cX8_requireKing 2 none 1 := ⟨(rx_g4 85 rfl rfl), (rx_g1 1 rfl rfl), (by decide +kernel), (by decide +kernel), (by decide +kernel)⟩
set_option maxRecDepth 100000 in
theorem V_X8_requireKing : rx_YV yX8_requireKing := ⟨(rx_g4 84 rfl rfl), (rx_g0 48 rfl rfl)⟩
set_option maxRecDepth 100000 in
theorem Y_X8_requireLength : rx_Y yX8_requireLength cX8_requireLength 2 none 1 := ⟨(rx_g2 225 rfl rfl), (rx_g1 1 rfl rfl), (by decide +kernel), (by decide +kernel), (by decide +kernel)⟩
set_option maxRecDepth 100000 in
theorem V_X8_requireLength : rx_YV yX8_requireLength := ⟨(rx_g2 224 rfl rfl), (rx_g0 15 rfl rfl)⟩
set_option maxRecDepth 100000 in
theorem Y_X8_allow : rx_Y yX8_allow cX8_allow 5 none 3 := ⟨(rx_g3 214 rfl rfl), (rx_g1 1 rfl rfl), (by decide +kernel), (by decide +kernel), (by decide +kernel)⟩
set_option maxRecDepth 100000 in
theorem V_X8_allow : rx_YV yX8_allow := ⟨(rx_g3 213 rfl rfl), (rx_g0 34 rfl rfl)⟩
set_option maxRecDepth 100000 in
theorem Y_X8_bankOf : rx_Y yX8_bankOf cX8_bankOf 1 (some .int) 1 := ⟨(rx_g4 67 rfl rfl), (rx_g1 1 rfl rfl), (by decide +kernel), (by decide +kernel), (by decide +kernel)⟩
set_option maxRecDepth 100000 in
theorem S_X8_bankOf : Cond.static yX8_bankOf ∈ rx_good := (rx_g4 66 rfl rfl)
set_option maxRecDepth 100000 in
theorem Y_X8_at : rx_Y yX8_at cX8_at 2 (some .int) 2 := ⟨(rx_g2 48 rfl rfl), (rx_g1 1 rfl rfl), (by decide +kernel), (by decide +kernel), (by decide +kernel)⟩
set_option maxRecDepth 100000 in
theorem S_X8_at : Cond.static yX8_at ∈ rx_good := (rx_g2 47 rfl rfl)
set_option maxRecDepth 100000 in
theorem Y_X8_put : rx_Y yX8_put cX8_put 3 none 3 := ⟨(rx_g2 19 rfl rfl), (rx_g1 1 rfl rfl), (by decide +kernel), (by decide +kernel), (by decide +kernel)⟩
set_option maxRecDepth 100000 in
theorem S_X8_put : Cond.static yX8_put ∈ rx_good := (rx_g2 18 rfl rfl)
set_option maxRecDepth 100000 in
theorem Y_X8_add : rx_Y yX8_add cX8_add 3 none 3 := ⟨(rx_g4 55 rfl rfl), (rx_g1 1 rfl rfl), (by decide +kernel), (by decide +kernel), (by decide +kernel)⟩
set_option maxRecDepth 100000 in
theorem S_X8_add : Cond.static yX8_add ∈ rx_good := (rx_g4 54 rfl rfl)
set_option maxRecDepth 100000 in
theorem Y_X8_copyRow : rx_Y yX8_copyRow cX8_copyRow 2 none 2 := ⟨(rx_g2 31 rfl rfl), (rx_g1 1 rfl rfl), (by decide +kernel), (by decide +kernel), (by decide +kernel)⟩
set_option maxRecDepth 100000 in
theorem S_X8_copyRow : Cond.static yX8_copyRow ∈ rx_good := (rx_g2 30 rfl rfl)
set_option maxRecDepth 100000 in
theorem Y_X8_readHeader : rx_Y yX8_readHeader cX8_readHeader 6 none 2 := ⟨(rx_g3 83 rfl rfl), (rx_g1 1 rfl rfl), (by decide +kernel), (by decide +kernel), (by decide +kernel)⟩
set_option maxRecDepth 100000 in
theorem S_X8_readHeader : Cond.static yX8_readHeader ∈ rx_good := (rx_g3 82 rfl rfl)
set_option maxRecDepth 100000 in
theorem Y_X8_readPeople : rx_Y yX8_readPeople cX8_readPeople 3 none 2 := ⟨(rx_g3 109 rfl rfl), (rx_g1 1 rfl rfl), (by decide +kernel), (by decide +kernel), (by decide +kernel)⟩
set_option maxRecDepth 100000 in
theorem S_X8_readPeople : Cond.static yX8_readPeople ∈ rx_good := (rx_g3 108 rfl rfl)
set_option maxRecDepth 100000 in
theorem Y_X8_isAtPerson : rx_Y yX8_isAtPerson cX8_isAtPerson 1 (some .boolean) 1 := ⟨(rx_g3 112 rfl rfl), (rx_g1 1 rfl rfl), (by decide +kernel), (by decide +kernel), (by decide +kernel)⟩
set_option maxRecDepth 100000 in
theorem S_X8_isAtPerson : Cond.static yX8_isAtPerson ∈ rx_good := (rx_g3 111 rfl rfl)
set_option maxRecDepth 100000 in
theorem Y_X8_readPerson : rx_Y yX8_readPerson cX8_readPerson 7 none 2 := ⟨(rx_g3 119 rfl rfl), (rx_g1 1 rfl rfl), (by decide +kernel), (by decide +kernel), (by decide +kernel)⟩
set_option maxRecDepth 100000 in
theorem S_X8_readPerson : Cond.static yX8_readPerson ∈ rx_good := (rx_g3 118 rfl rfl)
set_option maxRecDepth 100000 in
theorem Y_X8_readBridges : rx_Y yX8_readBridges cX8_readBridges 3 none 2 := ⟨(rx_g3 128 rfl rfl), (rx_g1 1 rfl rfl), (by decide +kernel), (by decide +kernel), (by decide +kernel)⟩
set_option maxRecDepth 100000 in
theorem S_X8_readBridges : Cond.static yX8_readBridges ∈ rx_good := (rx_g3 127 rfl rfl)
set_option maxRecDepth 100000 in
theorem Y_X8_readBridge : rx_Y yX8_readBridge cX8_readBridge 5 none 2 := ⟨(rx_g3 132 rfl rfl), (rx_g1 1 rfl rfl), (by decide +kernel), (by decide +kernel), (by decide +kernel)⟩
set_option maxRecDepth 100000 in
theorem S_X8_readBridge : Cond.static yX8_readBridge ∈ rx_good := (rx_g3 131 rfl rfl)
set_option maxRecDepth 100000 in
theorem Y_Jx29ce0_ordinal_8abf5 : rx_Y yJx29ce0_ordinal_8abf5 cJx29ce0_ordinal_8abf5 1 (some .int) 0 := ⟨(rx_g3 231 rfl rfl), (rx_g1 19 rfl rfl), (by decide +kernel), (by decide +kernel), (by decide +kernel)⟩
set_option maxRecDepth 100000 in
theorem Y_J9_abs_0f7a4 : rx_Y yJ9_abs_0f7a4 cJ9_abs_0f7a4 1 (some .int) 1 := ⟨(rx_g2 105 rfl rfl), (rx_g1 8 rfl rfl), (by decide +kernel), (by decide +kernel), (by decide +kernel)⟩
set_option maxRecDepth 100000 in
theorem S_J9_abs_0f7a4 : Cond.static yJ9_abs_0f7a4 ∈ rx_good := (rx_g2 104 rfl rfl)
set_option maxRecDepth 100000 in
theorem Y_J9_max_7cf53 : rx_Y yJ9_max_7cf53 cJ9_max_7cf53 2 (some .int) 2 := ⟨(rx_g4 224 rfl rfl), (rx_g1 8 rfl rfl), (by decide +kernel), (by decide +kernel), (by decide +kernel)⟩
set_option maxRecDepth 100000 in
theorem S_J9_max_7cf53 : Cond.static yJ9_max_7cf53 ∈ rx_good := (rx_g4 223 rfl rfl)
set_option maxRecDepth 100000 in
theorem Y_J9_min_7cf53 : rx_Y yJ9_min_7cf53 cJ9_min_7cf53 2 (some .int) 2 := ⟨(rx_g2 34 rfl rfl), (rx_g1 8 rfl rfl), (by decide +kernel), (by decide +kernel), (by decide +kernel)⟩
set_option maxRecDepth 100000 in
theorem S_J9_min_7cf53 : Cond.static yJ9_min_7cf53 ∈ rx_good := (rx_g2 33 rfl rfl)
set_option maxRecDepth 100000 in
theorem Y_J0_length_8abf5 : rx_Y yJ0_length_8abf5 cJ0_length_8abf5 1 (some .int) 0 := ⟨(rx_g2 144 rfl rfl), (rx_g1 10 rfl rfl), (by decide +kernel), (by decide +kernel), (by decide +kernel)⟩
set_option maxRecDepth 100000 in
theorem V_J0_length_8abf5 : rx_YV yJ0_length_8abf5 := ⟨(rx_g2 142 rfl rfl), (rx_g2 143 rfl rfl)⟩
set_option maxRecDepth 100000 in
theorem Y_J0_charAt_5068e : rx_Y yJ0_charAt_5068e cJ0_charAt_5068e 2 (some .char) 1 := ⟨(rx_g2 154 rfl rfl), (rx_g1 10 rfl rfl), (by decide +kernel), (by decide +kernel), (by decide +kernel)⟩
set_option maxRecDepth 100000 in
theorem V_J0_charAt_5068e : rx_YV yJ0_charAt_5068e := ⟨(rx_g2 152 rfl rfl), (rx_g2 153 rfl rfl)⟩
set_option maxRecDepth 100000 in
theorem Y_J0_coder_7d493 : rx_Y yJ0_coder_7d493 cJ0_coder_7d493 1 (some .byte) 0 := ⟨(rx_g2 148 rfl rfl), (rx_g1 10 rfl rfl), (by decide +kernel), (by decide +kernel), (by decide +kernel)⟩
set_option maxRecDepth 100000 in
theorem V_J0_coder_7d493 : rx_YV yJ0_coder_7d493 := ⟨(rx_g2 146 rfl rfl), (rx_g2 147 rfl rfl)⟩
set_option maxRecDepth 100000 in
theorem Y_J0_isLatin1_aae02 : rx_Y yJ0_isLatin1_aae02 cJ0_isLatin1_aae02 1 (some .boolean) 0 := ⟨(rx_g2 158 rfl rfl), (rx_g1 10 rfl rfl), (by decide +kernel), (by decide +kernel), (by decide +kernel)⟩
set_option maxRecDepth 100000 in
theorem V_J0_isLatin1_aae02 : rx_YV yJ0_isLatin1_aae02 := ⟨(rx_g2 156 rfl rfl), (rx_g2 157 rfl rfl)⟩
set_option maxRecDepth 100000 in
theorem Y_J0_checkIndex_df160 : rx_Y yJ0_checkIndex_df160 cJ0_checkIndex_df160 2 none 2 := ⟨(rx_g2 164 rfl rfl), (rx_g1 10 rfl rfl), (by decide +kernel), (by decide +kernel), (by decide +kernel)⟩
set_option maxRecDepth 100000 in
theorem S_J0_checkIndex_df160 : Cond.static yJ0_checkIndex_df160 ∈ rx_good := (rx_g2 163 rfl rfl)
set_option maxRecDepth 100000 in
theorem Y_J1_charAt_3b067 : rx_Y yJ1_charAt_3b067 cJ1_charAt_3b067 2 (some .char) 2 := ⟨(rx_g2 161 rfl rfl), (rx_g1 11 rfl rfl), (by decide +kernel), (by decide +kernel), (by decide +kernel)⟩
set_option maxRecDepth 100000 in
theorem S_J1_charAt_3b067 : Cond.static yJ1_charAt_3b067 ∈ rx_good := (rx_g2 160 rfl rfl)
set_option maxRecDepth 100000 in
theorem Y_J2_getChar_3b067 : rx_Y yJ2_getChar_3b067 cJ2_getChar_3b067 2 (some .char) 2 := ⟨(rx_g2 182 rfl rfl), (rx_g1 13 rfl rfl), (by decide +kernel), (by decide +kernel), (by decide +kernel)⟩
set_option maxRecDepth 100000 in
theorem S_J2_getChar_3b067 : Cond.static yJ2_getChar_3b067 ∈ rx_good := (rx_g2 181 rfl rfl)
set_option maxRecDepth 100000 in
theorem Y_J2_length_9d52b : rx_Y yJ2_length_9d52b cJ2_length_9d52b 1 (some .int) 1 := ⟨(rx_g2 178 rfl rfl), (rx_g1 13 rfl rfl), (by decide +kernel), (by decide +kernel), (by decide +kernel)⟩
set_option maxRecDepth 100000 in
theorem S_J2_length_9d52b : Cond.static yJ2_length_9d52b ∈ rx_good := (rx_g2 177 rfl rfl)
set_option maxRecDepth 100000 in
theorem Y_J2_charAt_3b067 : rx_Y yJ2_charAt_3b067 cJ2_charAt_3b067 2 (some .char) 2 := ⟨(rx_g2 172 rfl rfl), (rx_g1 13 rfl rfl), (by decide +kernel), (by decide +kernel), (by decide +kernel)⟩
set_option maxRecDepth 100000 in
theorem S_J2_charAt_3b067 : Cond.static yJ2_charAt_3b067 ∈ rx_good := (rx_g2 171 rfl rfl)
set_option maxRecDepth 100000 in
theorem Y_J2_checkIndex_2214a : rx_Y yJ2_checkIndex_2214a cJ2_checkIndex_2214a 2 none 2 := ⟨(rx_g2 175 rfl rfl), (rx_g1 13 rfl rfl), (by decide +kernel), (by decide +kernel), (by decide +kernel)⟩
set_option maxRecDepth 100000 in
theorem S_J2_checkIndex_2214a : Cond.static yJ2_checkIndex_2214a ∈ rx_good := (rx_g2 174 rfl rfl)
set_option maxRecDepth 100000 in
theorem Y_J3_checkIndex_8e157 : rx_Y yJ3_checkIndex_8e157 cJ3_checkIndex_8e157 3 (some .int) 3 := ⟨(rx_g2 169 rfl rfl), (rx_g1 12 rfl rfl), (by decide +kernel), (by decide +kernel), (by decide +kernel)⟩
set_option maxRecDepth 100000 in
theorem S_J3_checkIndex_8e157 : Cond.static yJ3_checkIndex_8e157 ∈ rx_good := (rx_g2 168 rfl rfl)
set_option maxRecDepth 100000 in
theorem Y_L_init : rx_Y yL_init cL_init 1 none 0 := ⟨(rx_g2 110 rfl rfl), (rx_g1 0 rfl rfl), (by decide +kernel), (by decide +kernel), (by decide +kernel)⟩
set_option maxRecDepth 100000 in
theorem I_L_init : Cond.instanceMethod yL_init ∈ rx_good := (rx_g2 109 rfl rfl)
set_option maxRecDepth 100000 in
theorem Y_L_writes : rx_Y yL_writes cL_writes 3 none 1 := ⟨(rx_g2 140 rfl rfl), (rx_g1 0 rfl rfl), (by decide +kernel), (by decide +kernel), (by decide +kernel)⟩
set_option maxRecDepth 100000 in
theorem V_L_writes : rx_YV yL_writes := ⟨(rx_g2 139 rfl rfl), (rx_g0 10 rfl rfl)⟩
set_option maxRecDepth 100000 in
theorem Y_L_sign : rx_Y yL_sign cL_sign 2 none 1 := ⟨(rx_g2 192 rfl rfl), (rx_g1 0 rfl rfl), (by decide +kernel), (by decide +kernel), (by decide +kernel)⟩
set_option maxRecDepth 100000 in
theorem V_L_sign : rx_YV yL_sign := ⟨(rx_g2 191 rfl rfl), (rx_g0 11 rfl rfl)⟩
set_option maxRecDepth 100000 in
theorem Y_L_number : rx_Y yL_number cL_number 3 none 1 := ⟨(rx_g2 196 rfl rfl), (rx_g1 0 rfl rfl), (by decide +kernel), (by decide +kernel), (by decide +kernel)⟩
set_option maxRecDepth 100000 in
theorem V_L_number : rx_YV yL_number := ⟨(rx_g2 195 rfl rfl), (rx_g0 12 rfl rfl)⟩
set_option maxRecDepth 100000 in
theorem Y_L_cell : rx_Y yL_cell cL_cell 2 (some .int) 2 := ⟨(rx_g2 130 rfl rfl), (rx_g1 0 rfl rfl), (by decide +kernel), (by decide +kernel), (by decide +kernel)⟩
set_option maxRecDepth 100000 in
theorem S_L_cell : Cond.static yL_cell ∈ rx_good := (rx_g2 129 rfl rfl)
set_option maxRecDepth 100000 in
theorem Y_L_feeds : rx_Y yL_feeds cL_feeds 4 (some .int) 1 := ⟨(rx_g2 208 rfl rfl), (rx_g1 0 rfl rfl), (by decide +kernel), (by decide +kernel), (by decide +kernel)⟩
set_option maxRecDepth 100000 in
theorem V_L_feeds : rx_YV yL_feeds := ⟨(rx_g2 207 rfl rfl), (rx_g0 13 rfl rfl)⟩
set_option maxRecDepth 100000 in
theorem Y_L_loads : rx_Y yL_loads cL_loads 7 (some .boolean) 2 := ⟨(rx_g2 135 rfl rfl), (rx_g1 0 rfl rfl), (by decide +kernel), (by decide +kernel), (by decide +kernel)⟩
set_option maxRecDepth 100000 in
theorem V_L_loads : rx_YV yL_loads := ⟨(rx_g2 134 rfl rfl), (rx_g0 9 rfl rfl)⟩
set_option maxRecDepth 100000 in
theorem Y_L_king : rx_Y yL_king cL_king 4 (some .int) 2 := ⟨(rx_g3 173 rfl rfl), (rx_g1 0 rfl rfl), (by decide +kernel), (by decide +kernel), (by decide +kernel)⟩
set_option maxRecDepth 100000 in
theorem V_L_king : rx_YV yL_king := ⟨(rx_g3 172 rfl rfl), (rx_g0 32 rfl rfl)⟩
set_option maxRecDepth 100000 in
theorem Y_L_acts : rx_Y yL_acts cL_acts 7 (some .boolean) 2 := ⟨(rx_g3 169 rfl rfl), (rx_g1 0 rfl rfl), (by decide +kernel), (by decide +kernel), (by decide +kernel)⟩
set_option maxRecDepth 100000 in
theorem V_L_acts : rx_YV yL_acts := ⟨(rx_g3 168 rfl rfl), (rx_g0 31 rfl rfl)⟩
set_option maxRecDepth 100000 in
theorem Y_L_coins : rx_Y yL_coins cL_coins 4 (some .int) 1 := ⟨(rx_g4 229 rfl rfl), (rx_g1 0 rfl rfl), (by decide +kernel), (by decide +kernel), (by decide +kernel)⟩
set_option maxRecDepth 100000 in
theorem V_L_coins : rx_YV yL_coins := ⟨(rx_g4 228 rfl rfl), (rx_g0 69 rfl rfl)⟩
set_option maxRecDepth 100000 in
theorem Y_L_crossed : rx_Y yL_crossed cL_crossed 4 (some .int) 1 := ⟨(rx_g4 233 rfl rfl), (rx_g1 0 rfl rfl), (by decide +kernel), (by decide +kernel), (by decide +kernel)⟩
set_option maxRecDepth 100000 in
theorem V_L_crossed : rx_YV yL_crossed := ⟨(rx_g4 232 rfl rfl), (rx_g0 70 rfl rfl)⟩
set_option maxRecDepth 100000 in
theorem Y_L_isWell : rx_Y yL_isWell cL_isWell 8 (some .boolean) 1 := ⟨(rx_g5 1 rfl rfl), (rx_g1 0 rfl rfl), (by decide +kernel), (by decide +kernel), (by decide +kernel)⟩
set_option maxRecDepth 100000 in
theorem V_L_isWell : rx_YV yL_isWell := ⟨(rx_g5 0 rfl rfl), (rx_g0 71 rfl rfl)⟩
set_option maxRecDepth 100000 in
theorem Y_L_isOrdered : rx_Y yL_isOrdered cL_isOrdered 6 (some .boolean) 2 := ⟨(rx_g5 42 rfl rfl), (rx_g1 0 rfl rfl), (by decide +kernel), (by decide +kernel), (by decide +kernel)⟩
set_option maxRecDepth 100000 in
theorem V_L_isOrdered : rx_YV yL_isOrdered := ⟨(rx_g5 41 rfl rfl), (rx_g0 75 rfl rfl)⟩
set_option maxRecDepth 100000 in
theorem m_L_149 : Cond.methodLink RL 149 yX8_init ∈ rx_good := (rx_g1 25 rfl rfl)
set_option maxRecDepth 100000 in
theorem m_X8_9 : Cond.methodLinkNest RX8 9 yX6_init "BeggarKings" ∈ rx_nest := (rx_n1 33 rfl rfl)
set_option maxRecDepth 100000 in
theorem m_X8_18 : Cond.methodLinkNest RX8 18 yX5_init "BeggarKings" ∈ rx_nest := (rx_n1 71 rfl rfl)
set_option maxRecDepth 100000 in
theorem m_X8_28 : Cond.methodLinkNest RX8 28 yX2_init "BeggarKings" ∈ rx_nest := (rx_n1 132 rfl rfl)
set_option maxRecDepth 100000 in
theorem m_X2_41 : Cond.methodLinkNest RX2 41 yX3_init "BeggarKings" ∈ rx_nest := (rx_n1 138 rfl rfl)
set_option maxRecDepth 100000 in
theorem m_X8_43 : Cond.methodLinkNest RX8 43 yX1_init "BeggarKings" ∈ rx_nest := (rx_n1 212 rfl rfl)
set_option maxRecDepth 100000 in
theorem m_X1_17 : Cond.methodLinkNest RX1 17 yX2_init "BeggarKings" ∈ rx_nest := (rx_n1 218 rfl rfl)
set_option maxRecDepth 100000 in
theorem m_X8_50 : Cond.methodLinkNest RX8 50 yX4_init "BeggarKings" ∈ rx_nest := (rx_n1 231 rfl rfl)
set_option maxRecDepth 100000 in
theorem m_X8_59 : Cond.methodLinkNest RX8 59 yX5_begin "BeggarKings" ∈ rx_nest := (rx_n2 9 rfl rfl)
set_option maxRecDepth 100000 in
theorem m_X8_63 : Cond.methodLinkNest RX8 63 yX5_addPerson "BeggarKings" ∈ rx_nest := (rx_n2 13 rfl rfl)
set_option maxRecDepth 100000 in
theorem m_X5_55 : Cond.methodLinkNest RX5 55 yX8_put "BeggarKings" ∈ rx_nest := (rx_n2 17 rfl rfl)
set_option maxRecDepth 100000 in
theorem m_X8_67 : Cond.methodLinkNest RX8 67 yX5_addBridge "BeggarKings" ∈ rx_nest := (rx_n2 20 rfl rfl)
set_option maxRecDepth 100000 in
theorem m_X8_71 : Cond.methodLinkNest RX8 71 yX2_begin "BeggarKings" ∈ rx_nest := (rx_n2 24 rfl rfl)
set_option maxRecDepth 100000 in
theorem m_X2_66 : Cond.methodLinkNest RX2 66 yX8_put "BeggarKings" ∈ rx_nest := (rx_n2 28 rfl rfl)
set_option maxRecDepth 100000 in
theorem m_X2_74 : Cond.methodLinkNest RX2 74 yX8_copyRow "BeggarKings" ∈ rx_nest := (rx_n2 29 rfl rfl)
set_option maxRecDepth 100000 in
theorem m_X8_408 : Cond.methodLink RX8 408 yJ9_min_7cf53 ∈ rx_good := (rx_g2 32 rfl rfl)
set_option maxRecDepth 100000 in
theorem m_X2_80 : Cond.methodLinkNest RX2 80 yX5_hasKing "BeggarKings" ∈ rx_nest := (rx_n2 38 rfl rfl)
set_option maxRecDepth 100000 in
theorem m_X5_63 : Cond.methodLink RX5 63 yX5_hasPerson ∈ rx_good := (rx_g2 42 rfl rfl)
set_option maxRecDepth 100000 in
theorem m_X5_67 : Cond.methodLinkNest RX5 67 yX8_at "BeggarKings" ∈ rx_nest := (rx_n2 46 rfl rfl)
set_option maxRecDepth 100000 in
theorem m_L_156 : Cond.methodLink RL 156 yX8_countedRoyalCoins ∈ rx_good := (rx_g2 82 rfl rfl)
set_option maxRecDepth 100000 in
theorem m_X8_226 : Cond.methodLinkNest RX8 226 yX2_countedInAll "BeggarKings" ∈ rx_nest := (rx_n2 86 rfl rfl)
set_option maxRecDepth 100000 in
theorem m_X2_91 : Cond.methodLinkNest RX2 91 yX8_at "BeggarKings" ∈ rx_nest := (rx_n2 90 rfl rfl)
set_option maxRecDepth 100000 in
theorem m_L_166 : Cond.methodLink RL 166 yX8_coinGap ∈ rx_good := (rx_g2 91 rfl rfl)
set_option maxRecDepth 100000 in
theorem m_X8_279 : Cond.methodLinkNest RX8 279 yX2_coinsInAll "BeggarKings" ∈ rx_nest := (rx_n2 95 rfl rfl)
set_option maxRecDepth 100000 in
theorem m_X8_282 : Cond.methodLinkNest RX8 282 yX5_coinsInAll "BeggarKings" ∈ rx_nest := (rx_n2 99 rfl rfl)
set_option maxRecDepth 100000 in
theorem m_X8_283 : Cond.methodLink RX8 283 yJ9_abs_0f7a4 ∈ rx_good := (rx_g2 103 rfl rfl)
set_option maxRecDepth 100000 in
theorem m_L_148 : Cond.methodLink RL 148 yL_init ∈ rx_good := (rx_g2 108 rfl rfl)
set_option maxRecDepth 100000 in
theorem m_L_41 : Cond.methodLink RL 41 yL_cell ∈ rx_good := (rx_g2 128 rfl rfl)
set_option maxRecDepth 100000 in
theorem m_L_150 : Cond.methodLink RL 150 yL_loads ∈ rx_good := (rx_g2 132 rfl rfl)
set_option maxRecDepth 100000 in
theorem m_L_53 : Cond.methodLink RL 53 yL_writes ∈ rx_good := (rx_g2 137 rfl rfl)
set_option maxRecDepth 100000 in
theorem m_L_16 : Cond.methodLink RL 16 yJ0_length_8abf5 ∈ rx_good := (rx_g2 141 rfl rfl)
set_option maxRecDepth 100000 in
theorem m_J0_335 : Cond.methodLink RJ0 335 yJ0_coder_7d493 ∈ rx_good := (rx_g2 145 rfl rfl)
set_option maxRecDepth 100000 in
theorem m_L_22 : Cond.methodLink RL 22 yJ0_charAt_5068e ∈ rx_good := (rx_g2 151 rfl rfl)
set_option maxRecDepth 100000 in
theorem m_J0_492 : Cond.methodLink RJ0 492 yJ0_isLatin1_aae02 ∈ rx_good := (rx_g2 155 rfl rfl)
set_option maxRecDepth 100000 in
theorem m_J0_495 : Cond.methodLink RJ0 495 yJ1_charAt_3b067 ∈ rx_good := (rx_g2 159 rfl rfl)
set_option maxRecDepth 100000 in
theorem m_J1_9 : Cond.methodLink RJ1 9 yJ0_checkIndex_df160 ∈ rx_good := (rx_g2 162 rfl rfl)
set_option maxRecDepth 100000 in
theorem m_J0_1059 : Cond.methodLink RJ0 1059 yJ3_checkIndex_8e157 ∈ rx_good := (rx_g2 167 rfl rfl)
set_option maxRecDepth 100000 in
theorem m_J0_498 : Cond.methodLink RJ0 498 yJ2_charAt_3b067 ∈ rx_good := (rx_g2 170 rfl rfl)
set_option maxRecDepth 100000 in
theorem m_J2_67 : Cond.methodLink RJ2 67 yJ2_checkIndex_2214a ∈ rx_good := (rx_g2 173 rfl rfl)
set_option maxRecDepth 100000 in
theorem m_J2_48 : Cond.methodLink RJ2 48 yJ2_length_9d52b ∈ rx_good := (rx_g2 176 rfl rfl)
set_option maxRecDepth 100000 in
theorem m_J2_414 : Cond.methodLink RJ2 414 yJ0_checkIndex_df160 ∈ rx_good := (rx_g2 179 rfl rfl)
set_option maxRecDepth 100000 in
theorem m_J2_71 : Cond.methodLink RJ2 71 yJ2_getChar_3b067 ∈ rx_good := (rx_g2 180 rfl rfl)
set_option maxRecDepth 100000 in
theorem m_L_26 : Cond.methodLink RL 26 yL_sign ∈ rx_good := (rx_g2 189 rfl rfl)
set_option maxRecDepth 100000 in
theorem m_L_57 : Cond.methodLink RL 57 yL_number ∈ rx_good := (rx_g2 193 rfl rfl)
set_option maxRecDepth 100000 in
theorem m_L_74 : Cond.methodLink RL 74 yL_feeds ∈ rx_good := (rx_g2 205 rfl rfl)
set_option maxRecDepth 100000 in
theorem m_L_35 : Cond.methodLink RL 35 yX8_appendText ∈ rx_good := (rx_g2 209 rfl rfl)
set_option maxRecDepth 100000 in
theorem m_X8_77 : Cond.methodLinkNest RX8 77 yX6_appendWord "BeggarKings" ∈ rx_nest := (rx_n2 213 rfl rfl)
set_option maxRecDepth 100000 in
theorem m_X6_22 : Cond.methodLinkNest RX6 22 yX8_put "BeggarKings" ∈ rx_nest := (rx_n2 217 rfl rfl)
set_option maxRecDepth 100000 in
theorem m_L_78 : Cond.methodLink RL 78 yX8_loadGame ∈ rx_good := (rx_g2 218 rfl rfl)
set_option maxRecDepth 100000 in
theorem m_X8_81 : Cond.methodLink RX8 81 yX8_requireLength ∈ rx_good := (rx_g2 222 rfl rfl)
set_option maxRecDepth 100000 in
theorem m_X8_84 : Cond.methodLinkNest RX8 84 yX6_open "BeggarKings" ∈ rx_nest := (rx_n3 54 rfl rfl)
set_option maxRecDepth 100000 in
theorem m_X6_35 : Cond.methodLink RX6 35 yX6_advance ∈ rx_good := (rx_g3 58 rfl rfl)
set_option maxRecDepth 100000 in
theorem m_X6_50 : Cond.methodLinkNest RX6 50 yX8_at "BeggarKings" ∈ rx_nest := (rx_n3 62 rfl rfl)
set_option maxRecDepth 100000 in
theorem m_X6_69 : Cond.methodLink RX6 69 yX6_isBlank ∈ rx_good := (rx_g3 63 rfl rfl)
set_option maxRecDepth 100000 in
theorem m_X6_73 : Cond.methodLink RX6 73 yX6_isLetter ∈ rx_good := (rx_g3 66 rfl rfl)
set_option maxRecDepth 100000 in
theorem m_X6_76 : Cond.methodLink RX6 76 yX6_scanWord ∈ rx_good := (rx_g3 69 rfl rfl)
set_option maxRecDepth 100000 in
theorem m_X6_79 : Cond.methodLink RX6 79 yX6_isDigit ∈ rx_good := (rx_g3 73 rfl rfl)
set_option maxRecDepth 100000 in
theorem m_X6_82 : Cond.methodLink RX6 82 yX6_scanNumber ∈ rx_good := (rx_g3 76 rfl rfl)
set_option maxRecDepth 100000 in
theorem m_X6_85 : Cond.methodLink RX6 85 yJ9_min_7cf53 ∈ rx_good := (rx_g3 80 rfl rfl)
set_option maxRecDepth 100000 in
theorem m_X8_87 : Cond.methodLink RX8 87 yX8_readHeader ∈ rx_good := (rx_g3 81 rfl rfl)
set_option maxRecDepth 100000 in
theorem m_X8_419 : Cond.methodLinkNest RX8 419 yX6_takeWord "BeggarKings" ∈ rx_nest := (rx_n3 85 rfl rfl)
set_option maxRecDepth 100000 in
theorem m_X6_58 : Cond.methodLink RX6 58 yX6_isAtWord ∈ rx_good := (rx_g3 89 rfl rfl)
set_option maxRecDepth 100000 in
theorem m_X6_44 : Cond.methodLink RX6 44 yJ0_length_8abf5 ∈ rx_good := (rx_g3 93 rfl rfl)
set_option maxRecDepth 100000 in
theorem m_X6_54 : Cond.methodLink RX6 54 yJ0_charAt_5068e ∈ rx_good := (rx_g3 94 rfl rfl)
set_option maxRecDepth 100000 in
theorem m_X6_62 : Cond.methodLink RX6 62 yX6_fail ∈ rx_good := (rx_g3 95 rfl rfl)
set_option maxRecDepth 100000 in
theorem m_X8_422 : Cond.methodLinkNest RX8 422 yX6_takeNumber "BeggarKings" ∈ rx_nest := (rx_n3 99 rfl rfl)
set_option maxRecDepth 100000 in
theorem m_X8_425 : Cond.methodLinkNest RX8 425 yX6_takeSemicolon "BeggarKings" ∈ rx_nest := (rx_n3 103 rfl rfl)
set_option maxRecDepth 100000 in
theorem m_X8_91 : Cond.methodLink RX8 91 yX8_readPeople ∈ rx_good := (rx_g3 107 rfl rfl)
set_option maxRecDepth 100000 in
theorem m_X8_428 : Cond.methodLink RX8 428 yX8_isAtPerson ∈ rx_good := (rx_g3 110 rfl rfl)
set_option maxRecDepth 100000 in
theorem m_X8_440 : Cond.methodLinkNest RX8 440 yX6_isAtWord "BeggarKings" ∈ rx_nest := (rx_n3 114 rfl rfl)
set_option maxRecDepth 100000 in
theorem m_X8_432 : Cond.methodLinkNest RX8 432 yX6_fail "BeggarKings" ∈ rx_nest := (rx_n3 116 rfl rfl)
set_option maxRecDepth 100000 in
theorem m_X8_435 : Cond.methodLink RX8 435 yX8_readPerson ∈ rx_good := (rx_g3 117 rfl rfl)
set_option maxRecDepth 100000 in
theorem m_X8_446 : Cond.methodLinkNest RX8 446 yX6_takeEither "BeggarKings" ∈ rx_nest := (rx_n3 120 rfl rfl)
set_option maxRecDepth 100000 in
theorem m_X8_94 : Cond.methodLink RX8 94 yX8_readBridges ∈ rx_good := (rx_g3 126 rfl rfl)
set_option maxRecDepth 100000 in
theorem m_X8_456 : Cond.methodLink RX8 456 yX8_readBridge ∈ rx_good := (rx_g3 130 rfl rfl)
set_option maxRecDepth 100000 in
theorem m_X8_459 : Cond.methodLinkNest RX8 459 yX6_isAtEnd "BeggarKings" ∈ rx_nest := (rx_n3 133 rfl rfl)
set_option maxRecDepth 100000 in
theorem m_X8_97 : Cond.methodLinkNest RX8 97 yX6_hasFailed "BeggarKings" ∈ rx_nest := (rx_n3 137 rfl rfl)
set_option maxRecDepth 100000 in
theorem m_X8_101 : Cond.methodLinkNest RX8 101 yX5_copyFrom "BeggarKings" ∈ rx_nest := (rx_n3 141 rfl rfl)
set_option maxRecDepth 100000 in
theorem m_X5_59 : Cond.methodLinkNest RX5 59 yX8_copyRow "BeggarKings" ∈ rx_nest := (rx_n3 145 rfl rfl)
set_option maxRecDepth 100000 in
theorem m_X8_104 : Cond.methodLinkNest RX8 104 yX1_clear "BeggarKings" ∈ rx_nest := (rx_n3 146 rfl rfl)
set_option maxRecDepth 100000 in
theorem m_L_82 : Cond.methodLink RL 82 yX8_errorCode ∈ rx_good := (rx_g3 150 rfl rfl)
set_option maxRecDepth 100000 in
theorem m_L_85 : Cond.methodLink RL 85 yX8_errorOffset ∈ rx_good := (rx_g3 154 rfl rfl)
set_option maxRecDepth 100000 in
theorem m_L_88 : Cond.methodLink RL 88 yX8_turn ∈ rx_good := (rx_g3 158 rfl rfl)
set_option maxRecDepth 100000 in
theorem m_L_91 : Cond.methodLink RL 91 yX8_tollBox ∈ rx_good := (rx_g3 162 rfl rfl)
set_option maxRecDepth 100000 in
theorem m_L_162 : Cond.methodLink RL 162 yL_acts ∈ rx_good := (rx_g3 166 rfl rfl)
set_option maxRecDepth 100000 in
theorem m_L_98 : Cond.methodLink RL 98 yL_king ∈ rx_good := (rx_g3 170 rfl rfl)
set_option maxRecDepth 100000 in
theorem m_L_94 : Cond.methodLink RL 94 yX8_isKing ∈ rx_good := (rx_g3 174 rfl rfl)
set_option maxRecDepth 100000 in
theorem m_X8_148 : Cond.methodLink RX8 148 yX8_requirePerson ∈ rx_good := (rx_g3 178 rfl rfl)
set_option maxRecDepth 100000 in
theorem m_X8_385 : Cond.methodLinkNest RX8 385 yX5_hasPerson "BeggarKings" ∈ rx_nest := (rx_n3 182 rfl rfl)
set_option maxRecDepth 100000 in
theorem m_X8_151 : Cond.methodLinkNest RX8 151 yX5_hasKing "BeggarKings" ∈ rx_nest := (rx_n3 199 rfl rfl)
set_option maxRecDepth 100000 in
theorem m_L_101 : Cond.methodLink RL 101 yX8_coins ∈ rx_good := (rx_g3 200 rfl rfl)
set_option maxRecDepth 100000 in
theorem m_X8_136 : Cond.methodLink RX8 136 yX8_at ∈ rx_good := (rx_g3 204 rfl rfl)
set_option maxRecDepth 100000 in
theorem m_L_104 : Cond.methodLink RL 104 yX8_dropCoins ∈ rx_good := (rx_g3 205 rfl rfl)
set_option maxRecDepth 100000 in
theorem m_X8_292 : Cond.methodLink RX8 292 yX8_allow ∈ rx_good := (rx_g3 211 rfl rfl)
set_option maxRecDepth 100000 in
theorem m_X8_396 : Cond.methodLinkNest RX8 396 yX2_faultOf "BeggarKings" ∈ rx_nest := (rx_n3 215 rfl rfl)
set_option maxRecDepth 100000 in
theorem m_X2_184 : Cond.methodLinkNest RX2 184 yX5_hasPerson "BeggarKings" ∈ rx_nest := (rx_n3 219 rfl rfl)
set_option maxRecDepth 100000 in
theorem m_X2_187 : Cond.methodLink RX2 187 yX2_isSound ∈ rx_good := (rx_g3 220 rfl rfl)
set_option maxRecDepth 100000 in
theorem m_X2_202 : Cond.methodLinkNest RX2 202 yX7_allows "BeggarKings" ∈ rx_nest := (rx_n3 232 rfl rfl)
set_option maxRecDepth 100000 in
theorem m_X2_191 : Cond.methodLink RX2 191 yX2_isPossible ∈ rx_good := (rx_g3 237 rfl rfl)
set_option maxRecDepth 100000 in
theorem m_X2_205 : Cond.methodLink RX2 205 yX2_offerOf ∈ rx_good := (rx_g4 1 rfl rfl)
set_option maxRecDepth 100000 in
theorem m_X2_122 : Cond.methodLink RX2 122 yX2_queueOn ∈ rx_good := (rx_g4 5 rfl rfl)
set_option maxRecDepth 100000 in
theorem m_X2_126 : Cond.methodLinkNest RX2 126 yX3_placeOf "BeggarKings" ∈ rx_nest := (rx_n4 9 rfl rfl)
set_option maxRecDepth 100000 in
theorem m_X3_26 : Cond.methodLinkNest RX3 26 yX8_at "BeggarKings" ∈ rx_nest := (rx_n4 13 rfl rfl)
set_option maxRecDepth 100000 in
theorem m_X2_129 : Cond.methodLinkNest RX2 129 yX3_offerAt "BeggarKings" ∈ rx_nest := (rx_n4 14 rfl rfl)
set_option maxRecDepth 100000 in
theorem m_X8_351 : Cond.methodLinkNest RX8 351 yX1_push "BeggarKings" ∈ rx_nest := (rx_n4 35 rfl rfl)
set_option maxRecDepth 100000 in
theorem m_X1_27 : Cond.methodLinkNest RX1 27 yX2_copyFrom "BeggarKings" ∈ rx_nest := (rx_n4 39 rfl rfl)
set_option maxRecDepth 100000 in
theorem m_X2_84 : Cond.methodLinkNest RX2 84 yX3_copyFrom "BeggarKings" ∈ rx_nest := (rx_n4 43 rfl rfl)
set_option maxRecDepth 100000 in
theorem m_X3_22 : Cond.methodLinkNest RX3 22 yX8_copyRow "BeggarKings" ∈ rx_nest := (rx_n4 47 rfl rfl)
set_option maxRecDepth 100000 in
theorem m_X1_31 : Cond.methodLink RX1 31 yJ9_min_7cf53 ∈ rx_good := (rx_g4 48 rfl rfl)
set_option maxRecDepth 100000 in
theorem m_X8_296 : Cond.methodLinkNest RX8 296 yX2_drop "BeggarKings" ∈ rx_nest := (rx_n4 49 rfl rfl)
set_option maxRecDepth 100000 in
theorem m_X2_160 : Cond.methodLinkNest RX2 160 yX8_add "BeggarKings" ∈ rx_nest := (rx_n4 53 rfl rfl)
set_option maxRecDepth 100000 in
theorem m_X8_404 : Cond.methodLink RX8 404 yX8_put ∈ rx_good := (rx_g4 56 rfl rfl)
set_option maxRecDepth 100000 in
theorem m_L_108 : Cond.methodLink RL 108 yX8_isEast ∈ rx_good := (rx_g4 57 rfl rfl)
set_option maxRecDepth 100000 in
theorem m_L_111 : Cond.methodLink RL 111 yX8_groundCoins ∈ rx_good := (rx_g4 61 rfl rfl)
set_option maxRecDepth 100000 in
theorem m_X8_132 : Cond.methodLink RX8 132 yX8_bankOf ∈ rx_good := (rx_g4 65 rfl rfl)
set_option maxRecDepth 100000 in
theorem m_L_115 : Cond.methodLink RL 115 yX8_pickCoins ∈ rx_good := (rx_g4 68 rfl rfl)
set_option maxRecDepth 100000 in
theorem m_X8_302 : Cond.methodLinkNest RX8 302 yX2_pick "BeggarKings" ∈ rx_nest := (rx_n4 74 rfl rfl)
set_option maxRecDepth 100000 in
theorem m_L_118 : Cond.methodLink RL 118 yX8_royalHolder ∈ rx_good := (rx_g4 78 rfl rfl)
set_option maxRecDepth 100000 in
theorem m_X8_211 : Cond.methodLink RX8 211 yX8_requireKing ∈ rx_good := (rx_g4 82 rfl rfl)
set_option maxRecDepth 100000 in
theorem m_L_121 : Cond.methodLink RL 121 yX8_layRoyalCoin ∈ rx_good := (rx_g4 87 rfl rfl)
set_option maxRecDepth 100000 in
theorem m_X8_308 : Cond.methodLinkNest RX8 308 yX2_lay "BeggarKings" ∈ rx_nest := (rx_n4 93 rfl rfl)
set_option maxRecDepth 100000 in
theorem m_X2_235 : Cond.methodLink RX2 235 yX2_royalCoinsOf ∈ rx_good := (rx_g4 97 rfl rfl)
set_option maxRecDepth 100000 in
theorem m_L_124 : Cond.methodLink RL 124 yX8_isRoyalCoinEast ∈ rx_good := (rx_g4 101 rfl rfl)
set_option maxRecDepth 100000 in
theorem m_X8_217 : Cond.methodLinkNest RX8 217 yX2_royalCoinBank "BeggarKings" ∈ rx_nest := (rx_n4 105 rfl rfl)
set_option maxRecDepth 100000 in
theorem m_L_127 : Cond.methodLink RL 127 yX8_liftRoyalCoin ∈ rx_good := (rx_g4 109 rfl rfl)
set_option maxRecDepth 100000 in
theorem m_X8_314 : Cond.methodLinkNest RX8 314 yX2_lift "BeggarKings" ∈ rx_nest := (rx_n4 115 rfl rfl)
set_option maxRecDepth 100000 in
theorem m_L_130 : Cond.methodLink RL 130 yX8_swapRags ∈ rx_good := (rx_g4 119 rfl rfl)
set_option maxRecDepth 100000 in
theorem m_X8_320 : Cond.methodLinkNest RX8 320 yX2_swap "BeggarKings" ∈ rx_nest := (rx_n4 125 rfl rfl)
set_option maxRecDepth 100000 in
theorem m_L_133 : Cond.methodLink RL 133 yX8_offer ∈ rx_good := (rx_g4 129 rfl rfl)
set_option maxRecDepth 100000 in
theorem m_X8_241 : Cond.methodLinkNest RX8 241 yX2_offerOf "BeggarKings" ∈ rx_nest := (rx_n4 133 rfl rfl)
set_option maxRecDepth 100000 in
theorem m_L_136 : Cond.methodLink RL 136 yX8_joinQueue ∈ rx_good := (rx_g4 134 rfl rfl)
set_option maxRecDepth 100000 in
theorem m_X8_326 : Cond.methodLinkNest RX8 326 yX2_join "BeggarKings" ∈ rx_nest := (rx_n4 140 rfl rfl)
set_option maxRecDepth 100000 in
theorem m_X2_238 : Cond.methodLinkNest RX2 238 yX3_insert "BeggarKings" ∈ rx_nest := (rx_n4 144 rfl rfl)
set_option maxRecDepth 100000 in
theorem m_X3_30 : Cond.methodLinkNest RX3 30 yX8_put "BeggarKings" ∈ rx_nest := (rx_n4 148 rfl rfl)
set_option maxRecDepth 100000 in
theorem m_L_139 : Cond.methodLink RL 139 yX8_quitQueue ∈ rx_good := (rx_g4 149 rfl rfl)
set_option maxRecDepth 100000 in
theorem m_X8_332 : Cond.methodLinkNest RX8 332 yX2_quit "BeggarKings" ∈ rx_nest := (rx_n4 155 rfl rfl)
set_option maxRecDepth 100000 in
theorem m_X2_156 : Cond.methodLinkNest RX2 156 yX3_removeAt "BeggarKings" ∈ rx_nest := (rx_n4 159 rfl rfl)
set_option maxRecDepth 100000 in
theorem m_L_142 : Cond.methodLink RL 142 yX8_setPride ∈ rx_good := (rx_g4 163 rfl rfl)
set_option maxRecDepth 100000 in
theorem m_X8_338 : Cond.methodLinkNest RX8 338 yX2_changePride "BeggarKings" ∈ rx_nest := (rx_n4 169 rfl rfl)
set_option maxRecDepth 100000 in
theorem m_L_145 : Cond.methodLink RL 145 yX8_passTurns ∈ rx_good := (rx_g4 173 rfl rfl)
set_option maxRecDepth 100000 in
theorem m_X8_344 : Cond.methodLinkNest RX8 344 yX2_passSeveral "BeggarKings" ∈ rx_nest := (rx_n4 179 rfl rfl)
set_option maxRecDepth 100000 in
theorem m_X2_132 : Cond.methodLink RX2 132 yX2_passTurn ∈ rx_good := (rx_g4 183 rfl rfl)
set_option maxRecDepth 100000 in
theorem m_X2_136 : Cond.methodLink RX2 136 yX2_departureBank ∈ rx_good := (rx_g4 187 rfl rfl)
set_option maxRecDepth 100000 in
theorem m_X2_142 : Cond.methodLinkNest RX2 142 yX5_opens "BeggarKings" ∈ rx_nest := (rx_n4 191 rfl rfl)
set_option maxRecDepth 100000 in
theorem m_X2_149 : Cond.methodLink RX2 149 yX2_letFirstTry ∈ rx_good := (rx_g4 195 rfl rfl)
set_option maxRecDepth 100000 in
theorem m_X2_153 : Cond.methodLinkNest RX2 153 yX3_personAt "BeggarKings" ∈ rx_nest := (rx_n4 199 rfl rfl)
set_option maxRecDepth 100000 in
theorem m_X2_105 : Cond.methodLink RX2 105 yX2_keeperAngleIn ∈ rx_good := (rx_g4 203 rfl rfl)
set_option maxRecDepth 100000 in
theorem m_X2_101 : Cond.methodLink RX2 101 yX2_angleOf ∈ rx_good := (rx_g4 207 rfl rfl)
set_option maxRecDepth 100000 in
theorem m_X2_111 : Cond.methodLinkNest RX2 111 yX5_tollFor "BeggarKings" ∈ rx_nest := (rx_n4 210 rfl rfl)
set_option maxRecDepth 100000 in
theorem m_X2_163 : Cond.methodLink RX2 163 yX2_countRoyalCoinsOf ∈ rx_good := (rx_g4 214 rfl rfl)
set_option maxRecDepth 100000 in
theorem m_X2_166 : Cond.methodLink RX2 166 yX2_learn ∈ rx_good := (rx_g4 218 rfl rfl)
set_option maxRecDepth 100000 in
theorem m_X2_173 : Cond.methodLink RX2 173 yJ9_max_7cf53 ∈ rx_good := (rx_g4 222 rfl rfl)
set_option maxRecDepth 100000 in
theorem m_X2_178 : Cond.methodLink RX2 178 yJ9_min_7cf53 ∈ rx_good := (rx_g4 225 rfl rfl)
set_option maxRecDepth 100000 in
theorem m_L_154 : Cond.methodLink RL 154 yL_coins ∈ rx_good := (rx_g4 226 rfl rfl)
set_option maxRecDepth 100000 in
theorem m_L_159 : Cond.methodLink RL 159 yL_crossed ∈ rx_good := (rx_g4 230 rfl rfl)
set_option maxRecDepth 100000 in
theorem m_L_173 : Cond.methodLink RL 173 yX8_crossings ∈ rx_good := (rx_g4 234 rfl rfl)
set_option maxRecDepth 100000 in
theorem m_L_169 : Cond.methodLink RL 169 yL_isWell ∈ rx_good := (rx_g4 238 rfl rfl)
set_option maxRecDepth 100000 in
theorem m_L_176 : Cond.methodLink RL 176 yX8_rags ∈ rx_good := (rx_g5 2 rfl rfl)
set_option maxRecDepth 100000 in
theorem m_L_179 : Cond.methodLink RL 179 yX8_wearer ∈ rx_good := (rx_g5 6 rfl rfl)
set_option maxRecDepth 100000 in
theorem m_X8_170 : Cond.methodLinkNest RX8 170 yX2_wearerOf "BeggarKings" ∈ rx_nest := (rx_n5 10 rfl rfl)
set_option maxRecDepth 100000 in
theorem m_L_182 : Cond.methodLink RL 182 yX8_royalCoins ∈ rx_good := (rx_g5 14 rfl rfl)
set_option maxRecDepth 100000 in
theorem m_X8_223 : Cond.methodLinkNest RX8 223 yX2_royalCoinsOf "BeggarKings" ∈ rx_nest := (rx_n5 18 rfl rfl)
set_option maxRecDepth 100000 in
theorem m_L_185 : Cond.methodLink RL 185 yX8_isCounted ∈ rx_good := (rx_g5 19 rfl rfl)
set_option maxRecDepth 100000 in
theorem m_L_188 : Cond.methodLink RL 188 yX8_kingCount ∈ rx_good := (rx_g5 23 rfl rfl)
set_option maxRecDepth 100000 in
theorem m_X8_140 : Cond.methodLinkNest RX8 140 yX5_kingsInAll "BeggarKings" ∈ rx_nest := (rx_n5 27 rfl rfl)
set_option maxRecDepth 100000 in
theorem m_L_191 : Cond.methodLink RL 191 yX8_bankCount ∈ rx_good := (rx_g5 31 rfl rfl)
set_option maxRecDepth 100000 in
theorem m_X8_144 : Cond.methodLinkNest RX8 144 yX2_peopleOn "BeggarKings" ∈ rx_nest := (rx_n5 35 rfl rfl)
set_option maxRecDepth 100000 in
theorem m_L_194 : Cond.methodLink RL 194 yL_isOrdered ∈ rx_good := (rx_g5 39 rfl rfl)
set_option maxRecDepth 100000 in
theorem m_L_201 : Cond.methodLink RL 201 yX8_queueLength ∈ rx_good := (rx_g5 43 rfl rfl)
set_option maxRecDepth 100000 in
theorem m_X8_229 : Cond.methodLinkNest RX8 229 yX2_queueOn "BeggarKings" ∈ rx_nest := (rx_n5 47 rfl rfl)
set_option maxRecDepth 100000 in
theorem m_L_204 : Cond.methodLink RL 204 yX8_queued ∈ rx_good := (rx_g5 48 rfl rfl)
set_option maxRecDepth 100000 in
theorem m_X8_238 : Cond.methodLinkNest RX8 238 yX3_personAt "BeggarKings" ∈ rx_nest := (rx_n5 52 rfl rfl)
set_option maxRecDepth 100000 in
theorem m_L_198 : Cond.methodLink RL 198 yX8_limitAngle ∈ rx_good := (rx_g5 53 rfl rfl)
