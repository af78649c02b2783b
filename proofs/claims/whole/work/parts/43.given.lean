/-! What the start gives: tables, statics, texts. -/
def gv : List Cond := flatC (Cond.and given_1 narrow_1)
theorem gv_of {b : Nat} {s : State} (hg : (Cond.and given_1 narrow_1).before #[Value.ref b] s = true) {w : Cond} (i : Nat) (h : gv[i]? = some w) : w.before #[Value.ref b] s = true := flat_of_before _ hg w (List.mem_of_getElem? h)
def gs_o : List String := ["BeggarKings", "BeggarKings", "BeggarKings", "BeggarKings", "BeggarKings", "BeggarKings", "BeggarKings", "BeggarKings", "BeggarKings", "BeggarKings", "BeggarKings", "BeggarKings", "BeggarKings", "BeggarKings", "BeggarKings", "BeggarKings", "BeggarKings", "BeggarKingsModel", "BeggarKingsModel", "BeggarKingsModel", "BeggarKingsModel", "BeggarKingsModel", "BeggarKingsModel", "BeggarKingsModel", "BeggarKingsModel", "BeggarKingsModel", "BeggarKingsModel"]
def gs_k : List Nat := [392, 417, 438, 444, 450, 452, 454, 388, 181, 390, 249, 394, 400, 402, 370, 377, 383, 41, 319, 321, 323, 325, 327, 329, 331, 333, 335]
def gs_p : List Nat := [199, 217, 225, 233, 243, 251, 259, 269, 287, 313, 327, 345, 367, 391, 411, 427, 446, 461, 658, 666, 674, 681, 689, 697, 706, 714, 723]
def gs_t (i : Nat) : Term := .string (gs_o.getD i "") (gs_k.getD i 0)
set_option maxRecDepth 200000 in
set_option maxHeartbeats 8000000 in
theorem gs_ex : ∀ i : Nat, i < 27 → gv[gs_p.getD i 0 - 4]? = some (.exactly (gs_t i) "java/lang/String") := by decide +kernel
set_option maxRecDepth 200000 in
set_option maxHeartbeats 8000000 in
theorem gs_co : ∀ i : Nat, i < 27 → gv[gs_p.getD i 0 - 3]? = some (.eq (.field (gs_t i) "java/lang/String" "coder" "B") (.int 0)) := by decide +kernel
set_option maxRecDepth 200000 in
set_option maxHeartbeats 8000000 in
theorem gs_ar : ∀ i : Nat, i < 27 → gv[gs_p.getD i 0 - 2]? = some (.arrayOf (.field (gs_t i) "java/lang/String" "value" "[B") .byte) := by decide +kernel
set_option maxRecDepth 200000 in
set_option maxHeartbeats 8000000 in
theorem gs_le : ∀ i : Nat, i < 27 → gv[gs_p.getD i 0 - 1]? = some (.eq (.length (.field (gs_t i) "java/lang/String" "value" "[B")) (.int (Int32.ofNat (rx_len.getD i 0)))) := by decide +kernel
set_option maxRecDepth 200000 in
set_option maxHeartbeats 8000000 in
theorem gs_el : ∀ i : Nat, i < 27 → ∀ j : Nat, j < rx_len.getD i 0 → gv[gs_p.getD i 0 + j]? = some (.eq (.elem (.field (gs_t i) "java/lang/String" "value" "[B") (.int (Int32.ofNat j))) (.int ((rx_byt.getD i []).getD j 0))) := by decide +kernel
def gs_d : List (String × Nat × Nat × Nat) := [("BeggarKingsModel", 208, 1, 604), ("BeggarKingsModel", 204, 2, 613), ("BeggarKingsModel", 206, 3, 624), ("BeggarKingsModel", 230, 4, 633), ("BeggarKingsModel", 232, 5, 642), ("BeggarKingsModel", 237, 6, 653), ("BeggarKings$Verb", 79, 18, 735), ("BeggarKings$Verb", 85, 19, 744), ("BeggarKings$Verb", 88, 20, 752), ("BeggarKings$Verb", 91, 21, 761), ("BeggarKings$Verb", 94, 22, 770), ("BeggarKings$Verb", 97, 23, 780), ("BeggarKings$Verb", 100, 24, 789), ("BeggarKings$Verb", 103, 25, 799), ("BeggarKings$Verb", 106, 26, 808)]
set_option maxRecDepth 200000 in
set_option maxHeartbeats 8000000 in
theorem gs_du : ∀ q ∈ gs_d, gv[q.2.2.2]? = some (.eq (gs_t q.2.2.1) (.string q.1 q.2.1)) := by decide +kernel
set_option maxRecDepth 200000 in
set_option maxHeartbeats 8000000 in
theorem gs_sr : ∀ q ∈ rx_sr, (gs_t q.2.2.2 = .string q.1 q.2.1 ∧ q.2.2.2 < 27) ∨ (q.2.2.2 < 27 ∧ ∃ d ∈ gs_d, d.1 = q.1 ∧ d.2.1 = q.2.1 ∧ d.2.2.1 = q.2.2.2) := by decide +kernel
set_option maxRecDepth 200000 in
set_option maxHeartbeats 8000000 in
theorem gs_tb : ∀ q ∈ rx_sr, Cond.stringRef q.1 q.2.1 q.2.2.1 ∈ lw_tbl := by decide +kernel
def gp_v : List Nat := [79, 85, 88, 91, 94, 97, 100, 103, 106]
def gp_e : List Nat := [11, 30, 38, 47, 57, 68, 80, 93, 107]
def gp_o : List Nat := [12, 31, 39, 48, 58, 69, 81, 94, 108]
def gp_w : List Nat := [13, 32, 40, 49, 59, 70, 82, 95, 109]
def gp_a : List Nat := [127, 128, 129, 130, 131, 132, 133, 134, 135]
def gp_s : List Nat := [21, 22, 23, 24, 25, 26, 27, 28, 29]
def gp_f : List (List Nat) := [[14, 33, 41, 50, 60, 71, 83, 96, 110], [15, 34, 42, 51, 61, 72, 84, 97, 111], [16, 35, 43, 52, 62, 73, 85, 98, 112], [17, 36, 44, 53, 63, 74, 86, 99, 113]]
abbrev gs_v (i : Nat) : Term := .static RX7 (rx_vn.getD i "") rx_dV
set_option maxRecDepth 200000 in
set_option maxHeartbeats 8000000 in
theorem gv_e : ∀ i : Nat, i < 9 → gv[gp_e.getD i 0]? = some (.exactly (gs_v i) RX7) := by decide +kernel
set_option maxRecDepth 200000 in
set_option maxHeartbeats 8000000 in
theorem gv_o : ∀ i : Nat, i < 9 → gv[gp_o.getD i 0]? = some (.eq (.field (gs_v i) RJx29ce0 "ordinal" "I") (.int (nI i))) := by decide +kernel
set_option maxRecDepth 200000 in
set_option maxHeartbeats 8000000 in
theorem gv_w : ∀ i : Nat, i < 9 → gv[gp_w.getD i 0]? = some (.eq (.field (gs_v i) RX7 "word" "Ljava/lang/String;") (.string "BeggarKings$Verb" (gp_v.getD i 0))) := by decide +kernel
set_option maxRecDepth 200000 in
set_option maxHeartbeats 8000000 in
theorem gv_wd : ∀ i : Nat, i < 9 → ∃ d ∈ gs_d, d.1 = "BeggarKings$Verb" ∧ d.2.1 = gp_v.getD i 0 ∧ d.2.2.1 = 18 + i := by decide +kernel
set_option maxRecDepth 200000 in
set_option maxHeartbeats 8000000 in
theorem gv_f : ∀ i : Nat, i < 9 → ∀ f : Nat, f < 4 → gv[(gp_f.getD f []).getD i 0]? = some (.eq (.field (gs_v i) RX7 (rx_vf.getD f ("", [])).1 "I") (.int ((rx_vf.getD f ("", [])).2.getD i 0))) := by decide +kernel
abbrev gs_A : Term := .static RX7 "ALL" "[LBeggarKings$Verb;"
abbrev gs_W : Term := .static RX0 "$SwitchMap$BeggarKings$Verb" "[I"
set_option maxRecDepth 200000 in
set_option maxHeartbeats 8000000 in
theorem gv_a : ∀ i : Nat, i < 9 → gv[gp_a.getD i 0]? = some (.eq (.elem gs_A (.int (Int32.ofNat i))) (gs_v i)) := by decide +kernel
set_option maxRecDepth 200000 in
set_option maxHeartbeats 8000000 in
theorem gv_s : ∀ i : Nat, i < 9 → gv[gp_s.getD i 0]? = some (.eq (.elem gs_W (.int (Int32.ofNat i))) (.int (rx_sm.getD i 0))) := by decide +kernel
set_option maxRecDepth 200000 in
set_option maxHeartbeats 8000000 in
theorem gv_Aa : gv[124]? = some (.arrayOf gs_A (.object RX7)) := by decide +kernel
set_option maxRecDepth 200000 in
set_option maxHeartbeats 8000000 in
theorem gv_Al : gv[125]? = some (.eq (.length gs_A) (.int 9)) := by decide +kernel
set_option maxRecDepth 200000 in
set_option maxHeartbeats 8000000 in
theorem gv_Wa : gv[19]? = some (.arrayOf gs_W .int) := by decide +kernel
set_option maxRecDepth 200000 in
set_option maxHeartbeats 8000000 in
theorem gv_Wl : gv[20]? = some (.eq (.length gs_W) (.int 9)) := by decide +kernel
set_option maxRecDepth 200000 in
set_option maxHeartbeats 8000000 in
theorem gv_cs : gv[6]? = some (.eq (.static RJ0 "COMPACT_STRINGS" "Z") (.int 1)) := by decide +kernel
set_option maxRecDepth 200000 in
set_option maxHeartbeats 8000000 in
theorem gv_sf : gv[7]? = some (.isRef (.static RJ3 "SIOOBE_FORMATTER" "Ljava/util/function/BiFunction;")) := by decide +kernel
set_option maxRecDepth 200000 in
set_option maxHeartbeats 8000000 in
theorem gv_us : gv[4]? = some (.isRef (.static Bundle.tN "UNASSIGNED_STACK" Bundle.steD)) := by decide +kernel
set_option maxRecDepth 200000 in
set_option maxHeartbeats 8000000 in
theorem gv_ss : gv[5]? = some (.isRef (.static Bundle.tN "SUPPRESSED_SENTINEL" Bundle.listD)) := by decide +kernel
set_option maxRecDepth 200000 in
set_option maxHeartbeats 8000000 in
theorem gv_n0 : gv[144]? = some (.not (.castable rx_E1 rx_E2)) := by decide +kernel
set_option maxRecDepth 200000 in
set_option maxHeartbeats 8000000 in
theorem gv_n1 : gv[167]? = some (.not (.castable rx_E1 rx_E3)) := by decide +kernel
set_option maxRecDepth 200000 in
set_option maxHeartbeats 8000000 in
theorem gv_n2 : gv[155]? = some (.not (.castable rx_E2 rx_E1)) := by decide +kernel
set_option maxRecDepth 200000 in
set_option maxHeartbeats 8000000 in
theorem gv_n3 : gv[166]? = some (.not (.castable rx_E2 rx_E3)) := by decide +kernel
set_option maxRecDepth 200000 in
set_option maxHeartbeats 8000000 in
theorem gv_n4 : gv[157]? = some (.not (.castable rx_E3 rx_E1)) := by decide +kernel
set_option maxRecDepth 200000 in
set_option maxHeartbeats 8000000 in
theorem gv_n5 : gv[146]? = some (.not (.castable rx_E3 rx_E2)) := by decide +kernel
set_option maxRecDepth 200000 in
set_option maxHeartbeats 8000000 in
theorem tb_v : ∀ i : Nat, i < 9 → Cond.laysStatic RX7 (rx_vn.getD i "") rx_dV ∈ lw_tbl := by decide +kernel
set_option maxRecDepth 200000 in
set_option maxHeartbeats 8000000 in
theorem tb_A : Cond.laysStatic RX7 "ALL" "[LBeggarKings$Verb;" ∈ lw_tbl := by decide +kernel
set_option maxRecDepth 200000 in
set_option maxHeartbeats 8000000 in
theorem tb_W : Cond.laysStatic RX0 "$SwitchMap$BeggarKings$Verb" "[I" ∈ lw_tbl := by decide +kernel
set_option maxRecDepth 200000 in
set_option maxHeartbeats 8000000 in
theorem tb_cs : Cond.laysStatic RJ0 "COMPACT_STRINGS" "Z" ∈ lw_tbl := by decide +kernel
set_option maxRecDepth 200000 in
set_option maxHeartbeats 8000000 in
theorem tb_sf : Cond.laysStatic RJ3 "SIOOBE_FORMATTER" "Ljava/util/function/BiFunction;" ∈ lw_tbl := by decide +kernel
set_option maxRecDepth 200000 in
set_option maxHeartbeats 8000000 in
theorem tb_us : Cond.laysStatic Bundle.tN "UNASSIGNED_STACK" Bundle.steD ∈ lw_tbl := by decide +kernel
set_option maxRecDepth 200000 in
set_option maxHeartbeats 8000000 in
theorem tb_ss : Cond.laysStatic Bundle.tN "SUPPRESSED_SENTINEL" Bundle.listD ∈ lw_tbl := by decide +kernel
set_option maxRecDepth 200000 in
set_option maxHeartbeats 8000000 in
theorem tb_i7 : Cond.initialized RX7 ∈ lw_tbl := by decide +kernel
set_option maxRecDepth 200000 in
set_option maxHeartbeats 8000000 in
theorem tb_i0 : Cond.initialized RX0 ∈ lw_tbl := by decide +kernel
set_option maxRecDepth 200000 in
set_option maxHeartbeats 8000000 in
theorem tb_iS : Cond.initialized RJ0 ∈ lw_tbl := by decide +kernel
set_option maxRecDepth 200000 in
set_option maxHeartbeats 8000000 in
theorem tb_iP : Cond.initialized RJ3 ∈ lw_tbl := by decide +kernel
set_option maxRecDepth 200000 in
set_option maxHeartbeats 8000000 in
theorem tb_iT : Cond.initialized Bundle.tN ∈ lw_tbl := by decide +kernel
set_option maxRecDepth 200000 in
set_option maxHeartbeats 8000000 in
theorem tb_ai : Cond.arrayClass .int ∈ lw_tbl := by decide +kernel
set_option maxRecDepth 200000 in
set_option maxHeartbeats 8000000 in
theorem tb_al : Cond.arrayClass .long ∈ lw_tbl := by decide +kernel
set_option maxRecDepth 200000 in
set_option maxHeartbeats 8000000 in
theorem tb_ap : Cond.arrayOver (.object RX2) ∈ lw_tbl := by decide +kernel
set_option maxRecDepth 200000 in
set_option maxHeartbeats 8000000 in
theorem tb_av : Cond.arrayOver (.object RX7) ∈ lw_tbl := by decide +kernel
set_option maxRecDepth 200000 in
set_option maxHeartbeats 8000000 in
theorem tb_nX1 : Cond.instantiable RX1 3 ∈ lw_tbl := by decide +kernel
set_option maxRecDepth 200000 in
set_option maxHeartbeats 8000000 in
theorem tb_nX2 : Cond.instantiable RX2 15 ∈ lw_tbl := by decide +kernel
set_option maxRecDepth 200000 in
set_option maxHeartbeats 8000000 in
theorem tb_nX3 : Cond.instantiable RX3 3 ∈ lw_tbl := by decide +kernel
set_option maxRecDepth 200000 in
set_option maxHeartbeats 8000000 in
theorem tb_nX4 : Cond.instantiable RX4 4 ∈ lw_tbl := by decide +kernel
set_option maxRecDepth 200000 in
set_option maxHeartbeats 8000000 in
theorem tb_nX5 : Cond.instantiable RX5 14 ∈ lw_tbl := by decide +kernel
set_option maxRecDepth 200000 in
set_option maxHeartbeats 8000000 in
theorem tb_nX6 : Cond.instantiable RX6 9 ∈ lw_tbl := by decide +kernel
set_option maxRecDepth 200000 in
set_option maxHeartbeats 8000000 in
theorem tb_nX7 : Cond.instantiable RX7 8 ∈ lw_tbl := by decide +kernel
set_option maxRecDepth 200000 in
set_option maxHeartbeats 8000000 in
theorem tb_nX8 : Cond.instantiable RX8 11 ∈ lw_tbl := by decide +kernel
set_option maxRecDepth 200000 in
set_option maxHeartbeats 8000000 in
theorem tb_nX9 : Cond.instantiable RX9 21 ∈ lw_tbl := by decide +kernel
set_option maxRecDepth 200000 in
set_option maxHeartbeats 8000000 in
theorem gs_ne : ∀ i : Nat, i < 27 → ∀ j : Nat, j < 27 → i ≠ j → rx_len.getD i 0 = rx_len.getD j 0 → ∃ q : Nat, q < rx_len.getD i 0 ∧ (rx_byt.getD i []).getD q 0 ≠ (rx_byt.getD j []).getD q 0 := by
  have h : ∀ i : Nat, i < 27 → ∀ j : Nat, j < 27 → i ≠ j → rx_len.getD i 0 = rx_len.getD j 0 → (List.range (rx_len.getD i 0)).any (fun q => (rx_byt.getD i []).getD q 0 != (rx_byt.getD j []).getD q 0) = true := by decide +kernel
  intro i hi j hj hn hl
  obtain ⟨q, hq, hb⟩ := List.any_eq_true.mp (h i hi j hj hn hl)
  exact ⟨q, List.mem_range.mp hq, by simpa using hb⟩
theorem gs_lt : ∀ i : Nat, i < 27 → rx_len.getD i 0 < 2 ^ 31 := by decide +kernel
