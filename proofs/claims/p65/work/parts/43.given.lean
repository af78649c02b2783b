/-! What the start gives: tables, statics, texts. -/
def gv : List Cond := flatC (Cond.and given_1 narrow_1)
theorem gv_of {b : Nat} {s : State} (hg : (Cond.and given_1 narrow_1).before #[Value.ref b] s = true) {w : Cond} (i : Nat) (h : gv[i]? = some w) : w.before #[Value.ref b] s = true := flat_of_before _ hg w (List.mem_of_getElem? h)
def gs_o : List String := ["BeggarKings", "BeggarKingsLaw", "BeggarKingsLaw", "BeggarKingsLaw", "BeggarKings", "BeggarKings", "BeggarKingsLaw", "BeggarKingsLaw", "BeggarKingsLaw", "BeggarKingsLaw", "BeggarKings", "BeggarKings", "BeggarKings", "BeggarKings"]
def gs_k : List Nat := [392, 51, 64, 66, 450, 452, 72, 62, 68, 70, 388, 400, 402, 390]
def gs_p : List Nat := [223, 143, 157, 167, 301, 320, 207, 151, 180, 193, 363, 395, 434, 470]
def gs_t (i : Nat) : Term := .string (gs_o.getD i "") (gs_k.getD i 0)
set_option maxRecDepth 200000 in
set_option maxHeartbeats 8000000 in
theorem gs_ex : ∀ i : Nat, i < 14 → gv[gs_p.getD i 0 - 4]? = some (.exactly (gs_t i) "java/lang/String") := by decide +kernel
set_option maxRecDepth 200000 in
set_option maxHeartbeats 8000000 in
theorem gs_co : ∀ i : Nat, i < 14 → gv[gs_p.getD i 0 - 3]? = some (.eq (.field (gs_t i) "java/lang/String" "coder" "B") (.int 0)) := by decide +kernel
set_option maxRecDepth 200000 in
set_option maxHeartbeats 8000000 in
theorem gs_ar : ∀ i : Nat, i < 14 → gv[gs_p.getD i 0 - 2]? = some (.arrayOf (.field (gs_t i) "java/lang/String" "value" "[B") .byte) := by decide +kernel
set_option maxRecDepth 200000 in
set_option maxHeartbeats 8000000 in
theorem gs_le : ∀ i : Nat, i < 14 → gv[gs_p.getD i 0 - 1]? = some (.eq (.length (.field (gs_t i) "java/lang/String" "value" "[B")) (.int (Int32.ofNat (rx_len.getD i 0)))) := by decide +kernel
set_option maxRecDepth 200000 in
set_option maxHeartbeats 8000000 in
theorem gs_el : ∀ i : Nat, i < 14 → ∀ j : Nat, j < rx_len.getD i 0 → gv[gs_p.getD i 0 + j]? = some (.eq (.elem (.field (gs_t i) "java/lang/String" "value" "[B") (.int (Int32.ofNat j))) (.int ((rx_byt.getD i []).getD j 0))) := by decide +kernel
def gs_d : List (String × Nat × Nat × Nat) := [("BeggarKings", 417, 1, 252), ("BeggarKings", 438, 2, 270), ("BeggarKings", 444, 3, 290), ("BeggarKings", 454, 6, 352)]
set_option maxRecDepth 200000 in
set_option maxHeartbeats 8000000 in
theorem gs_du : ∀ q ∈ gs_d, gv[q.2.2.2]? = some (.eq (gs_t q.2.2.1) (.string q.1 q.2.1)) := by decide +kernel
set_option maxRecDepth 200000 in
set_option maxHeartbeats 8000000 in
theorem gs_sr : ∀ q ∈ rx_sr, (gs_t q.2.2.2 = .string q.1 q.2.1 ∧ q.2.2.2 < 14) ∨ (q.2.2.2 < 14 ∧ ∃ d ∈ gs_d, d.1 = q.1 ∧ d.2.1 = q.2.1 ∧ d.2.2.1 = q.2.2.2) := by decide +kernel
set_option maxRecDepth 200000 in
set_option maxHeartbeats 8000000 in
theorem gs_tb : ∀ q ∈ rx_sr, Cond.stringRef q.1 q.2.1 q.2.2.1 ∈ lw_tbl := by decide +kernel
def gp_e : List Nat := [11, 29, 36, 44, 53, 63, 74, 86, 99]
def gp_o : List Nat := [12, 30, 37, 45, 54, 64, 75, 87, 100]
def gp_s : List Nat := [20, 21, 22, 23, 24, 25, 26, 27, 28]
def gp_f : List (List Nat) := [[13, 31, 38, 46, 55, 65, 76, 88, 101], [14, 32, 39, 47, 56, 66, 77, 89, 102], [15, 33, 40, 48, 57, 67, 78, 90, 103], [16, 34, 41, 49, 58, 68, 79, 91, 104]]
abbrev gs_v (i : Nat) : Term := .static RX7 (rx_vn.getD i "") rx_dV
set_option maxRecDepth 200000 in
set_option maxHeartbeats 8000000 in
theorem gv_e : ∀ i : Nat, i < 9 → gv[gp_e.getD i 0]? = some (.exactly (gs_v i) RX7) := by decide +kernel
set_option maxRecDepth 200000 in
set_option maxHeartbeats 8000000 in
theorem gv_o : ∀ i : Nat, i < 9 → gv[gp_o.getD i 0]? = some (.eq (.field (gs_v i) RJx29ce0 "ordinal" "I") (.int (nI i))) := by decide +kernel
set_option maxRecDepth 200000 in
set_option maxHeartbeats 8000000 in
theorem gv_f : ∀ i : Nat, i < 9 → ∀ f : Nat, f < 4 → gv[(gp_f.getD f []).getD i 0]? = some (.eq (.field (gs_v i) RX7 (rx_vf.getD f ("", [])).1 "I") (.int ((rx_vf.getD f ("", [])).2.getD i 0))) := by decide +kernel
abbrev gs_W : Term := .static RX0 "$SwitchMap$BeggarKings$Verb" "[I"
set_option maxRecDepth 200000 in
set_option maxHeartbeats 8000000 in
theorem gv_s : ∀ i : Nat, i < 9 → gv[gp_s.getD i 0]? = some (.eq (.elem gs_W (.int (Int32.ofNat i))) (.int (rx_sm.getD i 0))) := by decide +kernel
set_option maxRecDepth 200000 in
set_option maxHeartbeats 8000000 in
theorem gv_Wa : gv[18]? = some (.arrayOf gs_W .int) := by decide +kernel
set_option maxRecDepth 200000 in
set_option maxHeartbeats 8000000 in
theorem gv_Wl : gv[19]? = some (.eq (.length gs_W) (.int 9)) := by decide +kernel
set_option maxRecDepth 200000 in
set_option maxHeartbeats 8000000 in
theorem gv_cs : gv[4]? = some (.eq (.static RJ0 "COMPACT_STRINGS" "Z") (.int 1)) := by decide +kernel
set_option maxRecDepth 200000 in
set_option maxHeartbeats 8000000 in
theorem gv_sf : gv[5]? = some (.isRef (.static RJ3 "SIOOBE_FORMATTER" "Ljava/util/function/BiFunction;")) := by decide +kernel
set_option maxRecDepth 200000 in
set_option maxHeartbeats 8000000 in
theorem tb_v : ∀ i : Nat, i < 9 → Cond.laysStatic RX7 (rx_vn.getD i "") rx_dV ∈ lw_tbl := by decide +kernel
set_option maxRecDepth 200000 in
set_option maxHeartbeats 8000000 in
theorem tb_W : Cond.laysStatic RX0 "$SwitchMap$BeggarKings$Verb" "[I" ∈ lw_tbl := by decide +kernel
set_option maxRecDepth 200000 in
set_option maxHeartbeats 8000000 in
theorem tb_cs : Cond.laysStatic RJ0 "COMPACT_STRINGS" "Z" ∈ lw_tbl := by decide +kernel
set_option maxRecDepth 200000 in
set_option maxHeartbeats 8000000 in
theorem tb_sf : Cond.laysStatic RJ3 "SIOOBE_FORMATTER" "Ljava/util/function/BiFunction;" ∈ lw_tbl := by decide +kernel
set_option maxRecDepth 200000 in
set_option maxHeartbeats 8000000 in
theorem tb_i7 : Cond.initialized RX7 ∈ lw_tbl := by decide +kernel
set_option maxRecDepth 200000 in
set_option maxHeartbeats 8000000 in
theorem tb_i0 : Cond.initialized RX0 ∈ lw_tbl := by decide +kernel
set_option maxRecDepth 200000 in
set_option maxHeartbeats 8000000 in
theorem tb_iS : Cond.initialized RJ0 ∈ lw_tbl := by decide +kernel
set_option maxRecDepth 200000 in
set_option maxHeartbeats 8000000 in
theorem tb_iP : Cond.initialized RJ3 ∈ lw_tbl := by decide +kernel
set_option maxRecDepth 200000 in
set_option maxHeartbeats 8000000 in
theorem tb_ai : Cond.arrayClass .int ∈ lw_tbl := by decide +kernel
set_option maxRecDepth 200000 in
set_option maxHeartbeats 8000000 in
theorem tb_al : Cond.arrayClass .byte ∈ lw_tbl := by decide +kernel
set_option maxRecDepth 200000 in
set_option maxHeartbeats 8000000 in
theorem tb_ap : Cond.arrayOver (.object RX2) ∈ lw_tbl := by decide +kernel
set_option maxRecDepth 200000 in
set_option maxHeartbeats 8000000 in
theorem tb_av : Cond.arrayOver (.object RX7) ∈ lw_tbl := by decide +kernel
set_option maxRecDepth 200000 in
set_option maxHeartbeats 8000000 in
theorem tb_nX1 : Cond.instantiable RX1 3 ∈ lw_tbl := by decide +kernel
set_option maxRecDepth 200000 in
set_option maxHeartbeats 8000000 in
theorem tb_nX2 : Cond.instantiable RX2 15 ∈ lw_tbl := by decide +kernel
set_option maxRecDepth 200000 in
set_option maxHeartbeats 8000000 in
theorem tb_nX3 : Cond.instantiable RX3 3 ∈ lw_tbl := by decide +kernel
set_option maxRecDepth 200000 in
set_option maxHeartbeats 8000000 in
theorem tb_nX4 : Cond.instantiable RX4 4 ∈ lw_tbl := by decide +kernel
set_option maxRecDepth 200000 in
set_option maxHeartbeats 8000000 in
theorem tb_nX5 : Cond.instantiable RX5 14 ∈ lw_tbl := by decide +kernel
set_option maxRecDepth 200000 in
set_option maxHeartbeats 8000000 in
theorem tb_nX6 : Cond.instantiable RX6 9 ∈ lw_tbl := by decide +kernel
set_option maxRecDepth 200000 in
set_option maxHeartbeats 8000000 in
theorem tb_nX7 : Cond.instantiable RX7 8 ∈ lw_tbl := by decide +kernel
set_option maxRecDepth 200000 in
set_option maxHeartbeats 8000000 in
theorem tb_nX8 : Cond.instantiable RX8 11 ∈ lw_tbl := by decide +kernel
set_option maxRecDepth 200000 in
set_option maxHeartbeats 8000000 in
theorem tb_nL : Cond.instantiable RL 5 ∈ lw_tbl := by decide +kernel
set_option maxRecDepth 200000 in
set_option maxHeartbeats 8000000 in
theorem gs_ne : ∀ i : Nat, i < 14 → ∀ j : Nat, j < 14 → i ≠ j → rx_len.getD i 0 = rx_len.getD j 0 → ∃ q : Nat, q < rx_len.getD i 0 ∧ (rx_byt.getD i []).getD q 0 ≠ (rx_byt.getD j []).getD q 0 := by
  have h : ∀ i : Nat, i < 14 → ∀ j : Nat, j < 14 → i ≠ j → rx_len.getD i 0 = rx_len.getD j 0 → (List.range (rx_len.getD i 0)).any (fun q => (rx_byt.getD i []).getD q 0 != (rx_byt.getD j []).getD q 0) = true := by decide +kernel
  intro i hi j hj hn hl
  obtain ⟨q, hq, hb⟩ := List.any_eq_true.mp (h i hi j hj hn hl)
  exact ⟨q, List.mem_range.mp hq, by simpa using hb⟩
theorem gs_lt : ∀ i : Nat, i < 14 → rx_len.getD i 0 < 2 ^ 31 := by decide +kernel
