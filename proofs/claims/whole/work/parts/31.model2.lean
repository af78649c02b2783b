section GEN
variable {l : Launch} {G : va_G} {k : Nat → Nat} {h : hp} {n : Nat}
def F_X9_of (om : ob) (x1 : Int32) (x2 : Int32) : Option (Int32) := (rx_ald 144 (om.2 1) ((((12 : Int32) + ((8 : Int32) * x1)) + x2))).bind fun v1 => some v1
set_option maxRecDepth 100000 in
set_option maxHeartbeats 4000000 in
theorem w_X9_of {m : Nat} {om : ob} {x1 : Int32} {x2 : Int32} {y : Int32} (hF : F_X9_of om x1 x2 = some y) (b_m : bM k m om h) : Met l yX9_of (rx_ws yX9_of cX9_of 3 (some .int)) (rx_rm 0 0) (va_Pc [.ref m, .int x1, .int x2] (rx_G G k h n)) (va_Qi (fun r u => y = r ∧ u = (h, n)) (rx_B G k) (rx_A k)) 0 0 (rx_A k) := by
  refine rx_start [(0, .ref m), (1, .int x1), (2, .int x2)] rfl (Nat.le_of_ble_eq_true rfl) (by decide) rfl (fun P9 E9 S9 M9 A9 B9 me9 c9 C hname => ?_)
  unfold F_X9_of at hF
  refine rx_aload_n C dX9_of_0 0 rfl ?_
  refine rx_getf C f_X9_13 dX9_of_1 b_m.1 rfl ?_
  refine rx_bipush C dX9_of_4 (12 : Int32) (by decide) ?_
  refine rx_bipush C dX9_of_6 (8 : Int32) (by decide) ?_
  refine rx_iload_n C dX9_of_8 1 rfl ?_
  refine rx_imul C dX9_of_9 ?_
  refine rx_iadd C dX9_of_10 ?_
  refine rx_iload_n C dX9_of_11 2 rfl ?_
  refine rx_iadd C dX9_of_12 ?_
  replace hF := rx_biE hF; obtain ⟨v1, e_v1, hF⟩ := hF
  refine rx_aldF C dX9_of_13 b_m.2.1 e_v1 ?_
  obtain rfl := Option.some.inj hF
  exact rx_iret C dX9_of_14 (Nat.le_refl _) (Nat.le_refl _) ⟨rfl, rfl⟩
def F_X9_lays (om : ob) (x1 : Int32) (x2 : Int32) (x3 : Int32) : Option (ob) := (rx_ast 144 (om.2 1) ((((12 : Int32) + ((8 : Int32) * x1)) + x2)) x3).bind fun f1 => rx_le (om.1, va_up om.2 1 f1) fun o_m_2 => some o_m_2
set_option maxRecDepth 100000 in
set_option maxHeartbeats 4000000 in
theorem w_X9_lays {m : Nat} {om : ob} {x1 : Int32} {x2 : Int32} {x3 : Int32} {y : ob} (hF : F_X9_lays om x1 x2 x3 = some y) (b_m : bM k m om h) : Met l yX9_lays (rx_ws yX9_lays cX9_lays 4 none) (rx_rm 0 0) (va_Pc [.ref m, .int x1, .int x2, .int x3] (rx_G G k h n)) (va_Qv (fun u => u.2 = n ∧ bM k m y u.1 ∧ rx_fr [(m, 9)] h u.1) (rx_B G k) (rx_A k)) 0 0 (rx_A k) := by
  refine rx_start [(0, .ref m), (1, .int x1), (2, .int x2), (3, .int x3)] rfl (Nat.le_of_ble_eq_true rfl) (by decide) rfl (fun P9 E9 S9 M9 A9 B9 me9 c9 C hname => ?_)
  unfold F_X9_lays at hF
  have fr : rx_fr [(m, 9)] h h := rx_fr0
  refine rx_aload_n C dX9_lays_0 0 rfl ?_
  refine rx_getf C f_X9_13 dX9_lays_1 b_m.1 rfl ?_
  refine rx_bipush C dX9_lays_4 (12 : Int32) (by decide) ?_
  refine rx_bipush C dX9_lays_6 (8 : Int32) (by decide) ?_
  refine rx_iload_n C dX9_lays_8 1 rfl ?_
  refine rx_imul C dX9_lays_9 ?_
  refine rx_iadd C dX9_lays_10 ?_
  refine rx_iload_n C dX9_lays_11 2 rfl ?_
  refine rx_iadd C dX9_lays_12 ?_
  refine rx_iload_n C dX9_lays_13 3 rfl ?_
  replace hF := rx_biE hF; obtain ⟨f1, e_f1, hF⟩ := hF
  replace hF := rx_leE hF; obtain ⟨o_m_2, e_o_m_2, hF⟩ := hF
  refine rx_aM1 C dX9_lays_14 b_m e_f1 e_o_m_2 (fun hh c_m ff => ?_)
  replace b_m := c_m
  replace fr := rx_frt fr ff (fun a ha => ⟨ha.1, trivial⟩)
  obtain rfl := Option.some.inj hF
  exact rx_vret C dX9_lays_15 (Nat.le_refl _) (Nat.le_refl _) ⟨rfl, b_m, fr⟩
def F_X9_ofRoyal (om : ob) (x1 : Int32) (x2 : Int32) : Option (Int32) := (rx_ald 144 (om.2 1) ((((102 : Int32) + ((3 : Int32) * x1)) + x2))).bind fun v1 => some v1
set_option maxRecDepth 100000 in
set_option maxHeartbeats 4000000 in
theorem w_X9_ofRoyal {m : Nat} {om : ob} {x1 : Int32} {x2 : Int32} {y : Int32} (hF : F_X9_ofRoyal om x1 x2 = some y) (b_m : bM k m om h) : Met l yX9_ofRoyal (rx_ws yX9_ofRoyal cX9_ofRoyal 3 (some .int)) (rx_rm 0 0) (va_Pc [.ref m, .int x1, .int x2] (rx_G G k h n)) (va_Qi (fun r u => y = r ∧ u = (h, n)) (rx_B G k) (rx_A k)) 0 0 (rx_A k) := by
  refine rx_start [(0, .ref m), (1, .int x1), (2, .int x2)] rfl (Nat.le_of_ble_eq_true rfl) (by decide) rfl (fun P9 E9 S9 M9 A9 B9 me9 c9 C hname => ?_)
  unfold F_X9_ofRoyal at hF
  refine rx_aload_n C dX9_ofRoyal_0 0 rfl ?_
  refine rx_getf C f_X9_13 dX9_ofRoyal_1 b_m.1 rfl ?_
  refine rx_bipush C dX9_ofRoyal_4 (102 : Int32) (by decide) ?_
  refine rx_iconst C dX9_ofRoyal_6 (3 : Int32) (by decide) ?_
  refine rx_iload_n C dX9_ofRoyal_7 1 rfl ?_
  refine rx_imul C dX9_ofRoyal_8 ?_
  refine rx_iadd C dX9_ofRoyal_9 ?_
  refine rx_iload_n C dX9_ofRoyal_10 2 rfl ?_
  refine rx_iadd C dX9_ofRoyal_11 ?_
  replace hF := rx_biE hF; obtain ⟨v1, e_v1, hF⟩ := hF
  refine rx_aldF C dX9_ofRoyal_12 b_m.2.1 e_v1 ?_
  obtain rfl := Option.some.inj hF
  exact rx_iret C dX9_ofRoyal_13 (Nat.le_refl _) (Nat.le_refl _) ⟨rfl, rfl⟩
def F_X9_laysRoyal (om : ob) (x1 : Int32) (x2 : Int32) (x3 : Int32) : Option (ob) := (rx_ast 144 (om.2 1) ((((102 : Int32) + ((3 : Int32) * x1)) + x2)) x3).bind fun f1 => rx_le (om.1, va_up om.2 1 f1) fun o_m_2 => some o_m_2
set_option maxRecDepth 100000 in
set_option maxHeartbeats 4000000 in
theorem w_X9_laysRoyal {m : Nat} {om : ob} {x1 : Int32} {x2 : Int32} {x3 : Int32} {y : ob} (hF : F_X9_laysRoyal om x1 x2 x3 = some y) (b_m : bM k m om h) : Met l yX9_laysRoyal (rx_ws yX9_laysRoyal cX9_laysRoyal 4 none) (rx_rm 0 0) (va_Pc [.ref m, .int x1, .int x2, .int x3] (rx_G G k h n)) (va_Qv (fun u => u.2 = n ∧ bM k m y u.1 ∧ rx_fr [(m, 9)] h u.1) (rx_B G k) (rx_A k)) 0 0 (rx_A k) := by
  refine rx_start [(0, .ref m), (1, .int x1), (2, .int x2), (3, .int x3)] rfl (Nat.le_of_ble_eq_true rfl) (by decide) rfl (fun P9 E9 S9 M9 A9 B9 me9 c9 C hname => ?_)
  unfold F_X9_laysRoyal at hF
  have fr : rx_fr [(m, 9)] h h := rx_fr0
  refine rx_aload_n C dX9_laysRoyal_0 0 rfl ?_
  refine rx_getf C f_X9_13 dX9_laysRoyal_1 b_m.1 rfl ?_
  refine rx_bipush C dX9_laysRoyal_4 (102 : Int32) (by decide) ?_
  refine rx_iconst C dX9_laysRoyal_6 (3 : Int32) (by decide) ?_
  refine rx_iload_n C dX9_laysRoyal_7 1 rfl ?_
  refine rx_imul C dX9_laysRoyal_8 ?_
  refine rx_iadd C dX9_laysRoyal_9 ?_
  refine rx_iload_n C dX9_laysRoyal_10 2 rfl ?_
  refine rx_iadd C dX9_laysRoyal_11 ?_
  refine rx_iload_n C dX9_laysRoyal_12 3 rfl ?_
  replace hF := rx_biE hF; obtain ⟨f1, e_f1, hF⟩ := hF
  replace hF := rx_leE hF; obtain ⟨o_m_2, e_o_m_2, hF⟩ := hF
  refine rx_aM1 C dX9_laysRoyal_13 b_m e_f1 e_o_m_2 (fun hh c_m ff => ?_)
  replace b_m := c_m
  replace fr := rx_frt fr ff (fun a ha => ⟨ha.1, trivial⟩)
  obtain rfl := Option.some.inj hF
  exact rx_vret C dX9_laysRoyal_14 (Nat.le_refl _) (Nat.le_refl _) ⟨rfl, b_m, fr⟩
def F_X9_ofBridge (om : ob) (x1 : Int32) (x2 : Int32) : Option (Int32) := (rx_ald 144 (om.2 1) ((((132 : Int32) + ((3 : Int32) * x1)) + x2))).bind fun v1 => some v1
set_option maxRecDepth 100000 in
set_option maxHeartbeats 4000000 in
theorem w_X9_ofBridge {m : Nat} {om : ob} {x1 : Int32} {x2 : Int32} {y : Int32} (hF : F_X9_ofBridge om x1 x2 = some y) (b_m : bM k m om h) : Met l yX9_ofBridge (rx_ws yX9_ofBridge cX9_ofBridge 3 (some .int)) (rx_rm 0 0) (va_Pc [.ref m, .int x1, .int x2] (rx_G G k h n)) (va_Qi (fun r u => y = r ∧ u = (h, n)) (rx_B G k) (rx_A k)) 0 0 (rx_A k) := by
  refine rx_start [(0, .ref m), (1, .int x1), (2, .int x2)] rfl (Nat.le_of_ble_eq_true rfl) (by decide) rfl (fun P9 E9 S9 M9 A9 B9 me9 c9 C hname => ?_)
  unfold F_X9_ofBridge at hF
  refine rx_aload_n C dX9_ofBridge_0 0 rfl ?_
  refine rx_getf C f_X9_13 dX9_ofBridge_1 b_m.1 rfl ?_
  refine rx_sipush C dX9_ofBridge_4 (132 : Int32) (by decide) ?_
  refine rx_iconst C dX9_ofBridge_7 (3 : Int32) (by decide) ?_
  refine rx_iload_n C dX9_ofBridge_8 1 rfl ?_
  refine rx_imul C dX9_ofBridge_9 ?_
  refine rx_iadd C dX9_ofBridge_10 ?_
  refine rx_iload_n C dX9_ofBridge_11 2 rfl ?_
  refine rx_iadd C dX9_ofBridge_12 ?_
  replace hF := rx_biE hF; obtain ⟨v1, e_v1, hF⟩ := hF
  refine rx_aldF C dX9_ofBridge_13 b_m.2.1 e_v1 ?_
  obtain rfl := Option.some.inj hF
  exact rx_iret C dX9_ofBridge_14 (Nat.le_refl _) (Nat.le_refl _) ⟨rfl, rfl⟩
def F_X9_isKingNow (om : ob) (x1 : Int32) : Option (Int32) := (F_X9_of om x1 ((0 : Int32))).bind fun y1 => if y1 = (1 : Int32) then (some ((1 : Int32))) else (some ((0 : Int32)))
set_option maxRecDepth 100000 in
set_option maxHeartbeats 4000000 in
theorem w_X9_isKingNow {m : Nat} {om : ob} {x1 : Int32} {y : Int32} (hF : F_X9_isKingNow om x1 = some y) (b_m : bM k m om h) : Met l yX9_isKingNow (rx_ws yX9_isKingNow cX9_isKingNow 2 (some .boolean)) (rx_rm 1 22) (va_Pc [.ref m, .int x1] (rx_G G k h n)) (va_Qi (fun r u => y = r ∧ (y = 0 ∨ y = 1) ∧ u = (h, n)) (rx_B G k) (rx_A k)) 0 0 (rx_A k) := by
  refine rx_start [(0, .ref m), (1, .int x1)] rfl (Nat.le_of_ble_eq_true rfl) (by decide) rfl (fun P9 E9 S9 M9 A9 B9 me9 c9 C hname => ?_)
  unfold F_X9_isKingNow at hF
  refine rx_aload_n C dX9_isKingNow_0 0 rfl ?_
  refine rx_iload_n C dX9_isKingNow_1 1 rfl ?_
  refine rx_iconst C dX9_isKingNow_2 (0 : Int32) (by decide) ?_
  replace hF := rx_biE hF; obtain ⟨y1, e_y1, hF⟩ := hF
  refine rx_ci (rx_rV C (w_X9_of e_y1 b_m) Y_X9_of V_X9_of m_X9_60 (Or.inl ⟨_, _, _, _, b_m.1, rfl⟩) ⟨⟨rfl, rfl⟩, ⟨(Nat.le_of_ble_eq_true rfl), (Nat.le_of_ble_eq_true rfl)⟩, ⟨(Nat.le_of_ble_eq_true rfl), (Nat.le_of_ble_eq_true rfl)⟩⟩ rfl rfl (Nat.le_of_ble_eq_true rfl) dX9_isKingNow_3) (fun r hh n1 hpp => ?_)
  obtain ⟨rfl, hu⟩ := hpp
  cases hu
  refine rx_iconst C dX9_isKingNow_6 (1 : Int32) (by decide) ?_
  refine rx_icmp_ne C dX9_isKingNow_7 14 (by decide) (fun c2 => ?_) (fun c2 => ?_)
  · rw [if_neg c2] at hF
    refine rx_iconst C dX9_isKingNow_14 (0 : Int32) (by decide) ?_
    obtain rfl := Option.some.inj hF
    exact rx_zret C (rx_nz (Or.inl rfl)) dX9_isKingNow_15 (Nat.le_refl _) (Nat.le_refl _) ⟨rfl, (Or.inl rfl), rfl⟩
  · rw [if_pos c2] at hF
    refine rx_iconst C dX9_isKingNow_10 (1 : Int32) (by decide) ?_
    refine rx_goto C dX9_isKingNow_11 15 (by decide) ?_
    obtain rfl := Option.some.inj hF
    exact rx_zret C (rx_nz (Or.inr rfl)) dX9_isKingNow_15 (Nat.le_refl _) (Nat.le_refl _) ⟨rfl, (Or.inr rfl), rfl⟩
def F_X9_bow (x0 : Int32) (x1 : Int32) : Option (Int32) := if (0 : Int32) ≤ x0 then (if x0 ≤ (90 : Int32) then (if x1 = (0 : Int32) then (some x0) else (some ((x0 / (2 : Int32))))) else (if x1 = (0 : Int32) then (some ((90 : Int32))) else (some (((90 : Int32) / (2 : Int32)))))) else (if x1 = (0 : Int32) then (some ((0 : Int32))) else (some (((0 : Int32) / (2 : Int32)))))
set_option maxRecDepth 100000 in
set_option maxHeartbeats 4000000 in
theorem w_X9_bow {x0 : Int32} {x1 : Int32} {y : Int32} (hF : F_X9_bow x0 x1 = some y) : Met l yX9_bow (rx_ws yX9_bow cX9_bow 3 (some .int)) (rx_rm 0 0) (va_Pc [.int x0, .int x1] (rx_G G k h n)) (va_Qi (fun r u => y = r ∧ u = (h, n)) (rx_B G k) (rx_A k)) 0 0 (rx_A k) := by
  refine rx_start [(0, .int x0), (1, .int x1)] rfl (Nat.le_of_ble_eq_true rfl) (by decide) rfl (fun P9 E9 S9 M9 A9 B9 me9 c9 C hname => ?_)
  unfold F_X9_bow at hF
  refine rx_iload_n C dX9_bow_0 0 rfl ?_
  refine rx_if_ge C dX9_bow_1 8 (by decide) (fun c1 => ?_) (fun c1 => ?_)
  · rw [if_pos c1] at hF
    refine rx_iload_n C dX9_bow_8 0 rfl ?_
    refine rx_bipush C dX9_bow_9 (90 : Int32) (by decide) ?_
    refine rx_icmp_le C dX9_bow_11 19 (by decide) (fun c2 => ?_) (fun c2 => ?_)
    · rw [if_pos c2] at hF
      refine rx_iload_n C dX9_bow_19 0 rfl ?_
      refine rx_istore_n C dX9_bow_20 (by decide) [(2, .int x0), (0, .int x0), (1, .int x1)] rfl ?_
      refine rx_iload_n C dX9_bow_21 2 rfl ?_
      refine rx_if_eq C dX9_bow_22 31 (by decide) (fun c3 => ?_) (fun c3 => ?_)
      · rw [if_pos c3] at hF
        refine rx_iload_n C dX9_bow_31 0 rfl ?_
        obtain rfl := Option.some.inj hF
        exact rx_iret C dX9_bow_32 (Nat.le_refl _) (Nat.le_refl _) ⟨rfl, rfl⟩
      · rw [if_neg c3] at hF
        refine rx_iload_n C dX9_bow_25 0 rfl ?_
        refine rx_iconst C dX9_bow_26 (2 : Int32) (by decide) ?_
        refine rx_idiv C dX9_bow_27 (by decide) ?_
        refine rx_goto C dX9_bow_28 32 (by decide) ?_
        obtain rfl := Option.some.inj hF
        exact rx_iret C dX9_bow_32 (Nat.le_refl _) (Nat.le_refl _) ⟨rfl, rfl⟩
    · rw [if_neg c2] at hF
      refine rx_bipush C dX9_bow_14 (90 : Int32) (by decide) ?_
      refine rx_goto C dX9_bow_16 20 (by decide) ?_
      refine rx_istore_n C dX9_bow_20 (by decide) [(2, .int ((90 : Int32))), (0, .int x0), (1, .int x1)] rfl ?_
      refine rx_iload_n C dX9_bow_21 2 rfl ?_
      refine rx_if_eq C dX9_bow_22 31 (by decide) (fun c4 => ?_) (fun c4 => ?_)
      · rw [if_pos c4] at hF
        refine rx_iload_n C dX9_bow_31 0 rfl ?_
        obtain rfl := Option.some.inj hF
        exact rx_iret C dX9_bow_32 (Nat.le_refl _) (Nat.le_refl _) ⟨rfl, rfl⟩
      · rw [if_neg c4] at hF
        refine rx_iload_n C dX9_bow_25 0 rfl ?_
        refine rx_iconst C dX9_bow_26 (2 : Int32) (by decide) ?_
        refine rx_idiv C dX9_bow_27 (by decide) ?_
        refine rx_goto C dX9_bow_28 32 (by decide) ?_
        obtain rfl := Option.some.inj hF
        exact rx_iret C dX9_bow_32 (Nat.le_refl _) (Nat.le_refl _) ⟨rfl, rfl⟩
  · rw [if_neg c1] at hF
    refine rx_iconst C dX9_bow_4 (0 : Int32) (by decide) ?_
    refine rx_goto C dX9_bow_5 20 (by decide) ?_
    refine rx_istore_n C dX9_bow_20 (by decide) [(2, .int ((0 : Int32))), (0, .int x0), (1, .int x1)] rfl ?_
    refine rx_iload_n C dX9_bow_21 2 rfl ?_
    refine rx_if_eq C dX9_bow_22 31 (by decide) (fun c5 => ?_) (fun c5 => ?_)
    · rw [if_pos c5] at hF
      refine rx_iload_n C dX9_bow_31 0 rfl ?_
      obtain rfl := Option.some.inj hF
      exact rx_iret C dX9_bow_32 (Nat.le_refl _) (Nat.le_refl _) ⟨rfl, rfl⟩
    · rw [if_neg c5] at hF
      refine rx_iload_n C dX9_bow_25 0 rfl ?_
      refine rx_iconst C dX9_bow_26 (2 : Int32) (by decide) ?_
      refine rx_idiv C dX9_bow_27 (by decide) ?_
      refine rx_goto C dX9_bow_28 32 (by decide) ?_
      obtain rfl := Option.some.inj hF
      exact rx_iret C dX9_bow_32 (Nat.le_refl _) (Nat.le_refl _) ⟨rfl, rfl⟩
def F_X9_rankOf (om : ob) (x1 : Int32) : Option (Int32) := (F_X9_of om x1 ((4 : Int32))).bind fun y1 => (rx_ald 144 (om.2 1) (((92 : Int32) + y1))).bind fun v2 => some v2
set_option maxRecDepth 100000 in
set_option maxHeartbeats 4000000 in
theorem w_X9_rankOf {m : Nat} {om : ob} {x1 : Int32} {y : Int32} (hF : F_X9_rankOf om x1 = some y) (b_m : bM k m om h) : Met l yX9_rankOf (rx_ws yX9_rankOf cX9_rankOf 2 (some .int)) (rx_rm 1 22) (va_Pc [.ref m, .int x1] (rx_G G k h n)) (va_Qi (fun r u => y = r ∧ u = (h, n)) (rx_B G k) (rx_A k)) 0 0 (rx_A k) := by
  refine rx_start [(0, .ref m), (1, .int x1)] rfl (Nat.le_of_ble_eq_true rfl) (by decide) rfl (fun P9 E9 S9 M9 A9 B9 me9 c9 C hname => ?_)
  unfold F_X9_rankOf at hF
  refine rx_aload_n C dX9_rankOf_0 0 rfl ?_
  refine rx_getf C f_X9_13 dX9_rankOf_1 b_m.1 rfl ?_
  refine rx_bipush C dX9_rankOf_4 (92 : Int32) (by decide) ?_
  refine rx_aload_n C dX9_rankOf_6 0 rfl ?_
  refine rx_iload_n C dX9_rankOf_7 1 rfl ?_
  refine rx_iconst C dX9_rankOf_8 (4 : Int32) (by decide) ?_
  replace hF := rx_biE hF; obtain ⟨y1, e_y1, hF⟩ := hF
  refine rx_ci (rx_rV C (w_X9_of e_y1 b_m) Y_X9_of V_X9_of m_X9_60 (Or.inl ⟨_, _, _, _, b_m.1, rfl⟩) ⟨⟨rfl, rfl⟩, ⟨(Nat.le_of_ble_eq_true rfl), (Nat.le_of_ble_eq_true rfl)⟩, ⟨(Nat.le_of_ble_eq_true rfl), (Nat.le_of_ble_eq_true rfl)⟩⟩ rfl rfl (Nat.le_of_ble_eq_true rfl) dX9_rankOf_9) (fun r hh n1 hpp => ?_)
  obtain ⟨rfl, hu⟩ := hpp
  cases hu
  refine rx_iadd C dX9_rankOf_12 ?_
  replace hF := rx_biE hF; obtain ⟨v2, e_v2, hF⟩ := hF
  refine rx_aldF C dX9_rankOf_13 b_m.2.1 e_v2 ?_
  obtain rfl := Option.some.inj hF
  exact rx_iret C dX9_rankOf_14 (Nat.le_refl _) (Nat.le_refl _) ⟨rfl, rfl⟩
def F_X9_keeperBow (om : ob) (x1 : Int32) (x2 : Int32) : Option (Int32) := (F_X9_of om x1 ((3 : Int32))).bind fun y1 => (F_X9_isKingNow om x1).bind fun y2 => (F_X9_bow ((((80 : Int32) - x2) - y1)) y2).bind fun y3 => some y3
set_option maxRecDepth 100000 in
set_option maxHeartbeats 4000000 in
theorem w_X9_keeperBow {m : Nat} {om : ob} {x1 : Int32} {x2 : Int32} {y : Int32} (hF : F_X9_keeperBow om x1 x2 = some y) (b_m : bM k m om h) : Met l yX9_keeperBow (rx_ws yX9_keeperBow cX9_keeperBow 3 (some .int)) (rx_rm 2 43) (va_Pc [.ref m, .int x1, .int x2] (rx_G G k h n)) (va_Qi (fun r u => y = r ∧ u = (h, n)) (rx_B G k) (rx_A k)) 0 0 (rx_A k) := by
  refine rx_start [(0, .ref m), (1, .int x1), (2, .int x2)] rfl (Nat.le_of_ble_eq_true rfl) (by decide) rfl (fun P9 E9 S9 M9 A9 B9 me9 c9 C hname => ?_)
  unfold F_X9_keeperBow at hF
  refine rx_bipush C dX9_keeperBow_0 (80 : Int32) (by decide) ?_
  refine rx_iload_n C dX9_keeperBow_2 2 rfl ?_
  refine rx_isub C dX9_keeperBow_3 ?_
  refine rx_aload_n C dX9_keeperBow_4 0 rfl ?_
  refine rx_iload_n C dX9_keeperBow_5 1 rfl ?_
  refine rx_iconst C dX9_keeperBow_6 (3 : Int32) (by decide) ?_
  replace hF := rx_biE hF; obtain ⟨y1, e_y1, hF⟩ := hF
  refine rx_ci (rx_rV C (w_X9_of e_y1 b_m) Y_X9_of V_X9_of m_X9_60 (Or.inl ⟨_, _, _, _, b_m.1, rfl⟩) ⟨⟨rfl, rfl⟩, ⟨(Nat.le_of_ble_eq_true rfl), (Nat.le_of_ble_eq_true rfl)⟩, ⟨(Nat.le_of_ble_eq_true rfl), (Nat.le_of_ble_eq_true rfl)⟩⟩ rfl rfl (Nat.le_of_ble_eq_true rfl) dX9_keeperBow_7) (fun r hh n1 hpp => ?_)
  obtain ⟨rfl, hu⟩ := hpp
  cases hu
  refine rx_isub C dX9_keeperBow_10 ?_
  refine rx_aload_n C dX9_keeperBow_11 0 rfl ?_
  refine rx_iload_n C dX9_keeperBow_12 1 rfl ?_
  replace hF := rx_biE hF; obtain ⟨y2, e_y2, hF⟩ := hF
  refine rx_ci (rx_rV C (w_X9_isKingNow e_y2 b_m) Y_X9_isKingNow V_X9_isKingNow m_X9_64 (Or.inl ⟨_, _, _, _, b_m.1, rfl⟩) ⟨⟨rfl, rfl⟩, ⟨(Nat.le_of_ble_eq_true rfl), (Nat.le_of_ble_eq_true rfl)⟩, ⟨(Nat.le_of_ble_eq_true rfl), (Nat.le_of_ble_eq_true rfl)⟩⟩ rfl rfl (Nat.le_of_ble_eq_true rfl) dX9_keeperBow_13) (fun r hh n1 hpp => ?_)
  obtain ⟨rfl, bo_y2, hu⟩ := hpp
  cases hu
  replace hF := rx_biE hF; obtain ⟨y3, e_y3, hF⟩ := hF
  refine rx_ci (rx_rS C (w_X9_bow e_y3 ) Y_X9_bow S_X9_bow m_X9_68 ⟨⟨rfl, rfl⟩, ⟨(Nat.le_of_ble_eq_true rfl), (Nat.le_of_ble_eq_true rfl)⟩, ⟨(Nat.le_of_ble_eq_true rfl), (Nat.le_of_ble_eq_true rfl)⟩⟩ rfl rfl (Nat.le_of_ble_eq_true rfl) dX9_keeperBow_16) (fun r hh n1 hpp => ?_)
  obtain ⟨rfl, hu⟩ := hpp
  cases hu
  obtain rfl := Option.some.inj hF
  exact rx_iret C dX9_keeperBow_19 (Nat.le_refl _) (Nat.le_refl _) ⟨rfl, rfl⟩
def F_X9_isTaken (om : ob) (x1 : Int32) (x2 : Int32) : Option (Int32) := (F_X9_keeperBow om x1 x2).bind fun y1 => (rx_ald 144 (om.2 1) ((1 : Int32))).bind fun v2 => if v2 ≤ y1 then (some ((0 : Int32))) else (some ((1 : Int32)))
set_option maxRecDepth 100000 in
set_option maxHeartbeats 4000000 in
theorem w_X9_isTaken {m : Nat} {om : ob} {x1 : Int32} {x2 : Int32} {y : Int32} (hF : F_X9_isTaken om x1 x2 = some y) (b_m : bM k m om h) : Met l yX9_isTaken (rx_ws yX9_isTaken cX9_isTaken 3 (some .boolean)) (rx_rm 3 65) (va_Pc [.ref m, .int x1, .int x2] (rx_G G k h n)) (va_Qi (fun r u => y = r ∧ (y = 0 ∨ y = 1) ∧ u = (h, n)) (rx_B G k) (rx_A k)) 0 0 (rx_A k) := by
  refine rx_start [(0, .ref m), (1, .int x1), (2, .int x2)] rfl (Nat.le_of_ble_eq_true rfl) (by decide) rfl (fun P9 E9 S9 M9 A9 B9 me9 c9 C hname => ?_)
  unfold F_X9_isTaken at hF
  refine rx_aload_n C dX9_isTaken_0 0 rfl ?_
  refine rx_iload_n C dX9_isTaken_1 1 rfl ?_
  refine rx_iload_n C dX9_isTaken_2 2 rfl ?_
  replace hF := rx_biE hF; obtain ⟨y1, e_y1, hF⟩ := hF
  refine rx_ci (rx_rV C (w_X9_keeperBow e_y1 b_m) Y_X9_keeperBow V_X9_keeperBow m_X9_72 (Or.inl ⟨_, _, _, _, b_m.1, rfl⟩) ⟨⟨rfl, rfl⟩, ⟨(Nat.le_of_ble_eq_true rfl), (Nat.le_of_ble_eq_true rfl)⟩, ⟨(Nat.le_of_ble_eq_true rfl), (Nat.le_of_ble_eq_true rfl)⟩⟩ rfl rfl (Nat.le_of_ble_eq_true rfl) dX9_isTaken_3) (fun r hh n1 hpp => ?_)
  obtain ⟨rfl, hu⟩ := hpp
  cases hu
  refine rx_aload_n C dX9_isTaken_6 0 rfl ?_
  refine rx_getf C f_X9_13 dX9_isTaken_7 b_m.1 rfl ?_
  refine rx_iconst C dX9_isTaken_10 (1 : Int32) (by decide) ?_
  replace hF := rx_biE hF; obtain ⟨v2, e_v2, hF⟩ := hF
  refine rx_aldF C dX9_isTaken_11 b_m.2.1 e_v2 ?_
  refine rx_icmp_ge C dX9_isTaken_12 19 (by decide) (fun c3 => ?_) (fun c3 => ?_)
  · rw [if_pos c3] at hF
    refine rx_iconst C dX9_isTaken_19 (0 : Int32) (by decide) ?_
    obtain rfl := Option.some.inj hF
    exact rx_zret C (rx_nz (Or.inl rfl)) dX9_isTaken_20 (Nat.le_refl _) (Nat.le_refl _) ⟨rfl, (Or.inl rfl), rfl⟩
  · rw [if_neg c3] at hF
    refine rx_iconst C dX9_isTaken_15 (1 : Int32) (by decide) ?_
    refine rx_goto C dX9_isTaken_16 20 (by decide) ?_
    obtain rfl := Option.some.inj hF
    exact rx_zret C (rx_nz (Or.inr rfl)) dX9_isTaken_20 (Nat.le_refl _) (Nat.le_refl _) ⟨rfl, (Or.inr rfl), rfl⟩
def F_X9_tollWith (om : ob) (x1 : Int32) (x2 : Int32) : Option (Int32) := (F_X9_isTaken om x1 x2).bind fun y1 => if y1 = (0 : Int32) then ((rx_ald 144 (om.2 1) ((4 : Int32))).bind fun v3 => some v3) else ((rx_ald 144 (om.2 1) ((3 : Int32))).bind fun v4 => some v4)
set_option maxRecDepth 100000 in
set_option maxHeartbeats 4000000 in
theorem w_X9_tollWith {m : Nat} {om : ob} {x1 : Int32} {x2 : Int32} {y : Int32} (hF : F_X9_tollWith om x1 x2 = some y) (b_m : bM k m om h) : Met l yX9_tollWith (rx_ws yX9_tollWith cX9_tollWith 3 (some .int)) (rx_rm 4 87) (va_Pc [.ref m, .int x1, .int x2] (rx_G G k h n)) (va_Qi (fun r u => y = r ∧ u = (h, n)) (rx_B G k) (rx_A k)) 0 0 (rx_A k) := by
  refine rx_start [(0, .ref m), (1, .int x1), (2, .int x2)] rfl (Nat.le_of_ble_eq_true rfl) (by decide) rfl (fun P9 E9 S9 M9 A9 B9 me9 c9 C hname => ?_)
  unfold F_X9_tollWith at hF
  refine rx_aload_n C dX9_tollWith_0 0 rfl ?_
  refine rx_getf C f_X9_13 dX9_tollWith_1 b_m.1 rfl ?_
  refine rx_aload_n C dX9_tollWith_4 0 rfl ?_
  refine rx_iload_n C dX9_tollWith_5 1 rfl ?_
  refine rx_iload_n C dX9_tollWith_6 2 rfl ?_
  replace hF := rx_biE hF; obtain ⟨y1, e_y1, hF⟩ := hF
  refine rx_ci (rx_rV C (w_X9_isTaken e_y1 b_m) Y_X9_isTaken V_X9_isTaken m_X9_75 (Or.inl ⟨_, _, _, _, b_m.1, rfl⟩) ⟨⟨rfl, rfl⟩, ⟨(Nat.le_of_ble_eq_true rfl), (Nat.le_of_ble_eq_true rfl)⟩, ⟨(Nat.le_of_ble_eq_true rfl), (Nat.le_of_ble_eq_true rfl)⟩⟩ rfl rfl (Nat.le_of_ble_eq_true rfl) dX9_tollWith_7) (fun r hh n1 hpp => ?_)
  obtain ⟨rfl, bo_y1, hu⟩ := hpp
  cases hu
  refine rx_if_eq C dX9_tollWith_10 17 (by decide) (fun c2 => ?_) (fun c2 => ?_)
  · rw [if_pos c2] at hF
    refine rx_iconst C dX9_tollWith_17 (4 : Int32) (by decide) ?_
    replace hF := rx_biE hF; obtain ⟨v3, e_v3, hF⟩ := hF
    refine rx_aldF C dX9_tollWith_18 b_m.2.1 e_v3 ?_
    obtain rfl := Option.some.inj hF
    exact rx_iret C dX9_tollWith_19 (Nat.le_refl _) (Nat.le_refl _) ⟨rfl, rfl⟩
  · rw [if_neg c2] at hF
    refine rx_iconst C dX9_tollWith_13 (3 : Int32) (by decide) ?_
    refine rx_goto C dX9_tollWith_14 18 (by decide) ?_
    replace hF := rx_biE hF; obtain ⟨v4, e_v4, hF⟩ := hF
    refine rx_aldF C dX9_tollWith_18 b_m.2.1 e_v4 ?_
    obtain rfl := Option.some.inj hF
    exact rx_iret C dX9_tollWith_19 (Nat.le_refl _) (Nat.le_refl _) ⟨rfl, rfl⟩
def F_X9_isQueued (om : ob) (x1 : Int32) : Option (Int32) := (F_X9_of om x1 ((6 : Int32))).bind fun y1 => if y1 ≤ (0 : Int32) then (some ((0 : Int32))) else (some ((1 : Int32)))
set_option maxRecDepth 100000 in
set_option maxHeartbeats 4000000 in
theorem w_X9_isQueued {m : Nat} {om : ob} {x1 : Int32} {y : Int32} (hF : F_X9_isQueued om x1 = some y) (b_m : bM k m om h) : Met l yX9_isQueued (rx_ws yX9_isQueued cX9_isQueued 2 (some .boolean)) (rx_rm 1 22) (va_Pc [.ref m, .int x1] (rx_G G k h n)) (va_Qi (fun r u => y = r ∧ (y = 0 ∨ y = 1) ∧ u = (h, n)) (rx_B G k) (rx_A k)) 0 0 (rx_A k) := by
  refine rx_start [(0, .ref m), (1, .int x1)] rfl (Nat.le_of_ble_eq_true rfl) (by decide) rfl (fun P9 E9 S9 M9 A9 B9 me9 c9 C hname => ?_)
  unfold F_X9_isQueued at hF
  refine rx_aload_n C dX9_isQueued_0 0 rfl ?_
  refine rx_iload_n C dX9_isQueued_1 1 rfl ?_
  refine rx_bipush C dX9_isQueued_2 (6 : Int32) (by decide) ?_
  replace hF := rx_biE hF; obtain ⟨y1, e_y1, hF⟩ := hF
  refine rx_ci (rx_rV C (w_X9_of e_y1 b_m) Y_X9_of V_X9_of m_X9_60 (Or.inl ⟨_, _, _, _, b_m.1, rfl⟩) ⟨⟨rfl, rfl⟩, ⟨(Nat.le_of_ble_eq_true rfl), (Nat.le_of_ble_eq_true rfl)⟩, ⟨(Nat.le_of_ble_eq_true rfl), (Nat.le_of_ble_eq_true rfl)⟩⟩ rfl rfl (Nat.le_of_ble_eq_true rfl) dX9_isQueued_4) (fun r hh n1 hpp => ?_)
  obtain ⟨rfl, hu⟩ := hpp
  cases hu
  refine rx_if_le C dX9_isQueued_7 14 (by decide) (fun c2 => ?_) (fun c2 => ?_)
  · rw [if_pos c2] at hF
    refine rx_iconst C dX9_isQueued_14 (0 : Int32) (by decide) ?_
    obtain rfl := Option.some.inj hF
    exact rx_zret C (rx_nz (Or.inl rfl)) dX9_isQueued_15 (Nat.le_refl _) (Nat.le_refl _) ⟨rfl, (Or.inl rfl), rfl⟩
  · rw [if_neg c2] at hF
    refine rx_iconst C dX9_isQueued_10 (1 : Int32) (by decide) ?_
    refine rx_goto C dX9_isQueued_11 15 (by decide) ?_
    obtain rfl := Option.some.inj hF
    exact rx_zret C (rx_nz (Or.inr rfl)) dX9_isQueued_15 (Nat.le_refl _) (Nat.le_refl _) ⟨rfl, (Or.inr rfl), rfl⟩
def F_X9_isAhead (om : ob) (x1 : Int32) (x2 : Int32) : Option (Int32) := (F_X9_of om x1 ((6 : Int32))).bind fun y1 => (F_X9_of om x2 ((6 : Int32))).bind fun y2 => if y2 < y1 then (some ((1 : Int32))) else ((F_X9_of om x1 ((6 : Int32))).bind fun y4 => (F_X9_of om x2 ((6 : Int32))).bind fun y5 => if y4 = y5 then ((F_X9_of om x1 ((7 : Int32))).bind fun y7 => (F_X9_of om x2 ((7 : Int32))).bind fun y8 => if y8 ≤ y7 then (some ((0 : Int32))) else (some ((1 : Int32)))) else (some ((0 : Int32))))
set_option maxRecDepth 100000 in
set_option maxHeartbeats 4000000 in
theorem w_X9_isAhead {m : Nat} {om : ob} {x1 : Int32} {x2 : Int32} {y : Int32} (hF : F_X9_isAhead om x1 x2 = some y) (b_m : bM k m om h) : Met l yX9_isAhead (rx_ws yX9_isAhead cX9_isAhead 3 (some .boolean)) (rx_rm 1 22) (va_Pc [.ref m, .int x1, .int x2] (rx_G G k h n)) (va_Qi (fun r u => y = r ∧ (y = 0 ∨ y = 1) ∧ u = (h, n)) (rx_B G k) (rx_A k)) 0 0 (rx_A k) := by
  refine rx_start [(0, .ref m), (1, .int x1), (2, .int x2)] rfl (Nat.le_of_ble_eq_true rfl) (by decide) rfl (fun P9 E9 S9 M9 A9 B9 me9 c9 C hname => ?_)
  unfold F_X9_isAhead at hF
  refine rx_aload_n C dX9_isAhead_0 0 rfl ?_
  refine rx_iload_n C dX9_isAhead_1 1 rfl ?_
  refine rx_bipush C dX9_isAhead_2 (6 : Int32) (by decide) ?_
  replace hF := rx_biE hF; obtain ⟨y1, e_y1, hF⟩ := hF
  refine rx_ci (rx_rV C (w_X9_of e_y1 b_m) Y_X9_of V_X9_of m_X9_60 (Or.inl ⟨_, _, _, _, b_m.1, rfl⟩) ⟨⟨rfl, rfl⟩, ⟨(Nat.le_of_ble_eq_true rfl), (Nat.le_of_ble_eq_true rfl)⟩, ⟨(Nat.le_of_ble_eq_true rfl), (Nat.le_of_ble_eq_true rfl)⟩⟩ rfl rfl (Nat.le_of_ble_eq_true rfl) dX9_isAhead_4) (fun r hh n1 hpp => ?_)
  obtain ⟨rfl, hu⟩ := hpp
  cases hu
  refine rx_aload_n C dX9_isAhead_7 0 rfl ?_
  refine rx_iload_n C dX9_isAhead_8 2 rfl ?_
  refine rx_bipush C dX9_isAhead_9 (6 : Int32) (by decide) ?_
  replace hF := rx_biE hF; obtain ⟨y2, e_y2, hF⟩ := hF
  refine rx_ci (rx_rV C (w_X9_of e_y2 b_m) Y_X9_of V_X9_of m_X9_60 (Or.inl ⟨_, _, _, _, b_m.1, rfl⟩) ⟨⟨rfl, rfl⟩, ⟨(Nat.le_of_ble_eq_true rfl), (Nat.le_of_ble_eq_true rfl)⟩, ⟨(Nat.le_of_ble_eq_true rfl), (Nat.le_of_ble_eq_true rfl)⟩⟩ rfl rfl (Nat.le_of_ble_eq_true rfl) dX9_isAhead_11) (fun r hh n1 hpp => ?_)
  obtain ⟨rfl, hu⟩ := hpp
  cases hu
  refine rx_icmp_gt C dX9_isAhead_14 51 (by decide) (fun c3 => ?_) (fun c3 => ?_)
  · rw [if_pos c3] at hF
    refine rx_iconst C dX9_isAhead_51 (1 : Int32) (by decide) ?_
    refine rx_goto C dX9_isAhead_52 56 (by decide) ?_
    obtain rfl := Option.some.inj hF
    exact rx_zret C (rx_nz (Or.inr rfl)) dX9_isAhead_56 (Nat.le_refl _) (Nat.le_refl _) ⟨rfl, (Or.inr rfl), rfl⟩
  · rw [if_neg c3] at hF
    refine rx_aload_n C dX9_isAhead_17 0 rfl ?_
    refine rx_iload_n C dX9_isAhead_18 1 rfl ?_
    refine rx_bipush C dX9_isAhead_19 (6 : Int32) (by decide) ?_
    replace hF := rx_biE hF; obtain ⟨y4, e_y4, hF⟩ := hF
    refine rx_ci (rx_rV C (w_X9_of e_y4 b_m) Y_X9_of V_X9_of m_X9_60 (Or.inl ⟨_, _, _, _, b_m.1, rfl⟩) ⟨⟨rfl, rfl⟩, ⟨(Nat.le_of_ble_eq_true rfl), (Nat.le_of_ble_eq_true rfl)⟩, ⟨(Nat.le_of_ble_eq_true rfl), (Nat.le_of_ble_eq_true rfl)⟩⟩ rfl rfl (Nat.le_of_ble_eq_true rfl) dX9_isAhead_21) (fun r hh n1 hpp => ?_)
    obtain ⟨rfl, hu⟩ := hpp
    cases hu
    refine rx_aload_n C dX9_isAhead_24 0 rfl ?_
    refine rx_iload_n C dX9_isAhead_25 2 rfl ?_
    refine rx_bipush C dX9_isAhead_26 (6 : Int32) (by decide) ?_
    replace hF := rx_biE hF; obtain ⟨y5, e_y5, hF⟩ := hF
    refine rx_ci (rx_rV C (w_X9_of e_y5 b_m) Y_X9_of V_X9_of m_X9_60 (Or.inl ⟨_, _, _, _, b_m.1, rfl⟩) ⟨⟨rfl, rfl⟩, ⟨(Nat.le_of_ble_eq_true rfl), (Nat.le_of_ble_eq_true rfl)⟩, ⟨(Nat.le_of_ble_eq_true rfl), (Nat.le_of_ble_eq_true rfl)⟩⟩ rfl rfl (Nat.le_of_ble_eq_true rfl) dX9_isAhead_28) (fun r hh n1 hpp => ?_)
    obtain ⟨rfl, hu⟩ := hpp
    cases hu
    refine rx_icmp_ne C dX9_isAhead_31 55 (by decide) (fun c6 => ?_) (fun c6 => ?_)
    · rw [if_neg c6] at hF
      refine rx_iconst C dX9_isAhead_55 (0 : Int32) (by decide) ?_
      obtain rfl := Option.some.inj hF
      exact rx_zret C (rx_nz (Or.inl rfl)) dX9_isAhead_56 (Nat.le_refl _) (Nat.le_refl _) ⟨rfl, (Or.inl rfl), rfl⟩
    · rw [if_pos c6] at hF
      refine rx_aload_n C dX9_isAhead_34 0 rfl ?_
      refine rx_iload_n C dX9_isAhead_35 1 rfl ?_
      refine rx_bipush C dX9_isAhead_36 (7 : Int32) (by decide) ?_
      replace hF := rx_biE hF; obtain ⟨y7, e_y7, hF⟩ := hF
      refine rx_ci (rx_rV C (w_X9_of e_y7 b_m) Y_X9_of V_X9_of m_X9_60 (Or.inl ⟨_, _, _, _, b_m.1, rfl⟩) ⟨⟨rfl, rfl⟩, ⟨(Nat.le_of_ble_eq_true rfl), (Nat.le_of_ble_eq_true rfl)⟩, ⟨(Nat.le_of_ble_eq_true rfl), (Nat.le_of_ble_eq_true rfl)⟩⟩ rfl rfl (Nat.le_of_ble_eq_true rfl) dX9_isAhead_38) (fun r hh n1 hpp => ?_)
      obtain ⟨rfl, hu⟩ := hpp
      cases hu
      refine rx_aload_n C dX9_isAhead_41 0 rfl ?_
      refine rx_iload_n C dX9_isAhead_42 2 rfl ?_
      refine rx_bipush C dX9_isAhead_43 (7 : Int32) (by decide) ?_
      replace hF := rx_biE hF; obtain ⟨y8, e_y8, hF⟩ := hF
      refine rx_ci (rx_rV C (w_X9_of e_y8 b_m) Y_X9_of V_X9_of m_X9_60 (Or.inl ⟨_, _, _, _, b_m.1, rfl⟩) ⟨⟨rfl, rfl⟩, ⟨(Nat.le_of_ble_eq_true rfl), (Nat.le_of_ble_eq_true rfl)⟩, ⟨(Nat.le_of_ble_eq_true rfl), (Nat.le_of_ble_eq_true rfl)⟩⟩ rfl rfl (Nat.le_of_ble_eq_true rfl) dX9_isAhead_45) (fun r hh n1 hpp => ?_)
      obtain ⟨rfl, hu⟩ := hpp
      cases hu
      refine rx_icmp_ge C dX9_isAhead_48 55 (by decide) (fun c10 => ?_) (fun c10 => ?_)
      · rw [if_pos c10] at hF
        refine rx_iconst C dX9_isAhead_55 (0 : Int32) (by decide) ?_
        obtain rfl := Option.some.inj hF
        exact rx_zret C (rx_nz (Or.inl rfl)) dX9_isAhead_56 (Nat.le_refl _) (Nat.le_refl _) ⟨rfl, (Or.inl rfl), rfl⟩
      · rw [if_neg c10] at hF
        refine rx_iconst C dX9_isAhead_51 (1 : Int32) (by decide) ?_
        refine rx_goto C dX9_isAhead_52 56 (by decide) ?_
        obtain rfl := Option.some.inj hF
        exact rx_zret C (rx_nz (Or.inr rfl)) dX9_isAhead_56 (Nat.le_refl _) (Nat.le_refl _) ⟨rfl, (Or.inr rfl), rfl⟩
def F_X9_placeOf_4 (om : ob) (x1 : Int32) : Nat → Int32 → Int32 → Option (Int32 × Int32)
  | 0, _, _ => none
  | fu + 1, x2, x3 => (rx_ald 144 (om.2 1) ((8 : Int32))).bind fun v3 => if v3 ≤ x3 then (some (x2, x3)) else (if x3 = x1 then ((F_X9_truth ((0 : Int32))).bind fun y6 => rx_le ((x2 + y6)) fun v7 => F_X9_placeOf_4 om x1 fu v7 ((x3 + 1))) else ((F_X9_isQueued om x3).bind fun y8 => if y8 = (0 : Int32) then ((F_X9_truth ((0 : Int32))).bind fun y11 => rx_le ((x2 + y11)) fun v12 => F_X9_placeOf_4 om x1 fu v12 ((x3 + 1))) else ((F_X9_of om x3 ((1 : Int32))).bind fun y13 => (F_X9_of om x1 ((1 : Int32))).bind fun y14 => if y13 = y14 then ((F_X9_isAhead om x3 x1).bind fun y18 => if y18 = (0 : Int32) then ((F_X9_truth ((0 : Int32))).bind fun y20 => rx_le ((x2 + y20)) fun v21 => F_X9_placeOf_4 om x1 fu v21 ((x3 + 1))) else ((F_X9_truth ((1 : Int32))).bind fun y22 => rx_le ((x2 + y22)) fun v23 => F_X9_placeOf_4 om x1 fu v23 ((x3 + 1)))) else ((F_X9_truth ((0 : Int32))).bind fun y16 => rx_le ((x2 + y16)) fun v17 => F_X9_placeOf_4 om x1 fu v17 ((x3 + 1))))))
def F_X9_placeOf (om : ob) (x1 : Int32) : Option (Int32) := (F_X9_placeOf_4 om x1 100000 ((0 : Int32)) ((0 : Int32))).bind fun zl24 => some zl24.1
set_option maxRecDepth 100000 in
set_option maxHeartbeats 4000000 in
theorem w_X9_placeOf {m : Nat} {om : ob} {x1 : Int32} {y : Int32} (hF : F_X9_placeOf om x1 = some y) (b_m : bM k m om h) : Met l yX9_placeOf (rx_ws yX9_placeOf cX9_placeOf 4 (some .int)) (rx_rm 2 44) (va_Pc [.ref m, .int x1] (rx_G G k h n)) (va_Qi (fun r u => y = r ∧ u = (h, n)) (rx_B G k) (rx_A k)) 0 0 (rx_A k) := by
  refine rx_start [(0, .ref m), (1, .int x1)] rfl (Nat.le_of_ble_eq_true rfl) (by decide) rfl (fun P9 E9 S9 M9 A9 B9 me9 c9 C hname => ?_)
  unfold F_X9_placeOf at hF
  refine rx_iconst C dX9_placeOf_0 (0 : Int32) (by decide) ?_
  refine rx_istore_n C dX9_placeOf_1 (by decide) [(2, .int ((0 : Int32))), (0, .ref m), (1, .int x1)] rfl ?_
  refine rx_iconst C dX9_placeOf_2 (0 : Int32) (by decide) ?_
  refine rx_istore_n C dX9_placeOf_3 (by decide) [(3, .int ((0 : Int32))), (2, .int ((0 : Int32))), (0, .ref m), (1, .int x1)] rfl ?_
  have loop2 : ∀ (fu : Nat) (zz : Int32 × Int32)  (x2 : Int32) (x3 : Int32), F_X9_placeOf_4 om x1 fu x2 x3 = some zz → bM k m om h → (rx_W P9 l E9 (rx_rm 2 44) S9 M9 A9 B9 me9 c9 (MQ B9 (va_Qi (fun r u => y = r ∧ u = (h, n)) (rx_B G k) (rx_A k)) A9 S9 0 0 (rx_A k)) G k 4 0 0 h n 69 [(0, .ref m), (1, .int x1), (2, .int zz.1), (3, .int zz.2)] []) → rx_W P9 l E9 (rx_rm 2 44) S9 M9 A9 B9 me9 c9 (MQ B9 (va_Qi (fun r u => y = r ∧ u = (h, n)) (rx_B G k) (rx_A k)) A9 S9 0 0 (rx_A k)) G k 4 0 0 h n 4 [(0, .ref m), (1, .int x1), (2, .int x2), (3, .int x3)] [] := by
    intro fu
    induction fu with
    | zero => intro zz x2 x3 hF b_m KK; exact absurd hF (by simp [F_X9_placeOf_4])
    | succ fu ih_loop2 =>
      intro zz x2 x3 hF b_m KK
      unfold F_X9_placeOf_4 at hF
      refine rx_iload_n C dX9_placeOf_4 3 rfl ?_
      refine rx_aload_n C dX9_placeOf_5 0 rfl ?_
      refine rx_getf C f_X9_13 dX9_placeOf_6 b_m.1 rfl ?_
      refine rx_bipush C dX9_placeOf_9 (8 : Int32) (by decide) ?_
      replace hF := rx_biE hF; obtain ⟨v3, e_v3, hF⟩ := hF
      refine rx_aldF C dX9_placeOf_11 b_m.2.1 e_v3 ?_
      refine rx_icmp_ge C dX9_placeOf_12 69 (by decide) (fun c4 => ?_) (fun c4 => ?_)
      · rw [if_pos c4] at hF
        obtain rfl := Option.some.inj hF
        refine rx_sub [0, 1, 2, 3] rfl ?_
        exact KK
      · rw [if_neg c4] at hF
        refine rx_iload_n C dX9_placeOf_15 2 rfl ?_
        refine rx_iload_n C dX9_placeOf_16 3 rfl ?_
        refine rx_iload_n C dX9_placeOf_17 1 rfl ?_
        refine rx_icmp_eq C dX9_placeOf_18 57 (by decide) (fun c5 => ?_) (fun c5 => ?_)
        · rw [if_pos c5] at hF
          refine rx_iconst C dX9_placeOf_57 (0 : Int32) (by decide) ?_
          replace hF := rx_biE hF; obtain ⟨y6, e_y6, hF⟩ := hF
          refine rx_ci (rx_rS C (w_X9_truth e_y6 ) Y_X9_truth S_X9_truth m_X9_85 ⟨⟨rfl, rfl⟩, ⟨(Nat.le_of_ble_eq_true rfl), (Nat.le_of_ble_eq_true rfl)⟩, ⟨(Nat.le_of_ble_eq_true rfl), (Nat.le_of_ble_eq_true rfl)⟩⟩ rfl rfl (Nat.le_of_ble_eq_true rfl) dX9_placeOf_58) (fun r hh n1 hpp => ?_)
          obtain ⟨rfl, hu⟩ := hpp
          cases hu
          refine rx_iadd C dX9_placeOf_61 ?_
          replace hF := rx_leE hF; obtain ⟨v7, e_v7, hF⟩ := hF
          rw [e_v7]
          refine rx_istore_n C dX9_placeOf_62 (by decide) [(2, .int v7), (0, .ref m), (1, .int x1), (3, .int x3)] rfl ?_
          refine rx_iinc C dX9_placeOf_63 3 rfl (x3 + 1) rfl (by decide) [(3, .int ((x3 + 1))), (2, .int v7), (0, .ref m), (1, .int x1)] rfl ?_
          refine rx_goto C dX9_placeOf_66 4 (by decide) ?_
          refine rx_sub [2, 3, 1, 0] rfl ?_
          exact ih_loop2 _ _ _ hF b_m KK
        · rw [if_neg c5] at hF
          refine rx_aload_n C dX9_placeOf_21 0 rfl ?_
          refine rx_iload_n C dX9_placeOf_22 3 rfl ?_
          replace hF := rx_biE hF; obtain ⟨y8, e_y8, hF⟩ := hF
          refine rx_ci (rx_rV C (w_X9_isQueued e_y8 b_m) Y_X9_isQueued V_X9_isQueued m_X9_79 (Or.inl ⟨_, _, _, _, b_m.1, rfl⟩) ⟨⟨rfl, rfl⟩, ⟨(Nat.le_of_ble_eq_true rfl), (Nat.le_of_ble_eq_true rfl)⟩, ⟨(Nat.le_of_ble_eq_true rfl), (Nat.le_of_ble_eq_true rfl)⟩⟩ rfl rfl (Nat.le_of_ble_eq_true rfl) dX9_placeOf_23) (fun r hh n1 hpp => ?_)
          obtain ⟨rfl, bo_y8, hu⟩ := hpp
          cases hu
          refine rx_if_eq C dX9_placeOf_26 57 (by decide) (fun c10 => ?_) (fun c10 => ?_)
          · rw [if_pos c10] at hF
            refine rx_iconst C dX9_placeOf_57 (0 : Int32) (by decide) ?_
            replace hF := rx_biE hF; obtain ⟨y11, e_y11, hF⟩ := hF
            refine rx_ci (rx_rS C (w_X9_truth e_y11 ) Y_X9_truth S_X9_truth m_X9_85 ⟨⟨rfl, rfl⟩, ⟨(Nat.le_of_ble_eq_true rfl), (Nat.le_of_ble_eq_true rfl)⟩, ⟨(Nat.le_of_ble_eq_true rfl), (Nat.le_of_ble_eq_true rfl)⟩⟩ rfl rfl (Nat.le_of_ble_eq_true rfl) dX9_placeOf_58) (fun r hh n1 hpp => ?_)
            obtain ⟨rfl, hu⟩ := hpp
            cases hu
            refine rx_iadd C dX9_placeOf_61 ?_
            replace hF := rx_leE hF; obtain ⟨v12, e_v12, hF⟩ := hF
            rw [e_v12]
            refine rx_istore_n C dX9_placeOf_62 (by decide) [(2, .int v12), (0, .ref m), (1, .int x1), (3, .int x3)] rfl ?_
            refine rx_iinc C dX9_placeOf_63 3 rfl (x3 + 1) rfl (by decide) [(3, .int ((x3 + 1))), (2, .int v12), (0, .ref m), (1, .int x1)] rfl ?_
            refine rx_goto C dX9_placeOf_66 4 (by decide) ?_
            refine rx_sub [2, 3, 1, 0] rfl ?_
            exact ih_loop2 _ _ _ hF b_m KK
          · rw [if_neg c10] at hF
            refine rx_aload_n C dX9_placeOf_29 0 rfl ?_
            refine rx_iload_n C dX9_placeOf_30 3 rfl ?_
            refine rx_iconst C dX9_placeOf_31 (1 : Int32) (by decide) ?_
            replace hF := rx_biE hF; obtain ⟨y13, e_y13, hF⟩ := hF
            refine rx_ci (rx_rV C (w_X9_of e_y13 b_m) Y_X9_of V_X9_of m_X9_60 (Or.inl ⟨_, _, _, _, b_m.1, rfl⟩) ⟨⟨rfl, rfl⟩, ⟨(Nat.le_of_ble_eq_true rfl), (Nat.le_of_ble_eq_true rfl)⟩, ⟨(Nat.le_of_ble_eq_true rfl), (Nat.le_of_ble_eq_true rfl)⟩⟩ rfl rfl (Nat.le_of_ble_eq_true rfl) dX9_placeOf_32) (fun r hh n1 hpp => ?_)
            obtain ⟨rfl, hu⟩ := hpp
            cases hu
            refine rx_aload_n C dX9_placeOf_35 0 rfl ?_
            refine rx_iload_n C dX9_placeOf_36 1 rfl ?_
            refine rx_iconst C dX9_placeOf_37 (1 : Int32) (by decide) ?_
            replace hF := rx_biE hF; obtain ⟨y14, e_y14, hF⟩ := hF
            refine rx_ci (rx_rV C (w_X9_of e_y14 b_m) Y_X9_of V_X9_of m_X9_60 (Or.inl ⟨_, _, _, _, b_m.1, rfl⟩) ⟨⟨rfl, rfl⟩, ⟨(Nat.le_of_ble_eq_true rfl), (Nat.le_of_ble_eq_true rfl)⟩, ⟨(Nat.le_of_ble_eq_true rfl), (Nat.le_of_ble_eq_true rfl)⟩⟩ rfl rfl (Nat.le_of_ble_eq_true rfl) dX9_placeOf_38) (fun r hh n1 hpp => ?_)
            obtain ⟨rfl, hu⟩ := hpp
            cases hu
            refine rx_icmp_ne C dX9_placeOf_41 57 (by decide) (fun c15 => ?_) (fun c15 => ?_)
            · rw [if_neg c15] at hF
              refine rx_iconst C dX9_placeOf_57 (0 : Int32) (by decide) ?_
              replace hF := rx_biE hF; obtain ⟨y16, e_y16, hF⟩ := hF
              refine rx_ci (rx_rS C (w_X9_truth e_y16 ) Y_X9_truth S_X9_truth m_X9_85 ⟨⟨rfl, rfl⟩, ⟨(Nat.le_of_ble_eq_true rfl), (Nat.le_of_ble_eq_true rfl)⟩, ⟨(Nat.le_of_ble_eq_true rfl), (Nat.le_of_ble_eq_true rfl)⟩⟩ rfl rfl (Nat.le_of_ble_eq_true rfl) dX9_placeOf_58) (fun r hh n1 hpp => ?_)
              obtain ⟨rfl, hu⟩ := hpp
              cases hu
              refine rx_iadd C dX9_placeOf_61 ?_
              replace hF := rx_leE hF; obtain ⟨v17, e_v17, hF⟩ := hF
              rw [e_v17]
              refine rx_istore_n C dX9_placeOf_62 (by decide) [(2, .int v17), (0, .ref m), (1, .int x1), (3, .int x3)] rfl ?_
              refine rx_iinc C dX9_placeOf_63 3 rfl (x3 + 1) rfl (by decide) [(3, .int ((x3 + 1))), (2, .int v17), (0, .ref m), (1, .int x1)] rfl ?_
              refine rx_goto C dX9_placeOf_66 4 (by decide) ?_
              refine rx_sub [2, 3, 1, 0] rfl ?_
              exact ih_loop2 _ _ _ hF b_m KK
            · rw [if_pos c15] at hF
              refine rx_aload_n C dX9_placeOf_44 0 rfl ?_
              refine rx_iload_n C dX9_placeOf_45 3 rfl ?_
              refine rx_iload_n C dX9_placeOf_46 1 rfl ?_
              replace hF := rx_biE hF; obtain ⟨y18, e_y18, hF⟩ := hF
              refine rx_ci (rx_rV C (w_X9_isAhead e_y18 b_m) Y_X9_isAhead V_X9_isAhead m_X9_82 (Or.inl ⟨_, _, _, _, b_m.1, rfl⟩) ⟨⟨rfl, rfl⟩, ⟨(Nat.le_of_ble_eq_true rfl), (Nat.le_of_ble_eq_true rfl)⟩, ⟨(Nat.le_of_ble_eq_true rfl), (Nat.le_of_ble_eq_true rfl)⟩⟩ rfl rfl (Nat.le_of_ble_eq_true rfl) dX9_placeOf_47) (fun r hh n1 hpp => ?_)
              obtain ⟨rfl, bo_y18, hu⟩ := hpp
              cases hu
              refine rx_if_eq C dX9_placeOf_50 57 (by decide) (fun c19 => ?_) (fun c19 => ?_)
              · rw [if_pos c19] at hF
                refine rx_iconst C dX9_placeOf_57 (0 : Int32) (by decide) ?_
                replace hF := rx_biE hF; obtain ⟨y20, e_y20, hF⟩ := hF
                refine rx_ci (rx_rS C (w_X9_truth e_y20 ) Y_X9_truth S_X9_truth m_X9_85 ⟨⟨rfl, rfl⟩, ⟨(Nat.le_of_ble_eq_true rfl), (Nat.le_of_ble_eq_true rfl)⟩, ⟨(Nat.le_of_ble_eq_true rfl), (Nat.le_of_ble_eq_true rfl)⟩⟩ rfl rfl (Nat.le_of_ble_eq_true rfl) dX9_placeOf_58) (fun r hh n1 hpp => ?_)
                obtain ⟨rfl, hu⟩ := hpp
                cases hu
                refine rx_iadd C dX9_placeOf_61 ?_
                replace hF := rx_leE hF; obtain ⟨v21, e_v21, hF⟩ := hF
                rw [e_v21]
                refine rx_istore_n C dX9_placeOf_62 (by decide) [(2, .int v21), (0, .ref m), (1, .int x1), (3, .int x3)] rfl ?_
                refine rx_iinc C dX9_placeOf_63 3 rfl (x3 + 1) rfl (by decide) [(3, .int ((x3 + 1))), (2, .int v21), (0, .ref m), (1, .int x1)] rfl ?_
                refine rx_goto C dX9_placeOf_66 4 (by decide) ?_
                refine rx_sub [2, 3, 1, 0] rfl ?_
                exact ih_loop2 _ _ _ hF b_m KK
              · rw [if_neg c19] at hF
                refine rx_iconst C dX9_placeOf_53 (1 : Int32) (by decide) ?_
                refine rx_goto C dX9_placeOf_54 58 (by decide) ?_
                replace hF := rx_biE hF; obtain ⟨y22, e_y22, hF⟩ := hF
                refine rx_ci (rx_rS C (w_X9_truth e_y22 ) Y_X9_truth S_X9_truth m_X9_85 ⟨⟨rfl, rfl⟩, ⟨(Nat.le_of_ble_eq_true rfl), (Nat.le_of_ble_eq_true rfl)⟩, ⟨(Nat.le_of_ble_eq_true rfl), (Nat.le_of_ble_eq_true rfl)⟩⟩ rfl rfl (Nat.le_of_ble_eq_true rfl) dX9_placeOf_58) (fun r hh n1 hpp => ?_)
                obtain ⟨rfl, hu⟩ := hpp
                cases hu
                refine rx_iadd C dX9_placeOf_61 ?_
                replace hF := rx_leE hF; obtain ⟨v23, e_v23, hF⟩ := hF
                rw [e_v23]
                refine rx_istore_n C dX9_placeOf_62 (by decide) [(2, .int v23), (0, .ref m), (1, .int x1), (3, .int x3)] rfl ?_
                refine rx_iinc C dX9_placeOf_63 3 rfl (x3 + 1) rfl (by decide) [(3, .int ((x3 + 1))), (2, .int v23), (0, .ref m), (1, .int x1)] rfl ?_
                refine rx_goto C dX9_placeOf_66 4 (by decide) ?_
                refine rx_sub [2, 3, 1, 0] rfl ?_
                exact ih_loop2 _ _ _ hF b_m KK
  refine rx_sub [2, 3, 1, 0] rfl ?_
  replace hF := rx_biE hF; obtain ⟨zl24, e_zl24, hF⟩ := hF
  refine loop2 _ zl24 _ _ e_zl24 b_m ?_
  refine rx_iload_n C dX9_placeOf_69 2 rfl ?_
  obtain rfl := Option.some.inj hF
  exact rx_iret C dX9_placeOf_70 (Nat.le_refl _) (Nat.le_refl _) ⟨rfl, rfl⟩
def F_X9_at_2 (om : ob) (x1 : Int32) (x2 : Int32) : Nat → Int32 → Option (Int32)
  | 0, _ => none
  | fu + 1, x3 => (rx_ald 144 (om.2 1) ((8 : Int32))).bind fun v3 => if v3 ≤ x3 then (some ((-1 : Int32))) else ((F_X9_isQueued om x3).bind fun y5 => if y5 = (0 : Int32) then (F_X9_at_2 om x1 x2 fu ((x3 + 1))) else ((F_X9_of om x3 ((1 : Int32))).bind fun y7 => if y7 = x1 then ((F_X9_placeOf om x3).bind fun y9 => if y9 = x2 then (some x3) else (F_X9_at_2 om x1 x2 fu ((x3 + 1)))) else (F_X9_at_2 om x1 x2 fu ((x3 + 1)))))
def F_X9_at (om : ob) (x1 : Int32) (x2 : Int32) : Option (Int32) := F_X9_at_2 om x1 x2 100000 ((0 : Int32))
set_option maxRecDepth 100000 in
set_option maxHeartbeats 4000000 in
theorem w_X9_at {m : Nat} {om : ob} {x1 : Int32} {x2 : Int32} {y : Int32} (hF : F_X9_at om x1 x2 = some y) (b_m : bM k m om h) : Met l yX9_at (rx_ws yX9_at cX9_at 4 (some .int)) (rx_rm 3 67) (va_Pc [.ref m, .int x1, .int x2] (rx_G G k h n)) (va_Qi (fun r u => y = r ∧ u = (h, n)) (rx_B G k) (rx_A k)) 0 0 (rx_A k) := by
  refine rx_start [(0, .ref m), (1, .int x1), (2, .int x2)] rfl (Nat.le_of_ble_eq_true rfl) (by decide) rfl (fun P9 E9 S9 M9 A9 B9 me9 c9 C hname => ?_)
  unfold F_X9_at at hF
  refine rx_iconst C dX9_at_0 (0 : Int32) (by decide) ?_
  refine rx_istore_n C dX9_at_1 (by decide) [(3, .int ((0 : Int32))), (0, .ref m), (1, .int x1), (2, .int x2)] rfl ?_
  have loop2 : ∀ (fu : Nat)  (x3 : Int32), F_X9_at_2 om x1 x2 fu x3 = some y → bM k m om h → rx_W P9 l E9 (rx_rm 3 67) S9 M9 A9 B9 me9 c9 (MQ B9 (va_Qi (fun r u => y = r ∧ u = (h, n)) (rx_B G k) (rx_A k)) A9 S9 0 0 (rx_A k)) G k 4 0 0 h n 2 [(0, .ref m), (1, .int x1), (2, .int x2), (3, .int x3)] [] := by
    intro fu
    induction fu with
    | zero => intro x3 hF b_m; exact absurd hF (by simp [F_X9_at_2])
    | succ fu ih_loop2 =>
      intro x3 hF b_m
      unfold F_X9_at_2 at hF
      refine rx_iload_n C dX9_at_2 3 rfl ?_
      refine rx_aload_n C dX9_at_3 0 rfl ?_
      refine rx_getf C f_X9_13 dX9_at_4 b_m.1 rfl ?_
      refine rx_bipush C dX9_at_7 (8 : Int32) (by decide) ?_
      replace hF := rx_biE hF; obtain ⟨v3, e_v3, hF⟩ := hF
      refine rx_aldF C dX9_at_9 b_m.2.1 e_v3 ?_
      refine rx_icmp_ge C dX9_at_10 48 (by decide) (fun c4 => ?_) (fun c4 => ?_)
      · rw [if_pos c4] at hF
        refine rx_iconst C dX9_at_48 (-1 : Int32) (by decide) ?_
        obtain rfl := Option.some.inj hF
        exact rx_iret C dX9_at_49 (Nat.le_refl _) (Nat.le_refl _) ⟨rfl, rfl⟩
      · rw [if_neg c4] at hF
        refine rx_aload_n C dX9_at_13 0 rfl ?_
        refine rx_iload_n C dX9_at_14 3 rfl ?_
        replace hF := rx_biE hF; obtain ⟨y5, e_y5, hF⟩ := hF
        refine rx_ci (rx_rV C (w_X9_isQueued e_y5 b_m) Y_X9_isQueued V_X9_isQueued m_X9_79 (Or.inl ⟨_, _, _, _, b_m.1, rfl⟩) ⟨⟨rfl, rfl⟩, ⟨(Nat.le_of_ble_eq_true rfl), (Nat.le_of_ble_eq_true rfl)⟩, ⟨(Nat.le_of_ble_eq_true rfl), (Nat.le_of_ble_eq_true rfl)⟩⟩ rfl rfl (Nat.le_of_ble_eq_true rfl) dX9_at_15) (fun r hh n1 hpp => ?_)
        obtain ⟨rfl, bo_y5, hu⟩ := hpp
        cases hu
        refine rx_if_eq C dX9_at_18 42 (by decide) (fun c6 => ?_) (fun c6 => ?_)
        · rw [if_pos c6] at hF
          refine rx_iinc C dX9_at_42 3 rfl (x3 + 1) rfl (by decide) [(3, .int ((x3 + 1))), (0, .ref m), (1, .int x1), (2, .int x2)] rfl ?_
          refine rx_goto C dX9_at_45 2 (by decide) ?_
          refine rx_sub [1, 2, 3, 0] rfl ?_
          exact ih_loop2 _ hF b_m
        · rw [if_neg c6] at hF
          refine rx_aload_n C dX9_at_21 0 rfl ?_
          refine rx_iload_n C dX9_at_22 3 rfl ?_
          refine rx_iconst C dX9_at_23 (1 : Int32) (by decide) ?_
          replace hF := rx_biE hF; obtain ⟨y7, e_y7, hF⟩ := hF
          refine rx_ci (rx_rV C (w_X9_of e_y7 b_m) Y_X9_of V_X9_of m_X9_60 (Or.inl ⟨_, _, _, _, b_m.1, rfl⟩) ⟨⟨rfl, rfl⟩, ⟨(Nat.le_of_ble_eq_true rfl), (Nat.le_of_ble_eq_true rfl)⟩, ⟨(Nat.le_of_ble_eq_true rfl), (Nat.le_of_ble_eq_true rfl)⟩⟩ rfl rfl (Nat.le_of_ble_eq_true rfl) dX9_at_24) (fun r hh n1 hpp => ?_)
          obtain ⟨rfl, hu⟩ := hpp
          cases hu
          refine rx_iload_n C dX9_at_27 1 rfl ?_
          refine rx_icmp_ne C dX9_at_28 42 (by decide) (fun c8 => ?_) (fun c8 => ?_)
          · rw [if_neg c8] at hF
            refine rx_iinc C dX9_at_42 3 rfl (x3 + 1) rfl (by decide) [(3, .int ((x3 + 1))), (0, .ref m), (1, .int x1), (2, .int x2)] rfl ?_
            refine rx_goto C dX9_at_45 2 (by decide) ?_
            refine rx_sub [1, 2, 3, 0] rfl ?_
            exact ih_loop2 _ hF b_m
          · rw [if_pos c8] at hF
            refine rx_aload_n C dX9_at_31 0 rfl ?_
            refine rx_iload_n C dX9_at_32 3 rfl ?_
            replace hF := rx_biE hF; obtain ⟨y9, e_y9, hF⟩ := hF
            refine rx_ci (rx_rV C (w_X9_placeOf e_y9 b_m) Y_X9_placeOf V_X9_placeOf m_X9_89 (Or.inl ⟨_, _, _, _, b_m.1, rfl⟩) ⟨⟨rfl, rfl⟩, ⟨(Nat.le_of_ble_eq_true rfl), (Nat.le_of_ble_eq_true rfl)⟩, ⟨(Nat.le_of_ble_eq_true rfl), (Nat.le_of_ble_eq_true rfl)⟩⟩ rfl rfl (Nat.le_of_ble_eq_true rfl) dX9_at_33) (fun r hh n1 hpp => ?_)
            obtain ⟨rfl, hu⟩ := hpp
            cases hu
            refine rx_iload_n C dX9_at_36 2 rfl ?_
            refine rx_icmp_ne C dX9_at_37 42 (by decide) (fun c10 => ?_) (fun c10 => ?_)
            · rw [if_neg c10] at hF
              refine rx_iinc C dX9_at_42 3 rfl (x3 + 1) rfl (by decide) [(3, .int ((x3 + 1))), (0, .ref m), (1, .int x1), (2, .int x2)] rfl ?_
              refine rx_goto C dX9_at_45 2 (by decide) ?_
              refine rx_sub [1, 2, 3, 0] rfl ?_
              exact ih_loop2 _ hF b_m
            · rw [if_pos c10] at hF
              refine rx_iload_n C dX9_at_40 3 rfl ?_
              obtain rfl := Option.some.inj hF
              exact rx_iret C dX9_at_41 (Nat.le_refl _) (Nat.le_refl _) ⟨rfl, rfl⟩
  refine rx_sub [1, 2, 3, 0] rfl ?_
  exact loop2 _ _ hF b_m
def F_X9_lengthOf_4 (om : ob) (x1 : Int32) : Nat → Int32 → Int32 → Option (Int32 × Int32)
  | 0, _, _ => none
  | fu + 1, x2, x3 => (rx_ald 144 (om.2 1) ((8 : Int32))).bind fun v3 => if v3 ≤ x3 then (some (x2, x3)) else ((F_X9_isQueued om x3).bind fun y5 => if y5 = (0 : Int32) then ((F_X9_truth ((0 : Int32))).bind fun y7 => rx_le ((x2 + y7)) fun v8 => F_X9_lengthOf_4 om x1 fu v8 ((x3 + 1))) else ((F_X9_of om x3 ((1 : Int32))).bind fun y9 => if y9 = x1 then ((F_X9_truth ((1 : Int32))).bind fun y13 => rx_le ((x2 + y13)) fun v14 => F_X9_lengthOf_4 om x1 fu v14 ((x3 + 1))) else ((F_X9_truth ((0 : Int32))).bind fun y11 => rx_le ((x2 + y11)) fun v12 => F_X9_lengthOf_4 om x1 fu v12 ((x3 + 1)))))
def F_X9_lengthOf (om : ob) (x1 : Int32) : Option (Int32) := (F_X9_lengthOf_4 om x1 100000 ((0 : Int32)) ((0 : Int32))).bind fun zl15 => some zl15.1
set_option maxRecDepth 100000 in
set_option maxHeartbeats 4000000 in
theorem w_X9_lengthOf {m : Nat} {om : ob} {x1 : Int32} {y : Int32} (hF : F_X9_lengthOf om x1 = some y) (b_m : bM k m om h) : Met l yX9_lengthOf (rx_ws yX9_lengthOf cX9_lengthOf 4 (some .int)) (rx_rm 2 43) (va_Pc [.ref m, .int x1] (rx_G G k h n)) (va_Qi (fun r u => y = r ∧ u = (h, n)) (rx_B G k) (rx_A k)) 0 0 (rx_A k) := by
  refine rx_start [(0, .ref m), (1, .int x1)] rfl (Nat.le_of_ble_eq_true rfl) (by decide) rfl (fun P9 E9 S9 M9 A9 B9 me9 c9 C hname => ?_)
  unfold F_X9_lengthOf at hF
  refine rx_iconst C dX9_lengthOf_0 (0 : Int32) (by decide) ?_
  refine rx_istore_n C dX9_lengthOf_1 (by decide) [(2, .int ((0 : Int32))), (0, .ref m), (1, .int x1)] rfl ?_
  refine rx_iconst C dX9_lengthOf_2 (0 : Int32) (by decide) ?_
  refine rx_istore_n C dX9_lengthOf_3 (by decide) [(3, .int ((0 : Int32))), (2, .int ((0 : Int32))), (0, .ref m), (1, .int x1)] rfl ?_
  have loop2 : ∀ (fu : Nat) (zz : Int32 × Int32)  (x2 : Int32) (x3 : Int32), F_X9_lengthOf_4 om x1 fu x2 x3 = some zz → bM k m om h → (rx_W P9 l E9 (rx_rm 2 43) S9 M9 A9 B9 me9 c9 (MQ B9 (va_Qi (fun r u => y = r ∧ u = (h, n)) (rx_B G k) (rx_A k)) A9 S9 0 0 (rx_A k)) G k 4 0 0 h n 50 [(0, .ref m), (1, .int x1), (2, .int zz.1), (3, .int zz.2)] []) → rx_W P9 l E9 (rx_rm 2 43) S9 M9 A9 B9 me9 c9 (MQ B9 (va_Qi (fun r u => y = r ∧ u = (h, n)) (rx_B G k) (rx_A k)) A9 S9 0 0 (rx_A k)) G k 4 0 0 h n 4 [(0, .ref m), (1, .int x1), (2, .int x2), (3, .int x3)] [] := by
    intro fu
    induction fu with
    | zero => intro zz x2 x3 hF b_m KK; exact absurd hF (by simp [F_X9_lengthOf_4])
    | succ fu ih_loop2 =>
      intro zz x2 x3 hF b_m KK
      unfold F_X9_lengthOf_4 at hF
      refine rx_iload_n C dX9_lengthOf_4 3 rfl ?_
      refine rx_aload_n C dX9_lengthOf_5 0 rfl ?_
      refine rx_getf C f_X9_13 dX9_lengthOf_6 b_m.1 rfl ?_
      refine rx_bipush C dX9_lengthOf_9 (8 : Int32) (by decide) ?_
      replace hF := rx_biE hF; obtain ⟨v3, e_v3, hF⟩ := hF
      refine rx_aldF C dX9_lengthOf_11 b_m.2.1 e_v3 ?_
      refine rx_icmp_ge C dX9_lengthOf_12 50 (by decide) (fun c4 => ?_) (fun c4 => ?_)
      · rw [if_pos c4] at hF
        obtain rfl := Option.some.inj hF
        refine rx_sub [0, 1, 2, 3] rfl ?_
        exact KK
      · rw [if_neg c4] at hF
        refine rx_iload_n C dX9_lengthOf_15 2 rfl ?_
        refine rx_aload_n C dX9_lengthOf_16 0 rfl ?_
        refine rx_iload_n C dX9_lengthOf_17 3 rfl ?_
        replace hF := rx_biE hF; obtain ⟨y5, e_y5, hF⟩ := hF
        refine rx_ci (rx_rV C (w_X9_isQueued e_y5 b_m) Y_X9_isQueued V_X9_isQueued m_X9_79 (Or.inl ⟨_, _, _, _, b_m.1, rfl⟩) ⟨⟨rfl, rfl⟩, ⟨(Nat.le_of_ble_eq_true rfl), (Nat.le_of_ble_eq_true rfl)⟩, ⟨(Nat.le_of_ble_eq_true rfl), (Nat.le_of_ble_eq_true rfl)⟩⟩ rfl rfl (Nat.le_of_ble_eq_true rfl) dX9_lengthOf_18) (fun r hh n1 hpp => ?_)
        obtain ⟨rfl, bo_y5, hu⟩ := hpp
        cases hu
        refine rx_if_eq C dX9_lengthOf_21 38 (by decide) (fun c6 => ?_) (fun c6 => ?_)
        · rw [if_pos c6] at hF
          refine rx_iconst C dX9_lengthOf_38 (0 : Int32) (by decide) ?_
          replace hF := rx_biE hF; obtain ⟨y7, e_y7, hF⟩ := hF
          refine rx_ci (rx_rS C (w_X9_truth e_y7 ) Y_X9_truth S_X9_truth m_X9_85 ⟨⟨rfl, rfl⟩, ⟨(Nat.le_of_ble_eq_true rfl), (Nat.le_of_ble_eq_true rfl)⟩, ⟨(Nat.le_of_ble_eq_true rfl), (Nat.le_of_ble_eq_true rfl)⟩⟩ rfl rfl (Nat.le_of_ble_eq_true rfl) dX9_lengthOf_39) (fun r hh n1 hpp => ?_)
          obtain ⟨rfl, hu⟩ := hpp
          cases hu
          refine rx_iadd C dX9_lengthOf_42 ?_
          replace hF := rx_leE hF; obtain ⟨v8, e_v8, hF⟩ := hF
          rw [e_v8]
          refine rx_istore_n C dX9_lengthOf_43 (by decide) [(2, .int v8), (0, .ref m), (1, .int x1), (3, .int x3)] rfl ?_
          refine rx_iinc C dX9_lengthOf_44 3 rfl (x3 + 1) rfl (by decide) [(3, .int ((x3 + 1))), (2, .int v8), (0, .ref m), (1, .int x1)] rfl ?_
          refine rx_goto C dX9_lengthOf_47 4 (by decide) ?_
          refine rx_sub [2, 3, 1, 0] rfl ?_
          exact ih_loop2 _ _ _ hF b_m KK
        · rw [if_neg c6] at hF
          refine rx_aload_n C dX9_lengthOf_24 0 rfl ?_
          refine rx_iload_n C dX9_lengthOf_25 3 rfl ?_
          refine rx_iconst C dX9_lengthOf_26 (1 : Int32) (by decide) ?_
          replace hF := rx_biE hF; obtain ⟨y9, e_y9, hF⟩ := hF
          refine rx_ci (rx_rV C (w_X9_of e_y9 b_m) Y_X9_of V_X9_of m_X9_60 (Or.inl ⟨_, _, _, _, b_m.1, rfl⟩) ⟨⟨rfl, rfl⟩, ⟨(Nat.le_of_ble_eq_true rfl), (Nat.le_of_ble_eq_true rfl)⟩, ⟨(Nat.le_of_ble_eq_true rfl), (Nat.le_of_ble_eq_true rfl)⟩⟩ rfl rfl (Nat.le_of_ble_eq_true rfl) dX9_lengthOf_27) (fun r hh n1 hpp => ?_)
          obtain ⟨rfl, hu⟩ := hpp
          cases hu
          refine rx_iload_n C dX9_lengthOf_30 1 rfl ?_
          refine rx_icmp_ne C dX9_lengthOf_31 38 (by decide) (fun c10 => ?_) (fun c10 => ?_)
          · rw [if_neg c10] at hF
            refine rx_iconst C dX9_lengthOf_38 (0 : Int32) (by decide) ?_
            replace hF := rx_biE hF; obtain ⟨y11, e_y11, hF⟩ := hF
            refine rx_ci (rx_rS C (w_X9_truth e_y11 ) Y_X9_truth S_X9_truth m_X9_85 ⟨⟨rfl, rfl⟩, ⟨(Nat.le_of_ble_eq_true rfl), (Nat.le_of_ble_eq_true rfl)⟩, ⟨(Nat.le_of_ble_eq_true rfl), (Nat.le_of_ble_eq_true rfl)⟩⟩ rfl rfl (Nat.le_of_ble_eq_true rfl) dX9_lengthOf_39) (fun r hh n1 hpp => ?_)
            obtain ⟨rfl, hu⟩ := hpp
            cases hu
            refine rx_iadd C dX9_lengthOf_42 ?_
            replace hF := rx_leE hF; obtain ⟨v12, e_v12, hF⟩ := hF
            rw [e_v12]
            refine rx_istore_n C dX9_lengthOf_43 (by decide) [(2, .int v12), (0, .ref m), (1, .int x1), (3, .int x3)] rfl ?_
            refine rx_iinc C dX9_lengthOf_44 3 rfl (x3 + 1) rfl (by decide) [(3, .int ((x3 + 1))), (2, .int v12), (0, .ref m), (1, .int x1)] rfl ?_
            refine rx_goto C dX9_lengthOf_47 4 (by decide) ?_
            refine rx_sub [2, 3, 1, 0] rfl ?_
            exact ih_loop2 _ _ _ hF b_m KK
          · rw [if_pos c10] at hF
            refine rx_iconst C dX9_lengthOf_34 (1 : Int32) (by decide) ?_
            refine rx_goto C dX9_lengthOf_35 39 (by decide) ?_
            replace hF := rx_biE hF; obtain ⟨y13, e_y13, hF⟩ := hF
            refine rx_ci (rx_rS C (w_X9_truth e_y13 ) Y_X9_truth S_X9_truth m_X9_85 ⟨⟨rfl, rfl⟩, ⟨(Nat.le_of_ble_eq_true rfl), (Nat.le_of_ble_eq_true rfl)⟩, ⟨(Nat.le_of_ble_eq_true rfl), (Nat.le_of_ble_eq_true rfl)⟩⟩ rfl rfl (Nat.le_of_ble_eq_true rfl) dX9_lengthOf_39) (fun r hh n1 hpp => ?_)
            obtain ⟨rfl, hu⟩ := hpp
            cases hu
            refine rx_iadd C dX9_lengthOf_42 ?_
            replace hF := rx_leE hF; obtain ⟨v14, e_v14, hF⟩ := hF
            rw [e_v14]
            refine rx_istore_n C dX9_lengthOf_43 (by decide) [(2, .int v14), (0, .ref m), (1, .int x1), (3, .int x3)] rfl ?_
            refine rx_iinc C dX9_lengthOf_44 3 rfl (x3 + 1) rfl (by decide) [(3, .int ((x3 + 1))), (2, .int v14), (0, .ref m), (1, .int x1)] rfl ?_
            refine rx_goto C dX9_lengthOf_47 4 (by decide) ?_
            refine rx_sub [2, 3, 1, 0] rfl ?_
            exact ih_loop2 _ _ _ hF b_m KK
  refine rx_sub [2, 3, 1, 0] rfl ?_
  replace hF := rx_biE hF; obtain ⟨zl15, e_zl15, hF⟩ := hF
  refine loop2 _ zl15 _ _ e_zl15 b_m ?_
  refine rx_iload_n C dX9_lengthOf_50 2 rfl ?_
  obtain rfl := Option.some.inj hF
  exact rx_iret C dX9_lengthOf_51 (Nat.le_refl _) (Nat.le_refl _) ⟨rfl, rfl⟩
def F_X9_isOpenNow (om : ob) (x1 : Int32) : Option (Int32) := (rx_ald 144 (om.2 1) ((0 : Int32))).bind fun v1 => (F_X9_ofBridge om x1 ((0 : Int32))).bind fun y2 => (rx_rem v1 y2).bind fun v3 => (F_X9_ofBridge om x1 ((1 : Int32))).bind fun y4 => if v3 = y4 then (some ((1 : Int32))) else (some ((0 : Int32)))
set_option maxRecDepth 100000 in
set_option maxHeartbeats 4000000 in
theorem w_X9_isOpenNow {m : Nat} {om : ob} {x1 : Int32} {y : Int32} (hF : F_X9_isOpenNow om x1 = some y) (b_m : bM k m om h) : Met l yX9_isOpenNow (rx_ws yX9_isOpenNow cX9_isOpenNow 2 (some .boolean)) (rx_rm 1 22) (va_Pc [.ref m, .int x1] (rx_G G k h n)) (va_Qi (fun r u => y = r ∧ (y = 0 ∨ y = 1) ∧ u = (h, n)) (rx_B G k) (rx_A k)) 0 0 (rx_A k) := by
  refine rx_start [(0, .ref m), (1, .int x1)] rfl (Nat.le_of_ble_eq_true rfl) (by decide) rfl (fun P9 E9 S9 M9 A9 B9 me9 c9 C hname => ?_)
  unfold F_X9_isOpenNow at hF
  refine rx_aload_n C dX9_isOpenNow_0 0 rfl ?_
  refine rx_getf C f_X9_13 dX9_isOpenNow_1 b_m.1 rfl ?_
  refine rx_iconst C dX9_isOpenNow_4 (0 : Int32) (by decide) ?_
  replace hF := rx_biE hF; obtain ⟨v1, e_v1, hF⟩ := hF
  refine rx_aldF C dX9_isOpenNow_5 b_m.2.1 e_v1 ?_
  refine rx_aload_n C dX9_isOpenNow_6 0 rfl ?_
  refine rx_iload_n C dX9_isOpenNow_7 1 rfl ?_
  refine rx_iconst C dX9_isOpenNow_8 (0 : Int32) (by decide) ?_
  replace hF := rx_biE hF; obtain ⟨y2, e_y2, hF⟩ := hF
  refine rx_ci (rx_rV C (w_X9_ofBridge e_y2 b_m) Y_X9_ofBridge V_X9_ofBridge m_X9_92 (Or.inl ⟨_, _, _, _, b_m.1, rfl⟩) ⟨⟨rfl, rfl⟩, ⟨(Nat.le_of_ble_eq_true rfl), (Nat.le_of_ble_eq_true rfl)⟩, ⟨(Nat.le_of_ble_eq_true rfl), (Nat.le_of_ble_eq_true rfl)⟩⟩ rfl rfl (Nat.le_of_ble_eq_true rfl) dX9_isOpenNow_9) (fun r hh n1 hpp => ?_)
  obtain ⟨rfl, hu⟩ := hpp
  cases hu
  replace hF := rx_biE hF; obtain ⟨v3, e_v3, hF⟩ := hF
  refine rx_iremF C dX9_isOpenNow_12 e_v3 ?_
  refine rx_aload_n C dX9_isOpenNow_13 0 rfl ?_
  refine rx_iload_n C dX9_isOpenNow_14 1 rfl ?_
  refine rx_iconst C dX9_isOpenNow_15 (1 : Int32) (by decide) ?_
  replace hF := rx_biE hF; obtain ⟨y4, e_y4, hF⟩ := hF
  refine rx_ci (rx_rV C (w_X9_ofBridge e_y4 b_m) Y_X9_ofBridge V_X9_ofBridge m_X9_92 (Or.inl ⟨_, _, _, _, b_m.1, rfl⟩) ⟨⟨rfl, rfl⟩, ⟨(Nat.le_of_ble_eq_true rfl), (Nat.le_of_ble_eq_true rfl)⟩, ⟨(Nat.le_of_ble_eq_true rfl), (Nat.le_of_ble_eq_true rfl)⟩⟩ rfl rfl (Nat.le_of_ble_eq_true rfl) dX9_isOpenNow_16) (fun r hh n1 hpp => ?_)
  obtain ⟨rfl, hu⟩ := hpp
  cases hu
  refine rx_icmp_ne C dX9_isOpenNow_19 26 (by decide) (fun c5 => ?_) (fun c5 => ?_)
  · rw [if_neg c5] at hF
    refine rx_iconst C dX9_isOpenNow_26 (0 : Int32) (by decide) ?_
    obtain rfl := Option.some.inj hF
    exact rx_zret C (rx_nz (Or.inl rfl)) dX9_isOpenNow_27 (Nat.le_refl _) (Nat.le_refl _) ⟨rfl, (Or.inl rfl), rfl⟩
  · rw [if_pos c5] at hF
    refine rx_iconst C dX9_isOpenNow_22 (1 : Int32) (by decide) ?_
    refine rx_goto C dX9_isOpenNow_23 27 (by decide) ?_
    obtain rfl := Option.some.inj hF
    exact rx_zret C (rx_nz (Or.inr rfl)) dX9_isOpenNow_27 (Nat.le_refl _) (Nat.le_refl _) ⟨rfl, (Or.inr rfl), rfl⟩
def F_X9_bounds (om : ob) (x1 : Int32) : Option (ob) := if (0 : Int32) ≤ x1 then (if x1 ≤ (90 : Int32) then ((rx_ast 144 (om.2 1) ((1 : Int32)) x1).bind fun f3 => rx_le (om.1, va_up om.2 1 f3) fun o_m_4 => some o_m_4) else ((rx_ast 144 (om.2 1) ((1 : Int32)) ((90 : Int32))).bind fun f5 => rx_le (om.1, va_up om.2 1 f5) fun o_m_6 => some o_m_6)) else ((rx_ast 144 (om.2 1) ((1 : Int32)) ((0 : Int32))).bind fun f7 => rx_le (om.1, va_up om.2 1 f7) fun o_m_8 => some o_m_8)
set_option maxRecDepth 100000 in
set_option maxHeartbeats 4000000 in
theorem w_X9_bounds {m : Nat} {om : ob} {x1 : Int32} {y : ob} (hF : F_X9_bounds om x1 = some y) (b_m : bM k m om h) : Met l yX9_bounds (rx_ws yX9_bounds cX9_bounds 2 none) (rx_rm 0 0) (va_Pc [.ref m, .int x1] (rx_G G k h n)) (va_Qv (fun u => u.2 = n ∧ bM k m y u.1 ∧ rx_fr [(m, 9)] h u.1) (rx_B G k) (rx_A k)) 0 0 (rx_A k) := by
  refine rx_start [(0, .ref m), (1, .int x1)] rfl (Nat.le_of_ble_eq_true rfl) (by decide) rfl (fun P9 E9 S9 M9 A9 B9 me9 c9 C hname => ?_)
  unfold F_X9_bounds at hF
  have fr : rx_fr [(m, 9)] h h := rx_fr0
  refine rx_aload_n C dX9_bounds_0 0 rfl ?_
  refine rx_getf C f_X9_13 dX9_bounds_1 b_m.1 rfl ?_
  refine rx_iconst C dX9_bounds_4 (1 : Int32) (by decide) ?_
  refine rx_iload_n C dX9_bounds_5 1 rfl ?_
  refine rx_if_ge C dX9_bounds_6 13 (by decide) (fun c1 => ?_) (fun c1 => ?_)
  · rw [if_pos c1] at hF
    refine rx_iload_n C dX9_bounds_13 1 rfl ?_
    refine rx_bipush C dX9_bounds_14 (90 : Int32) (by decide) ?_
    refine rx_icmp_le C dX9_bounds_16 24 (by decide) (fun c2 => ?_) (fun c2 => ?_)
    · rw [if_pos c2] at hF
      refine rx_iload_n C dX9_bounds_24 1 rfl ?_
      replace hF := rx_biE hF; obtain ⟨f3, e_f3, hF⟩ := hF
      replace hF := rx_leE hF; obtain ⟨o_m_4, e_o_m_4, hF⟩ := hF
      refine rx_aM1 C dX9_bounds_25 b_m e_f3 e_o_m_4 (fun hh c_m ff => ?_)
      replace b_m := c_m
      replace fr := rx_frt fr ff (fun a ha => ⟨ha.1, trivial⟩)
      obtain rfl := Option.some.inj hF
      exact rx_vret C dX9_bounds_26 (Nat.le_refl _) (Nat.le_refl _) ⟨rfl, b_m, fr⟩
    · rw [if_neg c2] at hF
      refine rx_bipush C dX9_bounds_19 (90 : Int32) (by decide) ?_
      refine rx_goto C dX9_bounds_21 25 (by decide) ?_
      replace hF := rx_biE hF; obtain ⟨f5, e_f5, hF⟩ := hF
      replace hF := rx_leE hF; obtain ⟨o_m_6, e_o_m_6, hF⟩ := hF
      refine rx_aM1 C dX9_bounds_25 b_m e_f5 e_o_m_6 (fun hh c_m ff => ?_)
      replace b_m := c_m
      replace fr := rx_frt fr ff (fun a ha => ⟨ha.1, trivial⟩)
      obtain rfl := Option.some.inj hF
      exact rx_vret C dX9_bounds_26 (Nat.le_refl _) (Nat.le_refl _) ⟨rfl, b_m, fr⟩
  · rw [if_neg c1] at hF
    refine rx_iconst C dX9_bounds_9 (0 : Int32) (by decide) ?_
    refine rx_goto C dX9_bounds_10 25 (by decide) ?_
    replace hF := rx_biE hF; obtain ⟨f7, e_f7, hF⟩ := hF
    replace hF := rx_leE hF; obtain ⟨o_m_8, e_o_m_8, hF⟩ := hF
    refine rx_aM1 C dX9_bounds_25 b_m e_f7 e_o_m_8 (fun hh c_m ff => ?_)
    replace b_m := c_m
    replace fr := rx_frt fr ff (fun a ha => ⟨ha.1, trivial⟩)
    obtain rfl := Option.some.inj hF
    exact rx_vret C dX9_bounds_26 (Nat.le_refl _) (Nat.le_refl _) ⟨rfl, b_m, fr⟩
def F_X9_countsCoins_2 (x1 : Int32) : Nat → ob → Int32 → Option (Int32 × ob)
  | 0, _, _ => none
  | fu + 1, om, x2 => (rx_ald 144 (om.2 1) ((8 : Int32))).bind fun v3 => if v3 ≤ x2 then (some (x2, om)) else ((F_X9_isKingNow om x2).bind fun y5 => (if y5 = (0 : Int32) then (some om) else ((F_X9_ofRoyal om x2 ((0 : Int32))).bind fun y9 => if y9 = x1 then ((F_X9_laysRoyal om x2 ((2 : Int32)) ((1 : Int32))).bind fun y11 => some y11) else (some om))).bind fun zj6 => F_X9_countsCoins_2 x1 fu zj6 ((x2 + 1)))
def F_X9_countsCoins (om : ob) (x1 : Int32) : Option (ob) := (F_X9_countsCoins_2 x1 100000 om ((0 : Int32))).bind fun zl12 => some zl12.2
set_option maxRecDepth 100000 in
set_option maxHeartbeats 4000000 in
theorem w_X9_countsCoins {m : Nat} {om : ob} {x1 : Int32} {y : ob} (hF : F_X9_countsCoins om x1 = some y) (b_m : bM k m om h) : Met l yX9_countsCoins (rx_ws yX9_countsCoins cX9_countsCoins 3 none) (rx_rm 2 43) (va_Pc [.ref m, .int x1] (rx_G G k h n)) (va_Qv (fun u => u.2 = n ∧ bM k m y u.1 ∧ rx_fr [(m, 9)] h u.1) (rx_B G k) (rx_A k)) 0 0 (rx_A k) := by
  refine rx_start [(0, .ref m), (1, .int x1)] rfl (Nat.le_of_ble_eq_true rfl) (by decide) rfl (fun P9 E9 S9 M9 A9 B9 me9 c9 C hname => ?_)
  unfold F_X9_countsCoins at hF
  have fr : rx_fr [(m, 9)] h h := rx_fr0
  refine rx_iconst C dX9_countsCoins_0 (0 : Int32) (by decide) ?_
  refine rx_istore_n C dX9_countsCoins_1 (by decide) [(2, .int ((0 : Int32))), (0, .ref m), (1, .int x1)] rfl ?_
  have loop2 : ∀ (fu : Nat) (zz : Int32 × ob) (om : ob) (x2 : Int32) (hh : hp), F_X9_countsCoins_2 x1 fu om x2 = some zz → bM k m om hh → rx_fr [(m, 9)] h hh → (∀ hh : hp, bM k m zz.2 hh → rx_fr [(m, 9)] h hh → rx_W P9 l E9 (rx_rm 2 43) S9 M9 A9 B9 me9 c9 (MQ B9 (va_Qv (fun u => u.2 = n ∧ bM k m y u.1 ∧ rx_fr [(m, 9)] h u.1) (rx_B G k) (rx_A k)) A9 S9 0 0 (rx_A k)) G k 3 0 0 hh n 44 [(0, .ref m), (1, .int x1), (2, .int zz.1)] []) → rx_W P9 l E9 (rx_rm 2 43) S9 M9 A9 B9 me9 c9 (MQ B9 (va_Qv (fun u => u.2 = n ∧ bM k m y u.1 ∧ rx_fr [(m, 9)] h u.1) (rx_B G k) (rx_A k)) A9 S9 0 0 (rx_A k)) G k 3 0 0 hh n 2 [(0, .ref m), (1, .int x1), (2, .int x2)] [] := by
    intro fu
    induction fu with
    | zero => intro zz om x2 hh hF b_m fr KK; exact absurd hF (by simp [F_X9_countsCoins_2])
    | succ fu ih_loop2 =>
      intro zz om x2 hh hF b_m fr KK
      unfold F_X9_countsCoins_2 at hF
      refine rx_iload_n C dX9_countsCoins_2 2 rfl ?_
      refine rx_aload_n C dX9_countsCoins_3 0 rfl ?_
      refine rx_getf C f_X9_13 dX9_countsCoins_4 b_m.1 rfl ?_
      refine rx_bipush C dX9_countsCoins_7 (8 : Int32) (by decide) ?_
      replace hF := rx_biE hF; obtain ⟨v3, e_v3, hF⟩ := hF
      refine rx_aldF C dX9_countsCoins_9 b_m.2.1 e_v3 ?_
      refine rx_icmp_ge C dX9_countsCoins_10 44 (by decide) (fun c4 => ?_) (fun c4 => ?_)
      · rw [if_pos c4] at hF
        obtain rfl := Option.some.inj hF
        refine rx_sub [0, 1, 2] rfl ?_
        exact KK _ b_m fr
      · rw [if_neg c4] at hF
        refine rx_aload_n C dX9_countsCoins_13 0 rfl ?_
        refine rx_iload_n C dX9_countsCoins_14 2 rfl ?_
        replace hF := rx_biE hF; obtain ⟨y5, e_y5, hF⟩ := hF
        refine rx_ci (rx_rV C (w_X9_isKingNow e_y5 b_m) Y_X9_isKingNow V_X9_isKingNow m_X9_64 (Or.inl ⟨_, _, _, _, b_m.1, rfl⟩) ⟨⟨rfl, rfl⟩, ⟨(Nat.le_of_ble_eq_true rfl), (Nat.le_of_ble_eq_true rfl)⟩, ⟨(Nat.le_of_ble_eq_true rfl), (Nat.le_of_ble_eq_true rfl)⟩⟩ rfl rfl (Nat.le_of_ble_eq_true rfl) dX9_countsCoins_15) (fun r hh n1 hpp => ?_)
        obtain ⟨rfl, bo_y5, hu⟩ := hpp
        cases hu
        replace hF := rx_biE hF; obtain ⟨zj6, e_zj6, hF⟩ := hF
        have KJ7 : ∀ hh : hp, bM k m zj6 hh → rx_fr [(m, 9)] h hh → rx_W P9 l E9 (rx_rm 2 43) S9 M9 A9 B9 me9 c9 (MQ B9 (va_Qv (fun u => u.2 = n ∧ bM k m y u.1 ∧ rx_fr [(m, 9)] h u.1) (rx_B G k) (rx_A k)) A9 S9 0 0 (rx_A k)) G k 3 0 0 hh n 38 [(0, .ref m), (1, .int x1), (2, .int x2)] [] := by
          intro hh b_m fr
          refine rx_iinc C dX9_countsCoins_38 2 rfl (x2 + 1) rfl (by decide) [(2, .int ((x2 + 1))), (0, .ref m), (1, .int x1)] rfl ?_
          refine rx_goto C dX9_countsCoins_41 2 (by decide) ?_
          refine rx_sub [1, 2, 0] rfl ?_
          exact ih_loop2 _ _ _ _ hF b_m fr KK
        replace hF := e_zj6
        clear e_zj6
        refine rx_if_eq C dX9_countsCoins_18 38 (by decide) (fun c8 => ?_) (fun c8 => ?_)
        · rw [if_pos c8] at hF
          obtain rfl := Option.some.inj hF
          refine rx_sub [0, 1, 2] rfl ?_
          exact KJ7 _ b_m fr
        · rw [if_neg c8] at hF
          refine rx_aload_n C dX9_countsCoins_21 0 rfl ?_
          refine rx_iload_n C dX9_countsCoins_22 2 rfl ?_
          refine rx_iconst C dX9_countsCoins_23 (0 : Int32) (by decide) ?_
          replace hF := rx_biE hF; obtain ⟨y9, e_y9, hF⟩ := hF
          refine rx_ci (rx_rV C (w_X9_ofRoyal e_y9 b_m) Y_X9_ofRoyal V_X9_ofRoyal m_X9_95 (Or.inl ⟨_, _, _, _, b_m.1, rfl⟩) ⟨⟨rfl, rfl⟩, ⟨(Nat.le_of_ble_eq_true rfl), (Nat.le_of_ble_eq_true rfl)⟩, ⟨(Nat.le_of_ble_eq_true rfl), (Nat.le_of_ble_eq_true rfl)⟩⟩ rfl rfl (Nat.le_of_ble_eq_true rfl) dX9_countsCoins_24) (fun r hh n1 hpp => ?_)
          obtain ⟨rfl, hu⟩ := hpp
          cases hu
          refine rx_iload_n C dX9_countsCoins_27 1 rfl ?_
          refine rx_icmp_ne C dX9_countsCoins_28 38 (by decide) (fun c10 => ?_) (fun c10 => ?_)
          · rw [if_neg c10] at hF
            obtain rfl := Option.some.inj hF
            refine rx_sub [0, 1, 2] rfl ?_
            exact KJ7 _ b_m fr
          · rw [if_pos c10] at hF
            refine rx_aload_n C dX9_countsCoins_31 0 rfl ?_
            refine rx_iload_n C dX9_countsCoins_32 2 rfl ?_
            refine rx_iconst C dX9_countsCoins_33 (2 : Int32) (by decide) ?_
            refine rx_iconst C dX9_countsCoins_34 (1 : Int32) (by decide) ?_
            replace hF := rx_biE hF; obtain ⟨y11, e_y11, hF⟩ := hF
            refine rx_cv (rx_rV C (w_X9_laysRoyal e_y11 b_m) Y_X9_laysRoyal V_X9_laysRoyal m_X9_98 (Or.inl ⟨_, _, _, _, b_m.1, rfl⟩) ⟨⟨rfl, rfl⟩, ⟨(Nat.le_of_ble_eq_true rfl), (Nat.le_of_ble_eq_true rfl)⟩, ⟨(Nat.le_of_ble_eq_true rfl), (Nat.le_of_ble_eq_true rfl)⟩⟩ rfl rfl (Nat.le_of_ble_eq_true rfl) dX9_countsCoins_35) (fun hh n1 hpp => ?_)
            obtain ⟨hn, c_m, ff⟩ := hpp
            replace hn : n = n1 := Eq.symm hn
            subst hn
            replace b_m : bM k m y11 hh := c_m
            clear c_m
            replace ff : rx_fr [(m, 9)] _ hh := ff
            replace fr := rx_frt fr ff (fun a ha => ⟨ha.1, trivial⟩)
            obtain rfl := Option.some.inj hF
            refine rx_sub [0, 1, 2] rfl ?_
            exact KJ7 _ b_m fr
  refine rx_sub [1, 2, 0] rfl ?_
  replace hF := rx_biE hF; obtain ⟨zl12, e_zl12, hF⟩ := hF
  refine loop2 _ zl12 _ _ _ e_zl12 b_m fr (fun hh b_m fr => ?_)
  obtain rfl := Option.some.inj hF
  exact rx_vret C dX9_countsCoins_44 (Nat.le_refl _) (Nat.le_refl _) ⟨rfl, b_m, fr⟩
def F_X9_crosses (om : ob) (x1 : Int32) : Option (Int32 × ob) := (F_X9_rankOf om x1).bind fun y1 => (F_X9_isTaken om x1 y1).bind fun y2 => if y2 = (0 : Int32) then ((rx_ald 144 (om.2 1) ((4 : Int32))).bind fun v4 => (F_X9_of om x1 ((6 : Int32))).bind fun y5 => rx_le (((v4 + y5) - (1 : Int32))) fun v6 => (F_X9_lays om x1 ((6 : Int32)) ((0 : Int32))).bind fun y7 => (F_X9_of y7 x1 ((2 : Int32))).bind fun y8 => if v6 ≤ y8 then ((F_X9_of y7 x1 ((2 : Int32))).bind fun y11 => (F_X9_lays y7 x1 ((2 : Int32)) ((y11 - v6))).bind fun y12 => (rx_ald 144 (y12.2 1) ((5 : Int32))).bind fun v13 => (rx_ast 144 (y12.2 1) ((5 : Int32)) ((v13 + v6))).bind fun f14 => rx_le (y12.1, va_up y12.2 1 f14) fun o_m_15 => (F_X9_of o_m_15 x1 ((1 : Int32))).bind fun y16 => (F_X9_lays o_m_15 x1 ((1 : Int32)) (((1 : Int32) - y16))).bind fun y17 => (F_X9_of y17 x1 ((5 : Int32))).bind fun y18 => (F_X9_lays y17 x1 ((5 : Int32)) ((y18 + (1 : Int32)))).bind fun y19 => (F_X9_countsCoins y19 x1).bind fun y20 => (if y2 = (0 : Int32) then (some y20) else ((F_X9_isKingNow y20 x1).bind fun y32 => if y32 = (0 : Int32) then ((rx_ald 144 (y20.2 1) ((1 : Int32))).bind fun v34 => (rx_ald 144 (y20.2 1) ((2 : Int32))).bind fun v35 => (F_X9_bounds y20 ((v34 - v35))).bind fun y36 => some y36) else (some y20))).bind fun zj21 => (if y2 = (0 : Int32) then ((F_X9_isKingNow zj21 x1).bind fun y26 => if y26 = (0 : Int32) then (some zj21) else ((rx_ald 144 (zj21.2 1) ((1 : Int32))).bind fun v28 => (rx_ald 144 (zj21.2 1) ((2 : Int32))).bind fun v29 => (F_X9_bounds zj21 ((v28 + v29))).bind fun y30 => some y30)) else (some zj21)).bind fun zj23 => some ((1 : Int32), zj23)) else (some ((0 : Int32), y7))) else ((rx_ald 144 (om.2 1) ((3 : Int32))).bind fun v37 => (F_X9_of om x1 ((6 : Int32))).bind fun y38 => rx_le (((v37 + y38) - (1 : Int32))) fun v39 => (F_X9_lays om x1 ((6 : Int32)) ((0 : Int32))).bind fun y40 => (F_X9_of y40 x1 ((2 : Int32))).bind fun y41 => if v39 ≤ y41 then ((F_X9_of y40 x1 ((2 : Int32))).bind fun y43 => (F_X9_lays y40 x1 ((2 : Int32)) ((y43 - v39))).bind fun y44 => (rx_ald 144 (y44.2 1) ((5 : Int32))).bind fun v45 => (rx_ast 144 (y44.2 1) ((5 : Int32)) ((v45 + v39))).bind fun f46 => rx_le (y44.1, va_up y44.2 1 f46) fun o_m_47 => (F_X9_of o_m_47 x1 ((1 : Int32))).bind fun y48 => (F_X9_lays o_m_47 x1 ((1 : Int32)) (((1 : Int32) - y48))).bind fun y49 => (F_X9_of y49 x1 ((5 : Int32))).bind fun y50 => (F_X9_lays y49 x1 ((5 : Int32)) ((y50 + (1 : Int32)))).bind fun y51 => (F_X9_countsCoins y51 x1).bind fun y52 => (if y2 = (0 : Int32) then (some y52) else ((F_X9_isKingNow y52 x1).bind fun y64 => if y64 = (0 : Int32) then ((rx_ald 144 (y52.2 1) ((1 : Int32))).bind fun v66 => (rx_ald 144 (y52.2 1) ((2 : Int32))).bind fun v67 => (F_X9_bounds y52 ((v66 - v67))).bind fun y68 => some y68) else (some y52))).bind fun zj53 => (if y2 = (0 : Int32) then ((F_X9_isKingNow zj53 x1).bind fun y58 => if y58 = (0 : Int32) then (some zj53) else ((rx_ald 144 (zj53.2 1) ((1 : Int32))).bind fun v60 => (rx_ald 144 (zj53.2 1) ((2 : Int32))).bind fun v61 => (F_X9_bounds zj53 ((v60 + v61))).bind fun y62 => some y62)) else (some zj53)).bind fun zj55 => some ((1 : Int32), zj55)) else (some ((0 : Int32), y40)))
set_option maxRecDepth 100000 in
set_option maxHeartbeats 4000000 in
theorem w_X9_crosses {m : Nat} {om : ob} {x1 : Int32} {y : Int32 × ob} (hF : F_X9_crosses om x1 = some y) (b_m : bM k m om h) : Met l yX9_crosses (rx_ws yX9_crosses cX9_crosses 4 (some .boolean)) (rx_rm 4 87) (va_Pc [.ref m, .int x1] (rx_G G k h n)) (va_Qi (fun r u => y.1 = r ∧ (y.1 = 0 ∨ y.1 = 1) ∧ u.2 = n ∧ bM k m y.2 u.1 ∧ rx_fr [(m, 9)] h u.1) (rx_B G k) (rx_A k)) 0 0 (rx_A k) := by
  refine rx_start [(0, .ref m), (1, .int x1)] rfl (Nat.le_of_ble_eq_true rfl) (by decide) rfl (fun P9 E9 S9 M9 A9 B9 me9 c9 C hname => ?_)
  unfold F_X9_crosses at hF
  have fr : rx_fr [(m, 9)] h h := rx_fr0
  refine rx_aload_n C dX9_crosses_0 0 rfl ?_
  refine rx_iload_n C dX9_crosses_1 1 rfl ?_
  refine rx_aload_n C dX9_crosses_2 0 rfl ?_
  refine rx_iload_n C dX9_crosses_3 1 rfl ?_
  replace hF := rx_biE hF; obtain ⟨y1, e_y1, hF⟩ := hF
  refine rx_ci (rx_rV C (w_X9_rankOf e_y1 b_m) Y_X9_rankOf V_X9_rankOf m_X9_102 (Or.inl ⟨_, _, _, _, b_m.1, rfl⟩) ⟨⟨rfl, rfl⟩, ⟨(Nat.le_of_ble_eq_true rfl), (Nat.le_of_ble_eq_true rfl)⟩, ⟨(Nat.le_of_ble_eq_true rfl), (Nat.le_of_ble_eq_true rfl)⟩⟩ rfl rfl (Nat.le_of_ble_eq_true rfl) dX9_crosses_4) (fun r hh n1 hpp => ?_)
  obtain ⟨rfl, hu⟩ := hpp
  cases hu
  replace hF := rx_biE hF; obtain ⟨y2, e_y2, hF⟩ := hF
  refine rx_ci (rx_rV C (w_X9_isTaken e_y2 b_m) Y_X9_isTaken V_X9_isTaken m_X9_75 (Or.inl ⟨_, _, _, _, b_m.1, rfl⟩) ⟨⟨rfl, rfl⟩, ⟨(Nat.le_of_ble_eq_true rfl), (Nat.le_of_ble_eq_true rfl)⟩, ⟨(Nat.le_of_ble_eq_true rfl), (Nat.le_of_ble_eq_true rfl)⟩⟩ rfl rfl (Nat.le_of_ble_eq_true rfl) dX9_crosses_7) (fun r hh n1 hpp => ?_)
  obtain ⟨rfl, bo_y2, hu⟩ := hpp
  cases hu
  refine rx_istore_n C dX9_crosses_10 (by decide) [(2, .int y2), (0, .ref m), (1, .int x1)] rfl ?_
  refine rx_aload_n C dX9_crosses_11 1 rfl ?_
  refine rx_getf C f_X9_13 dX9_crosses_12 b_m.1 rfl ?_
  refine rx_iload_n C dX9_crosses_15 0 rfl ?_
  refine rx_if_eq C dX9_crosses_16 23 (by decide) (fun c3 => ?_) (fun c3 => ?_)
  · rw [if_pos c3] at hF
    refine rx_iconst C dX9_crosses_23 (4 : Int32) (by decide) ?_
    replace hF := rx_biE hF; obtain ⟨v4, e_v4, hF⟩ := hF
    refine rx_aldF C dX9_crosses_24 b_m.2.1 e_v4 ?_
    refine rx_aload_n C dX9_crosses_25 1 rfl ?_
    refine rx_iload_n C dX9_crosses_26 2 rfl ?_
    refine rx_bipush C dX9_crosses_27 (6 : Int32) (by decide) ?_
    replace hF := rx_biE hF; obtain ⟨y5, e_y5, hF⟩ := hF
    refine rx_ci (rx_rV C (w_X9_of e_y5 b_m) Y_X9_of V_X9_of m_X9_60 (Or.inl ⟨_, _, _, _, b_m.1, rfl⟩) ⟨⟨rfl, rfl⟩, ⟨(Nat.le_of_ble_eq_true rfl), (Nat.le_of_ble_eq_true rfl)⟩, ⟨(Nat.le_of_ble_eq_true rfl), (Nat.le_of_ble_eq_true rfl)⟩⟩ rfl rfl (Nat.le_of_ble_eq_true rfl) dX9_crosses_29) (fun r hh n1 hpp => ?_)
    obtain ⟨rfl, hu⟩ := hpp
    cases hu
    refine rx_iadd C dX9_crosses_32 ?_
    refine rx_iconst C dX9_crosses_33 (1 : Int32) (by decide) ?_
    refine rx_isub C dX9_crosses_34 ?_
    replace hF := rx_leE hF; obtain ⟨v6, e_v6, hF⟩ := hF
    rw [e_v6]
    refine rx_istore_n C dX9_crosses_35 (by decide) [(3, .int v6), (2, .int y2), (0, .ref m), (1, .int x1)] rfl ?_
    refine rx_aload_n C dX9_crosses_36 2 rfl ?_
    refine rx_iload_n C dX9_crosses_37 3 rfl ?_
    refine rx_bipush C dX9_crosses_38 (6 : Int32) (by decide) ?_
    refine rx_iconst C dX9_crosses_40 (0 : Int32) (by decide) ?_
    replace hF := rx_biE hF; obtain ⟨y7, e_y7, hF⟩ := hF
    refine rx_cv (rx_rV C (w_X9_lays e_y7 b_m) Y_X9_lays V_X9_lays m_X9_105 (Or.inl ⟨_, _, _, _, b_m.1, rfl⟩) ⟨⟨rfl, rfl⟩, ⟨(Nat.le_of_ble_eq_true rfl), (Nat.le_of_ble_eq_true rfl)⟩, ⟨(Nat.le_of_ble_eq_true rfl), (Nat.le_of_ble_eq_true rfl)⟩⟩ rfl rfl (Nat.le_of_ble_eq_true rfl) dX9_crosses_41) (fun hh n1 hpp => ?_)
    obtain ⟨hn, c_m, ff⟩ := hpp
    replace hn : n = n1 := Eq.symm hn
    subst hn
    replace b_m : bM k m y7 hh := c_m
    clear c_m
    replace ff : rx_fr [(m, 9)] _ hh := ff
    replace fr := rx_frt fr ff (fun a ha => ⟨ha.1, trivial⟩)
    refine rx_aload_n C dX9_crosses_44 2 rfl ?_
    refine rx_iload_n C dX9_crosses_45 3 rfl ?_
    refine rx_iconst C dX9_crosses_46 (2 : Int32) (by decide) ?_
    replace hF := rx_biE hF; obtain ⟨y8, e_y8, hF⟩ := hF
    refine rx_ci (rx_rV C (w_X9_of e_y8 b_m) Y_X9_of V_X9_of m_X9_60 (Or.inl ⟨_, _, _, _, b_m.1, rfl⟩) ⟨⟨rfl, rfl⟩, ⟨(Nat.le_of_ble_eq_true rfl), (Nat.le_of_ble_eq_true rfl)⟩, ⟨(Nat.le_of_ble_eq_true rfl), (Nat.le_of_ble_eq_true rfl)⟩⟩ rfl rfl (Nat.le_of_ble_eq_true rfl) dX9_crosses_47) (fun r hh n1 hpp => ?_)
    obtain ⟨rfl, hu⟩ := hpp
    cases hu
    refine rx_iload_n C dX9_crosses_50 0 rfl ?_
    refine rx_icmp_ge C dX9_crosses_51 56 (by decide) (fun c10 => ?_) (fun c10 => ?_)
    · rw [if_pos c10] at hF
      refine rx_aload_n C dX9_crosses_56 2 rfl ?_
      refine rx_iload_n C dX9_crosses_57 3 rfl ?_
      refine rx_iconst C dX9_crosses_58 (2 : Int32) (by decide) ?_
      refine rx_aload_n C dX9_crosses_59 2 rfl ?_
      refine rx_iload_n C dX9_crosses_60 3 rfl ?_
      refine rx_iconst C dX9_crosses_61 (2 : Int32) (by decide) ?_
      replace hF := rx_biE hF; obtain ⟨y11, e_y11, hF⟩ := hF
      refine rx_ci (rx_rV C (w_X9_of e_y11 b_m) Y_X9_of V_X9_of m_X9_60 (Or.inl ⟨_, _, _, _, b_m.1, rfl⟩) ⟨⟨rfl, rfl⟩, ⟨(Nat.le_of_ble_eq_true rfl), (Nat.le_of_ble_eq_true rfl)⟩, ⟨(Nat.le_of_ble_eq_true rfl), (Nat.le_of_ble_eq_true rfl)⟩⟩ rfl rfl (Nat.le_of_ble_eq_true rfl) dX9_crosses_62) (fun r hh n1 hpp => ?_)
      obtain ⟨rfl, hu⟩ := hpp
      cases hu
      refine rx_iload_n C dX9_crosses_65 0 rfl ?_
      refine rx_isub C dX9_crosses_66 ?_
      replace hF := rx_biE hF; obtain ⟨y12, e_y12, hF⟩ := hF
      refine rx_cv (rx_rV C (w_X9_lays e_y12 b_m) Y_X9_lays V_X9_lays m_X9_105 (Or.inl ⟨_, _, _, _, b_m.1, rfl⟩) ⟨⟨rfl, rfl⟩, ⟨(Nat.le_of_ble_eq_true rfl), (Nat.le_of_ble_eq_true rfl)⟩, ⟨(Nat.le_of_ble_eq_true rfl), (Nat.le_of_ble_eq_true rfl)⟩⟩ rfl rfl (Nat.le_of_ble_eq_true rfl) dX9_crosses_67) (fun hh n1 hpp => ?_)
      obtain ⟨hn, c_m, ff⟩ := hpp
      replace hn : n = n1 := Eq.symm hn
      subst hn
      replace b_m : bM k m y12 hh := c_m
      clear c_m
      replace ff : rx_fr [(m, 9)] _ hh := ff
      replace fr := rx_frt fr ff (fun a ha => ⟨ha.1, trivial⟩)
      refine rx_aload_n C dX9_crosses_70 2 rfl ?_
      refine rx_getf C f_X9_13 dX9_crosses_71 b_m.1 rfl ?_
      refine rx_iconst C dX9_crosses_74 (5 : Int32) (by decide) ?_
      refine rx_dup2 C dX9_crosses_75 rfl rfl ?_
      replace hF := rx_biE hF; obtain ⟨v13, e_v13, hF⟩ := hF
      refine rx_aldF C dX9_crosses_76 b_m.2.1 e_v13 ?_
      refine rx_iload_n C dX9_crosses_77 0 rfl ?_
      refine rx_iadd C dX9_crosses_78 ?_
      replace hF := rx_biE hF; obtain ⟨f14, e_f14, hF⟩ := hF
      replace hF := rx_leE hF; obtain ⟨o_m_15, e_o_m_15, hF⟩ := hF
      refine rx_aM1 C dX9_crosses_79 b_m e_f14 e_o_m_15 (fun hh c_m ff => ?_)
      replace b_m := c_m
      replace fr := rx_frt fr ff (fun a ha => ⟨ha.1, trivial⟩)
      refine rx_aload_n C dX9_crosses_80 2 rfl ?_
      refine rx_iload_n C dX9_crosses_81 3 rfl ?_
      refine rx_iconst C dX9_crosses_82 (1 : Int32) (by decide) ?_
      refine rx_iconst C dX9_crosses_83 (1 : Int32) (by decide) ?_
      refine rx_aload_n C dX9_crosses_84 2 rfl ?_
      refine rx_iload_n C dX9_crosses_85 3 rfl ?_
      refine rx_iconst C dX9_crosses_86 (1 : Int32) (by decide) ?_
      replace hF := rx_biE hF; obtain ⟨y16, e_y16, hF⟩ := hF
      refine rx_ci (rx_rV C (w_X9_of e_y16 b_m) Y_X9_of V_X9_of m_X9_60 (Or.inl ⟨_, _, _, _, b_m.1, rfl⟩) ⟨⟨rfl, rfl⟩, ⟨(Nat.le_of_ble_eq_true rfl), (Nat.le_of_ble_eq_true rfl)⟩, ⟨(Nat.le_of_ble_eq_true rfl), (Nat.le_of_ble_eq_true rfl)⟩⟩ rfl rfl (Nat.le_of_ble_eq_true rfl) dX9_crosses_87) (fun r hh n1 hpp => ?_)
      obtain ⟨rfl, hu⟩ := hpp
      cases hu
      refine rx_isub C dX9_crosses_90 ?_
      replace hF := rx_biE hF; obtain ⟨y17, e_y17, hF⟩ := hF
      refine rx_cv (rx_rV C (w_X9_lays e_y17 b_m) Y_X9_lays V_X9_lays m_X9_105 (Or.inl ⟨_, _, _, _, b_m.1, rfl⟩) ⟨⟨rfl, rfl⟩, ⟨(Nat.le_of_ble_eq_true rfl), (Nat.le_of_ble_eq_true rfl)⟩, ⟨(Nat.le_of_ble_eq_true rfl), (Nat.le_of_ble_eq_true rfl)⟩⟩ rfl rfl (Nat.le_of_ble_eq_true rfl) dX9_crosses_91) (fun hh n1 hpp => ?_)
      obtain ⟨hn, c_m, ff⟩ := hpp
      replace hn : n = n1 := Eq.symm hn
      subst hn
      replace b_m : bM k m y17 hh := c_m
      clear c_m
      replace ff : rx_fr [(m, 9)] _ hh := ff
      replace fr := rx_frt fr ff (fun a ha => ⟨ha.1, trivial⟩)
      refine rx_aload_n C dX9_crosses_94 2 rfl ?_
      refine rx_iload_n C dX9_crosses_95 3 rfl ?_
      refine rx_iconst C dX9_crosses_96 (5 : Int32) (by decide) ?_
      refine rx_aload_n C dX9_crosses_97 2 rfl ?_
      refine rx_iload_n C dX9_crosses_98 3 rfl ?_
      refine rx_iconst C dX9_crosses_99 (5 : Int32) (by decide) ?_
      replace hF := rx_biE hF; obtain ⟨y18, e_y18, hF⟩ := hF
      refine rx_ci (rx_rV C (w_X9_of e_y18 b_m) Y_X9_of V_X9_of m_X9_60 (Or.inl ⟨_, _, _, _, b_m.1, rfl⟩) ⟨⟨rfl, rfl⟩, ⟨(Nat.le_of_ble_eq_true rfl), (Nat.le_of_ble_eq_true rfl)⟩, ⟨(Nat.le_of_ble_eq_true rfl), (Nat.le_of_ble_eq_true rfl)⟩⟩ rfl rfl (Nat.le_of_ble_eq_true rfl) dX9_crosses_100) (fun r hh n1 hpp => ?_)
      obtain ⟨rfl, hu⟩ := hpp
      cases hu
      refine rx_iconst C dX9_crosses_103 (1 : Int32) (by decide) ?_
      refine rx_iadd C dX9_crosses_104 ?_
      replace hF := rx_biE hF; obtain ⟨y19, e_y19, hF⟩ := hF
      refine rx_cv (rx_rV C (w_X9_lays e_y19 b_m) Y_X9_lays V_X9_lays m_X9_105 (Or.inl ⟨_, _, _, _, b_m.1, rfl⟩) ⟨⟨rfl, rfl⟩, ⟨(Nat.le_of_ble_eq_true rfl), (Nat.le_of_ble_eq_true rfl)⟩, ⟨(Nat.le_of_ble_eq_true rfl), (Nat.le_of_ble_eq_true rfl)⟩⟩ rfl rfl (Nat.le_of_ble_eq_true rfl) dX9_crosses_105) (fun hh n1 hpp => ?_)
      obtain ⟨hn, c_m, ff⟩ := hpp
      replace hn : n = n1 := Eq.symm hn
      subst hn
      replace b_m : bM k m y19 hh := c_m
      clear c_m
      replace ff : rx_fr [(m, 9)] _ hh := ff
      replace fr := rx_frt fr ff (fun a ha => ⟨ha.1, trivial⟩)
      refine rx_aload_n C dX9_crosses_108 2 rfl ?_
      refine rx_iload_n C dX9_crosses_109 3 rfl ?_
      replace hF := rx_biE hF; obtain ⟨y20, e_y20, hF⟩ := hF
      refine rx_cv (rx_rV C (w_X9_countsCoins e_y20 b_m) Y_X9_countsCoins V_X9_countsCoins m_X9_108 (Or.inl ⟨_, _, _, _, b_m.1, rfl⟩) ⟨⟨rfl, rfl⟩, ⟨(Nat.le_of_ble_eq_true rfl), (Nat.le_of_ble_eq_true rfl)⟩, ⟨(Nat.le_of_ble_eq_true rfl), (Nat.le_of_ble_eq_true rfl)⟩⟩ rfl rfl (Nat.le_of_ble_eq_true rfl) dX9_crosses_110) (fun hh n1 hpp => ?_)
      obtain ⟨hn, c_m, ff⟩ := hpp
      replace hn : n = n1 := Eq.symm hn
      subst hn
      replace b_m : bM k m y20 hh := c_m
      clear c_m
      replace ff : rx_fr [(m, 9)] _ hh := ff
      replace fr := rx_frt fr ff (fun a ha => ⟨ha.1, trivial⟩)
      refine rx_iload_n C dX9_crosses_113 1 rfl ?_
      replace hF := rx_biE hF; obtain ⟨zj21, e_zj21, hF⟩ := hF
      have KJ22 : ∀ hh : hp, bM k m zj21 hh → rx_fr [(m, 9)] h hh → rx_W P9 l E9 (rx_rm 4 87) S9 M9 A9 B9 me9 c9 (MQ B9 (va_Qi (fun r u => y.1 = r ∧ (y.1 = 0 ∨ y.1 = 1) ∧ u.2 = n ∧ bM k m y.2 u.1 ∧ rx_fr [(m, 9)] h u.1) (rx_B G k) (rx_A k)) A9 S9 0 0 (rx_A k)) G k 4 0 0 hh n 142 [(0, .ref m), (1, .int x1), (2, .int y2), (3, .int v6)] [] := by
        intro hh b_m fr
        refine rx_iload_n C dX9_crosses_142 2 rfl ?_
        replace hF := rx_biE hF; obtain ⟨zj23, e_zj23, hF⟩ := hF
        have KJ24 : ∀ hh : hp, bM k m zj23 hh → rx_fr [(m, 9)] h hh → rx_W P9 l E9 (rx_rm 4 87) S9 M9 A9 B9 me9 c9 (MQ B9 (va_Qi (fun r u => y.1 = r ∧ (y.1 = 0 ∨ y.1 = 1) ∧ u.2 = n ∧ bM k m y.2 u.1 ∧ rx_fr [(m, 9)] h u.1) (rx_B G k) (rx_A k)) A9 S9 0 0 (rx_A k)) G k 4 0 0 hh n 171 [(0, .ref m), (1, .int x1), (2, .int y2), (3, .int v6)] [] := by
          intro hh b_m fr
          refine rx_iconst C dX9_crosses_171 (1 : Int32) (by decide) ?_
          obtain rfl := Option.some.inj hF
          exact rx_zret C (rx_nz (Or.inr rfl)) dX9_crosses_172 (Nat.le_refl _) (Nat.le_refl _) ⟨rfl, (Or.inr rfl), rfl, b_m, fr⟩
        replace hF := e_zj23
        clear e_zj23
        refine rx_if_ne C dX9_crosses_143 171 (by decide) (fun c25 => ?_) (fun c25 => ?_)
        · rw [if_neg c25] at hF
          obtain rfl := Option.some.inj hF
          refine rx_sub [0, 1, 2, 3] rfl ?_
          exact KJ24 _ b_m fr
        · rw [if_pos c25] at hF
          refine rx_aload_n C dX9_crosses_146 0 rfl ?_
          refine rx_iload_n C dX9_crosses_147 1 rfl ?_
          replace hF := rx_biE hF; obtain ⟨y26, e_y26, hF⟩ := hF
          refine rx_ci (rx_rV C (w_X9_isKingNow e_y26 b_m) Y_X9_isKingNow V_X9_isKingNow m_X9_64 (Or.inl ⟨_, _, _, _, b_m.1, rfl⟩) ⟨⟨rfl, rfl⟩, ⟨(Nat.le_of_ble_eq_true rfl), (Nat.le_of_ble_eq_true rfl)⟩, ⟨(Nat.le_of_ble_eq_true rfl), (Nat.le_of_ble_eq_true rfl)⟩⟩ rfl rfl (Nat.le_of_ble_eq_true rfl) dX9_crosses_148) (fun r hh n1 hpp => ?_)
          obtain ⟨rfl, bo_y26, hu⟩ := hpp
          cases hu
          refine rx_if_eq C dX9_crosses_151 171 (by decide) (fun c27 => ?_) (fun c27 => ?_)
          · rw [if_pos c27] at hF
            obtain rfl := Option.some.inj hF
            refine rx_sub [0, 1, 2, 3] rfl ?_
            exact KJ24 _ b_m fr
          · rw [if_neg c27] at hF
            refine rx_aload_n C dX9_crosses_154 0 rfl ?_
            refine rx_aload_n C dX9_crosses_155 0 rfl ?_
            refine rx_getf C f_X9_13 dX9_crosses_156 b_m.1 rfl ?_
            refine rx_iconst C dX9_crosses_159 (1 : Int32) (by decide) ?_
            replace hF := rx_biE hF; obtain ⟨v28, e_v28, hF⟩ := hF
            refine rx_aldF C dX9_crosses_160 b_m.2.1 e_v28 ?_
            refine rx_aload_n C dX9_crosses_161 0 rfl ?_
            refine rx_getf C f_X9_13 dX9_crosses_162 b_m.1 rfl ?_
            refine rx_iconst C dX9_crosses_165 (2 : Int32) (by decide) ?_
            replace hF := rx_biE hF; obtain ⟨v29, e_v29, hF⟩ := hF
            refine rx_aldF C dX9_crosses_166 b_m.2.1 e_v29 ?_
            refine rx_iadd C dX9_crosses_167 ?_
            replace hF := rx_biE hF; obtain ⟨y30, e_y30, hF⟩ := hF
            refine rx_cv (rx_rV C (w_X9_bounds e_y30 b_m) Y_X9_bounds V_X9_bounds m_X9_112 (Or.inl ⟨_, _, _, _, b_m.1, rfl⟩) ⟨⟨rfl, rfl⟩, ⟨(Nat.le_of_ble_eq_true rfl), (Nat.le_of_ble_eq_true rfl)⟩, ⟨(Nat.le_of_ble_eq_true rfl), (Nat.le_of_ble_eq_true rfl)⟩⟩ rfl rfl (Nat.le_of_ble_eq_true rfl) dX9_crosses_168) (fun hh n1 hpp => ?_)
            obtain ⟨hn, c_m, ff⟩ := hpp
            replace hn : n = n1 := Eq.symm hn
            subst hn
            replace b_m : bM k m y30 hh := c_m
            clear c_m
            replace ff : rx_fr [(m, 9)] _ hh := ff
            replace fr := rx_frt fr ff (fun a ha => ⟨ha.1, trivial⟩)
            obtain rfl := Option.some.inj hF
            refine rx_sub [0, 1, 2, 3] rfl ?_
            exact KJ24 _ b_m fr
      replace hF := e_zj21
      clear e_zj21
      refine rx_if_eq C dX9_crosses_114 142 (by decide) (fun c31 => ?_) (fun c31 => ?_)
      · rw [if_pos c31] at hF
        obtain rfl := Option.some.inj hF
        refine rx_sub [2, 3, 1, 0] rfl ?_
        exact KJ22 _ b_m fr
      · rw [if_neg c31] at hF
        refine rx_aload_n C dX9_crosses_117 2 rfl ?_
        refine rx_iload_n C dX9_crosses_118 3 rfl ?_
        replace hF := rx_biE hF; obtain ⟨y32, e_y32, hF⟩ := hF
        refine rx_ci (rx_rV C (w_X9_isKingNow e_y32 b_m) Y_X9_isKingNow V_X9_isKingNow m_X9_64 (Or.inl ⟨_, _, _, _, b_m.1, rfl⟩) ⟨⟨rfl, rfl⟩, ⟨(Nat.le_of_ble_eq_true rfl), (Nat.le_of_ble_eq_true rfl)⟩, ⟨(Nat.le_of_ble_eq_true rfl), (Nat.le_of_ble_eq_true rfl)⟩⟩ rfl rfl (Nat.le_of_ble_eq_true rfl) dX9_crosses_119) (fun r hh n1 hpp => ?_)
        obtain ⟨rfl, bo_y32, hu⟩ := hpp
        cases hu
        refine rx_if_ne C dX9_crosses_122 142 (by decide) (fun c33 => ?_) (fun c33 => ?_)
        · rw [if_neg c33] at hF
          obtain rfl := Option.some.inj hF
          refine rx_sub [2, 3, 1, 0] rfl ?_
          exact KJ22 _ b_m fr
        · rw [if_pos c33] at hF
          refine rx_aload_n C dX9_crosses_125 2 rfl ?_
          refine rx_aload_n C dX9_crosses_126 2 rfl ?_
          refine rx_getf C f_X9_13 dX9_crosses_127 b_m.1 rfl ?_
          refine rx_iconst C dX9_crosses_130 (1 : Int32) (by decide) ?_
          replace hF := rx_biE hF; obtain ⟨v34, e_v34, hF⟩ := hF
          refine rx_aldF C dX9_crosses_131 b_m.2.1 e_v34 ?_
          refine rx_aload_n C dX9_crosses_132 2 rfl ?_
          refine rx_getf C f_X9_13 dX9_crosses_133 b_m.1 rfl ?_
          refine rx_iconst C dX9_crosses_136 (2 : Int32) (by decide) ?_
          replace hF := rx_biE hF; obtain ⟨v35, e_v35, hF⟩ := hF
          refine rx_aldF C dX9_crosses_137 b_m.2.1 e_v35 ?_
          refine rx_isub C dX9_crosses_138 ?_
          replace hF := rx_biE hF; obtain ⟨y36, e_y36, hF⟩ := hF
          refine rx_cv (rx_rV C (w_X9_bounds e_y36 b_m) Y_X9_bounds V_X9_bounds m_X9_112 (Or.inl ⟨_, _, _, _, b_m.1, rfl⟩) ⟨⟨rfl, rfl⟩, ⟨(Nat.le_of_ble_eq_true rfl), (Nat.le_of_ble_eq_true rfl)⟩, ⟨(Nat.le_of_ble_eq_true rfl), (Nat.le_of_ble_eq_true rfl)⟩⟩ rfl rfl (Nat.le_of_ble_eq_true rfl) dX9_crosses_139) (fun hh n1 hpp => ?_)
          obtain ⟨hn, c_m, ff⟩ := hpp
          replace hn : n = n1 := Eq.symm hn
          subst hn
          replace b_m : bM k m y36 hh := c_m
          clear c_m
          replace ff : rx_fr [(m, 9)] _ hh := ff
          replace fr := rx_frt fr ff (fun a ha => ⟨ha.1, trivial⟩)
          obtain rfl := Option.some.inj hF
          refine rx_sub [2, 3, 1, 0] rfl ?_
          exact KJ22 _ b_m fr
    · rw [if_neg c10] at hF
      refine rx_iconst C dX9_crosses_54 (0 : Int32) (by decide) ?_
      obtain rfl := Option.some.inj hF
      exact rx_zret C (rx_nz (Or.inl rfl)) dX9_crosses_55 (Nat.le_refl _) (Nat.le_refl _) ⟨rfl, (Or.inl rfl), rfl, b_m, fr⟩
  · rw [if_neg c3] at hF
    refine rx_iconst C dX9_crosses_19 (3 : Int32) (by decide) ?_
    refine rx_goto C dX9_crosses_20 24 (by decide) ?_
    replace hF := rx_biE hF; obtain ⟨v37, e_v37, hF⟩ := hF
    refine rx_aldF C dX9_crosses_24 b_m.2.1 e_v37 ?_
    refine rx_aload_n C dX9_crosses_25 1 rfl ?_
    refine rx_iload_n C dX9_crosses_26 2 rfl ?_
    refine rx_bipush C dX9_crosses_27 (6 : Int32) (by decide) ?_
    replace hF := rx_biE hF; obtain ⟨y38, e_y38, hF⟩ := hF
    refine rx_ci (rx_rV C (w_X9_of e_y38 b_m) Y_X9_of V_X9_of m_X9_60 (Or.inl ⟨_, _, _, _, b_m.1, rfl⟩) ⟨⟨rfl, rfl⟩, ⟨(Nat.le_of_ble_eq_true rfl), (Nat.le_of_ble_eq_true rfl)⟩, ⟨(Nat.le_of_ble_eq_true rfl), (Nat.le_of_ble_eq_true rfl)⟩⟩ rfl rfl (Nat.le_of_ble_eq_true rfl) dX9_crosses_29) (fun r hh n1 hpp => ?_)
    obtain ⟨rfl, hu⟩ := hpp
    cases hu
    refine rx_iadd C dX9_crosses_32 ?_
    refine rx_iconst C dX9_crosses_33 (1 : Int32) (by decide) ?_
    refine rx_isub C dX9_crosses_34 ?_
    replace hF := rx_leE hF; obtain ⟨v39, e_v39, hF⟩ := hF
    rw [e_v39]
    refine rx_istore_n C dX9_crosses_35 (by decide) [(3, .int v39), (2, .int y2), (0, .ref m), (1, .int x1)] rfl ?_
    refine rx_aload_n C dX9_crosses_36 2 rfl ?_
    refine rx_iload_n C dX9_crosses_37 3 rfl ?_
    refine rx_bipush C dX9_crosses_38 (6 : Int32) (by decide) ?_
    refine rx_iconst C dX9_crosses_40 (0 : Int32) (by decide) ?_
    replace hF := rx_biE hF; obtain ⟨y40, e_y40, hF⟩ := hF
    refine rx_cv (rx_rV C (w_X9_lays e_y40 b_m) Y_X9_lays V_X9_lays m_X9_105 (Or.inl ⟨_, _, _, _, b_m.1, rfl⟩) ⟨⟨rfl, rfl⟩, ⟨(Nat.le_of_ble_eq_true rfl), (Nat.le_of_ble_eq_true rfl)⟩, ⟨(Nat.le_of_ble_eq_true rfl), (Nat.le_of_ble_eq_true rfl)⟩⟩ rfl rfl (Nat.le_of_ble_eq_true rfl) dX9_crosses_41) (fun hh n1 hpp => ?_)
    obtain ⟨hn, c_m, ff⟩ := hpp
    replace hn : n = n1 := Eq.symm hn
    subst hn
    replace b_m : bM k m y40 hh := c_m
    clear c_m
    replace ff : rx_fr [(m, 9)] _ hh := ff
    replace fr := rx_frt fr ff (fun a ha => ⟨ha.1, trivial⟩)
    refine rx_aload_n C dX9_crosses_44 2 rfl ?_
    refine rx_iload_n C dX9_crosses_45 3 rfl ?_
    refine rx_iconst C dX9_crosses_46 (2 : Int32) (by decide) ?_
    replace hF := rx_biE hF; obtain ⟨y41, e_y41, hF⟩ := hF
    refine rx_ci (rx_rV C (w_X9_of e_y41 b_m) Y_X9_of V_X9_of m_X9_60 (Or.inl ⟨_, _, _, _, b_m.1, rfl⟩) ⟨⟨rfl, rfl⟩, ⟨(Nat.le_of_ble_eq_true rfl), (Nat.le_of_ble_eq_true rfl)⟩, ⟨(Nat.le_of_ble_eq_true rfl), (Nat.le_of_ble_eq_true rfl)⟩⟩ rfl rfl (Nat.le_of_ble_eq_true rfl) dX9_crosses_47) (fun r hh n1 hpp => ?_)
    obtain ⟨rfl, hu⟩ := hpp
    cases hu
    refine rx_iload_n C dX9_crosses_50 0 rfl ?_
    refine rx_icmp_ge C dX9_crosses_51 56 (by decide) (fun c42 => ?_) (fun c42 => ?_)
    · rw [if_pos c42] at hF
      refine rx_aload_n C dX9_crosses_56 2 rfl ?_
      refine rx_iload_n C dX9_crosses_57 3 rfl ?_
      refine rx_iconst C dX9_crosses_58 (2 : Int32) (by decide) ?_
      refine rx_aload_n C dX9_crosses_59 2 rfl ?_
      refine rx_iload_n C dX9_crosses_60 3 rfl ?_
      refine rx_iconst C dX9_crosses_61 (2 : Int32) (by decide) ?_
      replace hF := rx_biE hF; obtain ⟨y43, e_y43, hF⟩ := hF
      refine rx_ci (rx_rV C (w_X9_of e_y43 b_m) Y_X9_of V_X9_of m_X9_60 (Or.inl ⟨_, _, _, _, b_m.1, rfl⟩) ⟨⟨rfl, rfl⟩, ⟨(Nat.le_of_ble_eq_true rfl), (Nat.le_of_ble_eq_true rfl)⟩, ⟨(Nat.le_of_ble_eq_true rfl), (Nat.le_of_ble_eq_true rfl)⟩⟩ rfl rfl (Nat.le_of_ble_eq_true rfl) dX9_crosses_62) (fun r hh n1 hpp => ?_)
      obtain ⟨rfl, hu⟩ := hpp
      cases hu
      refine rx_iload_n C dX9_crosses_65 0 rfl ?_
      refine rx_isub C dX9_crosses_66 ?_
      replace hF := rx_biE hF; obtain ⟨y44, e_y44, hF⟩ := hF
      refine rx_cv (rx_rV C (w_X9_lays e_y44 b_m) Y_X9_lays V_X9_lays m_X9_105 (Or.inl ⟨_, _, _, _, b_m.1, rfl⟩) ⟨⟨rfl, rfl⟩, ⟨(Nat.le_of_ble_eq_true rfl), (Nat.le_of_ble_eq_true rfl)⟩, ⟨(Nat.le_of_ble_eq_true rfl), (Nat.le_of_ble_eq_true rfl)⟩⟩ rfl rfl (Nat.le_of_ble_eq_true rfl) dX9_crosses_67) (fun hh n1 hpp => ?_)
      obtain ⟨hn, c_m, ff⟩ := hpp
      replace hn : n = n1 := Eq.symm hn
      subst hn
      replace b_m : bM k m y44 hh := c_m
      clear c_m
      replace ff : rx_fr [(m, 9)] _ hh := ff
      replace fr := rx_frt fr ff (fun a ha => ⟨ha.1, trivial⟩)
      refine rx_aload_n C dX9_crosses_70 2 rfl ?_
      refine rx_getf C f_X9_13 dX9_crosses_71 b_m.1 rfl ?_
      refine rx_iconst C dX9_crosses_74 (5 : Int32) (by decide) ?_
      refine rx_dup2 C dX9_crosses_75 rfl rfl ?_
      replace hF := rx_biE hF; obtain ⟨v45, e_v45, hF⟩ := hF
      refine rx_aldF C dX9_crosses_76 b_m.2.1 e_v45 ?_
      refine rx_iload_n C dX9_crosses_77 0 rfl ?_
      refine rx_iadd C dX9_crosses_78 ?_
      replace hF := rx_biE hF; obtain ⟨f46, e_f46, hF⟩ := hF
      replace hF := rx_leE hF; obtain ⟨o_m_47, e_o_m_47, hF⟩ := hF
      refine rx_aM1 C dX9_crosses_79 b_m e_f46 e_o_m_47 (fun hh c_m ff => ?_)
      replace b_m := c_m
      replace fr := rx_frt fr ff (fun a ha => ⟨ha.1, trivial⟩)
      refine rx_aload_n C dX9_crosses_80 2 rfl ?_
      refine rx_iload_n C dX9_crosses_81 3 rfl ?_
      refine rx_iconst C dX9_crosses_82 (1 : Int32) (by decide) ?_
      refine rx_iconst C dX9_crosses_83 (1 : Int32) (by decide) ?_
      refine rx_aload_n C dX9_crosses_84 2 rfl ?_
      refine rx_iload_n C dX9_crosses_85 3 rfl ?_
      refine rx_iconst C dX9_crosses_86 (1 : Int32) (by decide) ?_
      replace hF := rx_biE hF; obtain ⟨y48, e_y48, hF⟩ := hF
      refine rx_ci (rx_rV C (w_X9_of e_y48 b_m) Y_X9_of V_X9_of m_X9_60 (Or.inl ⟨_, _, _, _, b_m.1, rfl⟩) ⟨⟨rfl, rfl⟩, ⟨(Nat.le_of_ble_eq_true rfl), (Nat.le_of_ble_eq_true rfl)⟩, ⟨(Nat.le_of_ble_eq_true rfl), (Nat.le_of_ble_eq_true rfl)⟩⟩ rfl rfl (Nat.le_of_ble_eq_true rfl) dX9_crosses_87) (fun r hh n1 hpp => ?_)
      obtain ⟨rfl, hu⟩ := hpp
      cases hu
      refine rx_isub C dX9_crosses_90 ?_
      replace hF := rx_biE hF; obtain ⟨y49, e_y49, hF⟩ := hF
      refine rx_cv (rx_rV C (w_X9_lays e_y49 b_m) Y_X9_lays V_X9_lays m_X9_105 (Or.inl ⟨_, _, _, _, b_m.1, rfl⟩) ⟨⟨rfl, rfl⟩, ⟨(Nat.le_of_ble_eq_true rfl), (Nat.le_of_ble_eq_true rfl)⟩, ⟨(Nat.le_of_ble_eq_true rfl), (Nat.le_of_ble_eq_true rfl)⟩⟩ rfl rfl (Nat.le_of_ble_eq_true rfl) dX9_crosses_91) (fun hh n1 hpp => ?_)
      obtain ⟨hn, c_m, ff⟩ := hpp
      replace hn : n = n1 := Eq.symm hn
      subst hn
      replace b_m : bM k m y49 hh := c_m
      clear c_m
      replace ff : rx_fr [(m, 9)] _ hh := ff
      replace fr := rx_frt fr ff (fun a ha => ⟨ha.1, trivial⟩)
      refine rx_aload_n C dX9_crosses_94 2 rfl ?_
      refine rx_iload_n C dX9_crosses_95 3 rfl ?_
      refine rx_iconst C dX9_crosses_96 (5 : Int32) (by decide) ?_
      refine rx_aload_n C dX9_crosses_97 2 rfl ?_
      refine rx_iload_n C dX9_crosses_98 3 rfl ?_
      refine rx_iconst C dX9_crosses_99 (5 : Int32) (by decide) ?_
      replace hF := rx_biE hF; obtain ⟨y50, e_y50, hF⟩ := hF
      refine rx_ci (rx_rV C (w_X9_of e_y50 b_m) Y_X9_of V_X9_of m_X9_60 (Or.inl ⟨_, _, _, _, b_m.1, rfl⟩) ⟨⟨rfl, rfl⟩, ⟨(Nat.le_of_ble_eq_true rfl), (Nat.le_of_ble_eq_true rfl)⟩, ⟨(Nat.le_of_ble_eq_true rfl), (Nat.le_of_ble_eq_true rfl)⟩⟩ rfl rfl (Nat.le_of_ble_eq_true rfl) dX9_crosses_100) (fun r hh n1 hpp => ?_)
      obtain ⟨rfl, hu⟩ := hpp
      cases hu
      refine rx_iconst C dX9_crosses_103 (1 : Int32) (by decide) ?_
      refine rx_iadd C dX9_crosses_104 ?_
      replace hF := rx_biE hF; obtain ⟨y51, e_y51, hF⟩ := hF
      refine rx_cv (rx_rV C (w_X9_lays e_y51 b_m) Y_X9_lays V_X9_lays m_X9_105 (Or.inl ⟨_, _, _, _, b_m.1, rfl⟩) ⟨⟨rfl, rfl⟩, ⟨(Nat.le_of_ble_eq_true rfl), (Nat.le_of_ble_eq_true rfl)⟩, ⟨(Nat.le_of_ble_eq_true rfl), (Nat.le_of_ble_eq_true rfl)⟩⟩ rfl rfl (Nat.le_of_ble_eq_true rfl) dX9_crosses_105) (fun hh n1 hpp => ?_)
      obtain ⟨hn, c_m, ff⟩ := hpp
      replace hn : n = n1 := Eq.symm hn
      subst hn
      replace b_m : bM k m y51 hh := c_m
      clear c_m
      replace ff : rx_fr [(m, 9)] _ hh := ff
      replace fr := rx_frt fr ff (fun a ha => ⟨ha.1, trivial⟩)
      refine rx_aload_n C dX9_crosses_108 2 rfl ?_
      refine rx_iload_n C dX9_crosses_109 3 rfl ?_
      replace hF := rx_biE hF; obtain ⟨y52, e_y52, hF⟩ := hF
      refine rx_cv (rx_rV C (w_X9_countsCoins e_y52 b_m) Y_X9_countsCoins V_X9_countsCoins m_X9_108 (Or.inl ⟨_, _, _, _, b_m.1, rfl⟩) ⟨⟨rfl, rfl⟩, ⟨(Nat.le_of_ble_eq_true rfl), (Nat.le_of_ble_eq_true rfl)⟩, ⟨(Nat.le_of_ble_eq_true rfl), (Nat.le_of_ble_eq_true rfl)⟩⟩ rfl rfl (Nat.le_of_ble_eq_true rfl) dX9_crosses_110) (fun hh n1 hpp => ?_)
      obtain ⟨hn, c_m, ff⟩ := hpp
      replace hn : n = n1 := Eq.symm hn
      subst hn
      replace b_m : bM k m y52 hh := c_m
      clear c_m
      replace ff : rx_fr [(m, 9)] _ hh := ff
      replace fr := rx_frt fr ff (fun a ha => ⟨ha.1, trivial⟩)
      refine rx_iload_n C dX9_crosses_113 1 rfl ?_
      replace hF := rx_biE hF; obtain ⟨zj53, e_zj53, hF⟩ := hF
      have KJ54 : ∀ hh : hp, bM k m zj53 hh → rx_fr [(m, 9)] h hh → rx_W P9 l E9 (rx_rm 4 87) S9 M9 A9 B9 me9 c9 (MQ B9 (va_Qi (fun r u => y.1 = r ∧ (y.1 = 0 ∨ y.1 = 1) ∧ u.2 = n ∧ bM k m y.2 u.1 ∧ rx_fr [(m, 9)] h u.1) (rx_B G k) (rx_A k)) A9 S9 0 0 (rx_A k)) G k 4 0 0 hh n 142 [(0, .ref m), (1, .int x1), (2, .int y2), (3, .int v39)] [] := by
        intro hh b_m fr
        refine rx_iload_n C dX9_crosses_142 2 rfl ?_
        replace hF := rx_biE hF; obtain ⟨zj55, e_zj55, hF⟩ := hF
        have KJ56 : ∀ hh : hp, bM k m zj55 hh → rx_fr [(m, 9)] h hh → rx_W P9 l E9 (rx_rm 4 87) S9 M9 A9 B9 me9 c9 (MQ B9 (va_Qi (fun r u => y.1 = r ∧ (y.1 = 0 ∨ y.1 = 1) ∧ u.2 = n ∧ bM k m y.2 u.1 ∧ rx_fr [(m, 9)] h u.1) (rx_B G k) (rx_A k)) A9 S9 0 0 (rx_A k)) G k 4 0 0 hh n 171 [(0, .ref m), (1, .int x1), (2, .int y2), (3, .int v39)] [] := by
          intro hh b_m fr
          refine rx_iconst C dX9_crosses_171 (1 : Int32) (by decide) ?_
          obtain rfl := Option.some.inj hF
          exact rx_zret C (rx_nz (Or.inr rfl)) dX9_crosses_172 (Nat.le_refl _) (Nat.le_refl _) ⟨rfl, (Or.inr rfl), rfl, b_m, fr⟩
        replace hF := e_zj55
        clear e_zj55
        refine rx_if_ne C dX9_crosses_143 171 (by decide) (fun c57 => ?_) (fun c57 => ?_)
        · rw [if_neg c57] at hF
          obtain rfl := Option.some.inj hF
          refine rx_sub [0, 1, 2, 3] rfl ?_
          exact KJ56 _ b_m fr
        · rw [if_pos c57] at hF
          refine rx_aload_n C dX9_crosses_146 0 rfl ?_
          refine rx_iload_n C dX9_crosses_147 1 rfl ?_
          replace hF := rx_biE hF; obtain ⟨y58, e_y58, hF⟩ := hF
          refine rx_ci (rx_rV C (w_X9_isKingNow e_y58 b_m) Y_X9_isKingNow V_X9_isKingNow m_X9_64 (Or.inl ⟨_, _, _, _, b_m.1, rfl⟩) ⟨⟨rfl, rfl⟩, ⟨(Nat.le_of_ble_eq_true rfl), (Nat.le_of_ble_eq_true rfl)⟩, ⟨(Nat.le_of_ble_eq_true rfl), (Nat.le_of_ble_eq_true rfl)⟩⟩ rfl rfl (Nat.le_of_ble_eq_true rfl) dX9_crosses_148) (fun r hh n1 hpp => ?_)
          obtain ⟨rfl, bo_y58, hu⟩ := hpp
          cases hu
          refine rx_if_eq C dX9_crosses_151 171 (by decide) (fun c59 => ?_) (fun c59 => ?_)
          · rw [if_pos c59] at hF
            obtain rfl := Option.some.inj hF
            refine rx_sub [0, 1, 2, 3] rfl ?_
            exact KJ56 _ b_m fr
          · rw [if_neg c59] at hF
            refine rx_aload_n C dX9_crosses_154 0 rfl ?_
            refine rx_aload_n C dX9_crosses_155 0 rfl ?_
            refine rx_getf C f_X9_13 dX9_crosses_156 b_m.1 rfl ?_
            refine rx_iconst C dX9_crosses_159 (1 : Int32) (by decide) ?_
            replace hF := rx_biE hF; obtain ⟨v60, e_v60, hF⟩ := hF
            refine rx_aldF C dX9_crosses_160 b_m.2.1 e_v60 ?_
            refine rx_aload_n C dX9_crosses_161 0 rfl ?_
            refine rx_getf C f_X9_13 dX9_crosses_162 b_m.1 rfl ?_
            refine rx_iconst C dX9_crosses_165 (2 : Int32) (by decide) ?_
            replace hF := rx_biE hF; obtain ⟨v61, e_v61, hF⟩ := hF
            refine rx_aldF C dX9_crosses_166 b_m.2.1 e_v61 ?_
            refine rx_iadd C dX9_crosses_167 ?_
            replace hF := rx_biE hF; obtain ⟨y62, e_y62, hF⟩ := hF
            refine rx_cv (rx_rV C (w_X9_bounds e_y62 b_m) Y_X9_bounds V_X9_bounds m_X9_112 (Or.inl ⟨_, _, _, _, b_m.1, rfl⟩) ⟨⟨rfl, rfl⟩, ⟨(Nat.le_of_ble_eq_true rfl), (Nat.le_of_ble_eq_true rfl)⟩, ⟨(Nat.le_of_ble_eq_true rfl), (Nat.le_of_ble_eq_true rfl)⟩⟩ rfl rfl (Nat.le_of_ble_eq_true rfl) dX9_crosses_168) (fun hh n1 hpp => ?_)
            obtain ⟨hn, c_m, ff⟩ := hpp
            replace hn : n = n1 := Eq.symm hn
            subst hn
            replace b_m : bM k m y62 hh := c_m
            clear c_m
            replace ff : rx_fr [(m, 9)] _ hh := ff
            replace fr := rx_frt fr ff (fun a ha => ⟨ha.1, trivial⟩)
            obtain rfl := Option.some.inj hF
            refine rx_sub [0, 1, 2, 3] rfl ?_
            exact KJ56 _ b_m fr
      replace hF := e_zj53
      clear e_zj53
      refine rx_if_eq C dX9_crosses_114 142 (by decide) (fun c63 => ?_) (fun c63 => ?_)
      · rw [if_pos c63] at hF
        obtain rfl := Option.some.inj hF
        refine rx_sub [2, 3, 1, 0] rfl ?_
        exact KJ54 _ b_m fr
      · rw [if_neg c63] at hF
        refine rx_aload_n C dX9_crosses_117 2 rfl ?_
        refine rx_iload_n C dX9_crosses_118 3 rfl ?_
        replace hF := rx_biE hF; obtain ⟨y64, e_y64, hF⟩ := hF
        refine rx_ci (rx_rV C (w_X9_isKingNow e_y64 b_m) Y_X9_isKingNow V_X9_isKingNow m_X9_64 (Or.inl ⟨_, _, _, _, b_m.1, rfl⟩) ⟨⟨rfl, rfl⟩, ⟨(Nat.le_of_ble_eq_true rfl), (Nat.le_of_ble_eq_true rfl)⟩, ⟨(Nat.le_of_ble_eq_true rfl), (Nat.le_of_ble_eq_true rfl)⟩⟩ rfl rfl (Nat.le_of_ble_eq_true rfl) dX9_crosses_119) (fun r hh n1 hpp => ?_)
        obtain ⟨rfl, bo_y64, hu⟩ := hpp
        cases hu
        refine rx_if_ne C dX9_crosses_122 142 (by decide) (fun c65 => ?_) (fun c65 => ?_)
        · rw [if_neg c65] at hF
          obtain rfl := Option.some.inj hF
          refine rx_sub [2, 3, 1, 0] rfl ?_
          exact KJ54 _ b_m fr
        · rw [if_pos c65] at hF
          refine rx_aload_n C dX9_crosses_125 2 rfl ?_
          refine rx_aload_n C dX9_crosses_126 2 rfl ?_
          refine rx_getf C f_X9_13 dX9_crosses_127 b_m.1 rfl ?_
          refine rx_iconst C dX9_crosses_130 (1 : Int32) (by decide) ?_
          replace hF := rx_biE hF; obtain ⟨v66, e_v66, hF⟩ := hF
          refine rx_aldF C dX9_crosses_131 b_m.2.1 e_v66 ?_
          refine rx_aload_n C dX9_crosses_132 2 rfl ?_
          refine rx_getf C f_X9_13 dX9_crosses_133 b_m.1 rfl ?_
          refine rx_iconst C dX9_crosses_136 (2 : Int32) (by decide) ?_
          replace hF := rx_biE hF; obtain ⟨v67, e_v67, hF⟩ := hF
          refine rx_aldF C dX9_crosses_137 b_m.2.1 e_v67 ?_
          refine rx_isub C dX9_crosses_138 ?_
          replace hF := rx_biE hF; obtain ⟨y68, e_y68, hF⟩ := hF
          refine rx_cv (rx_rV C (w_X9_bounds e_y68 b_m) Y_X9_bounds V_X9_bounds m_X9_112 (Or.inl ⟨_, _, _, _, b_m.1, rfl⟩) ⟨⟨rfl, rfl⟩, ⟨(Nat.le_of_ble_eq_true rfl), (Nat.le_of_ble_eq_true rfl)⟩, ⟨(Nat.le_of_ble_eq_true rfl), (Nat.le_of_ble_eq_true rfl)⟩⟩ rfl rfl (Nat.le_of_ble_eq_true rfl) dX9_crosses_139) (fun hh n1 hpp => ?_)
          obtain ⟨hn, c_m, ff⟩ := hpp
          replace hn : n = n1 := Eq.symm hn
          subst hn
          replace b_m : bM k m y68 hh := c_m
          clear c_m
          replace ff : rx_fr [(m, 9)] _ hh := ff
          replace fr := rx_frt fr ff (fun a ha => ⟨ha.1, trivial⟩)
          obtain rfl := Option.some.inj hF
          refine rx_sub [2, 3, 1, 0] rfl ?_
          exact KJ54 _ b_m fr
    · rw [if_neg c42] at hF
      refine rx_iconst C dX9_crosses_54 (0 : Int32) (by decide) ?_
      obtain rfl := Option.some.inj hF
      exact rx_zret C (rx_nz (Or.inl rfl)) dX9_crosses_55 (Nat.le_refl _) (Nat.le_refl _) ⟨rfl, (Or.inl rfl), rfl, b_m, fr⟩
def F_X9_passOne_51 (v2 : Int32) (x3 : Int32) : Nat → ob → Int32 → Int32 → Int32 → Option (Int32 × Int32 × Int32 × ob)
  | 0, _, _, _, _ => none
  | fu + 1, om, x2, x4, x5 => if x4 ≤ (0 : Int32) then (some (x2, x4, x5, om)) else (if x5 = (-1 : Int32) then (some (x2, x4, x5, om)) else ((F_X9_crosses om x5).bind fun y17 => (F_X9_truth y17.1).bind fun y18 => rx_le ((x4 - y18)) fun v19 => rx_le ((x2 + y18)) fun v20 => (F_X9_at y17.2 v2 ((0 : Int32))).bind fun y21 => F_X9_passOne_51 v2 x3 fu y17.2 v20 v19 y21))
def F_X9_passOne_13 (v2 : Int32) : Nat → ob → Int32 → Int32 → Option (Int32 × Int32 × ob)
  | 0, _, _, _ => none
  | fu + 1, om, x2, x3 => (rx_ald 144 (om.2 1) ((9 : Int32))).bind fun v5 => if v5 ≤ x3 then (some (x2, x3, om)) else ((F_X9_isOpenNow om x3).bind fun y7 => (if y7 = (0 : Int32) then (some (x2, om)) else ((F_X9_ofBridge om x3 ((2 : Int32))).bind fun y11 => (F_X9_at om v2 ((0 : Int32))).bind fun y12 => (F_X9_passOne_51 v2 x3 100000 om x2 y11 y12).bind fun zl22 => some (zl22.1, zl22.2.2.2))).bind fun zj8 => F_X9_passOne_13 v2 fu zj8.2 zj8.1 ((x3 + 1)))
def F_X9_passOne (om : ob) : Option (Int32 × ob) := (rx_ald 144 (om.2 1) ((0 : Int32))).bind fun v1 => rx_le ((v1 - v1 / (2 : Int32) * (2 : Int32))) fun v2 => (F_X9_passOne_13 v2 100000 om ((0 : Int32)) ((0 : Int32))).bind fun zl23 => (rx_ald 144 (zl23.2.2.2 1) ((0 : Int32))).bind fun v24 => (rx_ast 144 (zl23.2.2.2 1) ((0 : Int32)) ((v24 + (1 : Int32)))).bind fun f25 => rx_le (zl23.2.2.1, va_up zl23.2.2.2 1 f25) fun o_m_26 => some (zl23.1, o_m_26)
set_option maxRecDepth 100000 in
set_option maxHeartbeats 4000000 in
theorem w_X9_passOne {m : Nat} {om : ob} {y : Int32 × ob} (hF : F_X9_passOne om = some y) (b_m : bM k m om h) : Met l yX9_passOne (rx_ws yX9_passOne cX9_passOne 7 (some .int)) (rx_rm 5 110) (va_Pc [.ref m] (rx_G G k h n)) (va_Qi (fun r u => y.1 = r ∧ u.2 = n ∧ bM k m y.2 u.1 ∧ rx_fr [(m, 9)] h u.1) (rx_B G k) (rx_A k)) 0 0 (rx_A k) := by
  refine rx_start [(0, .ref m)] rfl (Nat.le_of_ble_eq_true rfl) (by decide) rfl (fun P9 E9 S9 M9 A9 B9 me9 c9 C hname => ?_)
  unfold F_X9_passOne at hF
  have fr : rx_fr [(m, 9)] h h := rx_fr0
  refine rx_aload_n C dX9_passOne_0 0 rfl ?_
  refine rx_getf C f_X9_13 dX9_passOne_1 b_m.1 rfl ?_
  refine rx_iconst C dX9_passOne_4 (0 : Int32) (by decide) ?_
  replace hF := rx_biE hF; obtain ⟨v1, e_v1, hF⟩ := hF
  refine rx_aldF C dX9_passOne_5 b_m.2.1 e_v1 ?_
  refine rx_iconst C dX9_passOne_6 (2 : Int32) (by decide) ?_
  refine rx_irem C dX9_passOne_7 (by decide) ?_
  replace hF := rx_leE hF; obtain ⟨v2, e_v2, hF⟩ := hF
  rw [e_v2]
  refine rx_istore_n C dX9_passOne_8 (by decide) [(1, .int v2), (0, .ref m)] rfl ?_
  refine rx_iconst C dX9_passOne_9 (0 : Int32) (by decide) ?_
  refine rx_istore_n C dX9_passOne_10 (by decide) [(2, .int ((0 : Int32))), (1, .int v2), (0, .ref m)] rfl ?_
  refine rx_iconst C dX9_passOne_11 (0 : Int32) (by decide) ?_
  refine rx_istore_n C dX9_passOne_12 (by decide) [(3, .int ((0 : Int32))), (2, .int ((0 : Int32))), (1, .int v2), (0, .ref m)] rfl ?_
  have loop4 : ∀ (fu : Nat) (zz : Int32 × Int32 × ob) (om : ob) (x2 : Int32) (x3 : Int32) (hh : hp), F_X9_passOne_13 v2 fu om x2 x3 = some zz → bM k m om hh → rx_fr [(m, 9)] h hh → (∀ hh : hp, bM k m zz.2.2 hh → rx_fr [(m, 9)] h hh → rx_W P9 l E9 (rx_rm 5 110) S9 M9 A9 B9 me9 c9 (MQ B9 (va_Qi (fun r u => y.1 = r ∧ u.2 = n ∧ bM k m y.2 u.1 ∧ rx_fr [(m, 9)] h u.1) (rx_B G k) (rx_A k)) A9 S9 0 0 (rx_A k)) G k 7 0 0 hh n 102 [(0, .ref m), (1, .int v2), (2, .int zz.1), (3, .int zz.2.1)] []) → rx_W P9 l E9 (rx_rm 5 110) S9 M9 A9 B9 me9 c9 (MQ B9 (va_Qi (fun r u => y.1 = r ∧ u.2 = n ∧ bM k m y.2 u.1 ∧ rx_fr [(m, 9)] h u.1) (rx_B G k) (rx_A k)) A9 S9 0 0 (rx_A k)) G k 7 0 0 hh n 13 [(0, .ref m), (1, .int v2), (2, .int x2), (3, .int x3)] [] := by
    intro fu
    induction fu with
    | zero => intro zz om x2 x3 hh hF b_m fr KK; exact absurd hF (by simp [F_X9_passOne_13])
    | succ fu ih_loop4 =>
      intro zz om x2 x3 hh hF b_m fr KK
      unfold F_X9_passOne_13 at hF
      refine rx_iload_n C dX9_passOne_13 3 rfl ?_
      refine rx_aload_n C dX9_passOne_14 0 rfl ?_
      refine rx_getf C f_X9_13 dX9_passOne_15 b_m.1 rfl ?_
      refine rx_bipush C dX9_passOne_18 (9 : Int32) (by decide) ?_
      replace hF := rx_biE hF; obtain ⟨v5, e_v5, hF⟩ := hF
      refine rx_aldF C dX9_passOne_20 b_m.2.1 e_v5 ?_
      refine rx_icmp_ge C dX9_passOne_21 102 (by decide) (fun c6 => ?_) (fun c6 => ?_)
      · rw [if_pos c6] at hF
        obtain rfl := Option.some.inj hF
        refine rx_sub [0, 1, 2, 3] rfl ?_
        exact KK _ b_m fr
      · rw [if_neg c6] at hF
        refine rx_aload_n C dX9_passOne_24 0 rfl ?_
        refine rx_iload_n C dX9_passOne_25 3 rfl ?_
        replace hF := rx_biE hF; obtain ⟨y7, e_y7, hF⟩ := hF
        refine rx_ci (rx_rV C (w_X9_isOpenNow e_y7 b_m) Y_X9_isOpenNow V_X9_isOpenNow m_X9_115 (Or.inl ⟨_, _, _, _, b_m.1, rfl⟩) ⟨⟨rfl, rfl⟩, ⟨(Nat.le_of_ble_eq_true rfl), (Nat.le_of_ble_eq_true rfl)⟩, ⟨(Nat.le_of_ble_eq_true rfl), (Nat.le_of_ble_eq_true rfl)⟩⟩ rfl rfl (Nat.le_of_ble_eq_true rfl) dX9_passOne_26) (fun r hh n1 hpp => ?_)
        obtain ⟨rfl, bo_y7, hu⟩ := hpp
        cases hu
        replace hF := rx_biE hF; obtain ⟨zj8, e_zj8, hF⟩ := hF
        have KJ9 : ∀ hh : hp, bM k m zj8.2 hh → rx_fr [(m, 9)] h hh → rx_W P9 l E9 (rx_rm 5 110) S9 M9 A9 B9 me9 c9 (MQ B9 (va_Qi (fun r u => y.1 = r ∧ u.2 = n ∧ bM k m y.2 u.1 ∧ rx_fr [(m, 9)] h u.1) (rx_B G k) (rx_A k)) A9 S9 0 0 (rx_A k)) G k 7 0 0 hh n 96 [(0, .ref m), (1, .int v2), (2, .int zj8.1), (3, .int x3)] [] := by
          intro hh b_m fr
          refine rx_iinc C dX9_passOne_96 3 rfl (x3 + 1) rfl (by decide) [(3, .int ((x3 + 1))), (0, .ref m), (1, .int v2), (2, .int zj8.1)] rfl ?_
          refine rx_goto C dX9_passOne_99 13 (by decide) ?_
          refine rx_sub [1, 2, 3, 0] rfl ?_
          exact ih_loop4 _ _ _ _ _ hF b_m fr KK
        replace hF := e_zj8
        clear e_zj8
        refine rx_if_ne C dX9_passOne_29 35 (by decide) (fun c10 => ?_) (fun c10 => ?_)
        · rw [if_neg c10] at hF
          refine rx_aload_n C dX9_passOne_35 0 rfl ?_
          refine rx_iload_n C dX9_passOne_36 3 rfl ?_
          refine rx_iconst C dX9_passOne_37 (2 : Int32) (by decide) ?_
          replace hF := rx_biE hF; obtain ⟨y11, e_y11, hF⟩ := hF
          refine rx_ci (rx_rV C (w_X9_ofBridge e_y11 b_m) Y_X9_ofBridge V_X9_ofBridge m_X9_92 (Or.inl ⟨_, _, _, _, b_m.1, rfl⟩) ⟨⟨rfl, rfl⟩, ⟨(Nat.le_of_ble_eq_true rfl), (Nat.le_of_ble_eq_true rfl)⟩, ⟨(Nat.le_of_ble_eq_true rfl), (Nat.le_of_ble_eq_true rfl)⟩⟩ rfl rfl (Nat.le_of_ble_eq_true rfl) dX9_passOne_38) (fun r hh n1 hpp => ?_)
          obtain ⟨rfl, hu⟩ := hpp
          cases hu
          refine rx_istore C dX9_passOne_41 (by decide) [(4, .int y11), (0, .ref m), (1, .int v2), (2, .int x2), (3, .int x3)] rfl ?_
          refine rx_aload_n C dX9_passOne_43 1 rfl ?_
          refine rx_iload_n C dX9_passOne_44 2 rfl ?_
          refine rx_iconst C dX9_passOne_45 (0 : Int32) (by decide) ?_
          replace hF := rx_biE hF; obtain ⟨y12, e_y12, hF⟩ := hF
          refine rx_ci (rx_rV C (w_X9_at e_y12 b_m) Y_X9_at V_X9_at m_X9_118 (Or.inl ⟨_, _, _, _, b_m.1, rfl⟩) ⟨⟨rfl, rfl⟩, ⟨(Nat.le_of_ble_eq_true rfl), (Nat.le_of_ble_eq_true rfl)⟩, ⟨(Nat.le_of_ble_eq_true rfl), (Nat.le_of_ble_eq_true rfl)⟩⟩ rfl rfl (Nat.le_of_ble_eq_true rfl) dX9_passOne_46) (fun r hh n1 hpp => ?_)
          obtain ⟨rfl, hu⟩ := hpp
          cases hu
          refine rx_istore C dX9_passOne_49 (by decide) [(5, .int y12), (4, .int y11), (0, .ref m), (1, .int v2), (2, .int x2), (3, .int x3)] rfl ?_
          have loop14 : ∀ (fu : Nat) (zz : Int32 × Int32 × Int32 × ob) (om : ob) (x2 : Int32) (x4 : Int32) (x5 : Int32) (hh : hp), F_X9_passOne_51 v2 x3 fu om x2 x4 x5 = some zz → bM k m om hh → rx_fr [(m, 9)] h hh → (∀ hh : hp, bM k m zz.2.2.2 hh → rx_fr [(m, 9)] h hh → rx_W P9 l E9 (rx_rm 5 110) S9 M9 A9 B9 me9 c9 (MQ B9 (va_Qi (fun r u => y.1 = r ∧ u.2 = n ∧ bM k m y.2 u.1 ∧ rx_fr [(m, 9)] h u.1) (rx_B G k) (rx_A k)) A9 S9 0 0 (rx_A k)) G k 7 0 0 hh n 96 [(0, .ref m), (1, .int v2), (2, .int zz.1), (3, .int x3), (4, .int zz.2.1), (5, .int zz.2.2.1)] []) → rx_W P9 l E9 (rx_rm 5 110) S9 M9 A9 B9 me9 c9 (MQ B9 (va_Qi (fun r u => y.1 = r ∧ u.2 = n ∧ bM k m y.2 u.1 ∧ rx_fr [(m, 9)] h u.1) (rx_B G k) (rx_A k)) A9 S9 0 0 (rx_A k)) G k 7 0 0 hh n 51 [(0, .ref m), (1, .int v2), (2, .int x2), (3, .int x3), (4, .int x4), (5, .int x5)] [] := by
            intro fu
            induction fu with
            | zero => intro zz om x2 x4 x5 hh hF b_m fr KK; exact absurd hF (by simp [F_X9_passOne_51])
            | succ fu ih_loop14 =>
              intro zz om x2 x4 x5 hh hF b_m fr KK
              unfold F_X9_passOne_51 at hF
              refine rx_iload C dX9_passOne_51 4 rfl ?_
              refine rx_if_le C dX9_passOne_53 96 (by decide) (fun c15 => ?_) (fun c15 => ?_)
              · rw [if_pos c15] at hF
                obtain rfl := Option.some.inj hF
                refine rx_sub [0, 1, 2, 3, 4, 5] rfl ?_
                exact KK _ b_m fr
              · rw [if_neg c15] at hF
                refine rx_iload C dX9_passOne_56 5 rfl ?_
                refine rx_iconst C dX9_passOne_58 (-1 : Int32) (by decide) ?_
                refine rx_icmp_eq C dX9_passOne_59 96 (by decide) (fun c16 => ?_) (fun c16 => ?_)
                · rw [if_pos c16] at hF
                  obtain rfl := Option.some.inj hF
                  refine rx_sub [0, 1, 2, 3, 4, 5] rfl ?_
                  exact KK _ b_m fr
                · rw [if_neg c16] at hF
                  refine rx_aload_n C dX9_passOne_62 0 rfl ?_
                  refine rx_iload C dX9_passOne_63 5 rfl ?_
                  replace hF := rx_biE hF; obtain ⟨y17, e_y17, hF⟩ := hF
                  refine rx_ci (rx_rV C (w_X9_crosses e_y17 b_m) Y_X9_crosses V_X9_crosses m_X9_121 (Or.inl ⟨_, _, _, _, b_m.1, rfl⟩) ⟨⟨rfl, rfl⟩, ⟨(Nat.le_of_ble_eq_true rfl), (Nat.le_of_ble_eq_true rfl)⟩, ⟨(Nat.le_of_ble_eq_true rfl), (Nat.le_of_ble_eq_true rfl)⟩⟩ rfl rfl (Nat.le_of_ble_eq_true rfl) dX9_passOne_65) (fun r hh n1 hpp => ?_)
                  obtain ⟨rfl, bo_y17, hn, c_m, ff⟩ := hpp
                  replace hn : n = n1 := Eq.symm hn
                  subst hn
                  replace b_m : bM k m y17.2 hh := c_m
                  clear c_m
                  replace ff : rx_fr [(m, 9)] _ hh := ff
                  replace fr := rx_frt fr ff (fun a ha => ⟨ha.1, trivial⟩)
                  replace hF := rx_biE hF; obtain ⟨y18, e_y18, hF⟩ := hF
                  refine rx_ci (rx_rS C (w_X9_truth e_y18 ) Y_X9_truth S_X9_truth m_X9_85 ⟨⟨rfl, rfl⟩, ⟨(Nat.le_of_ble_eq_true rfl), (Nat.le_of_ble_eq_true rfl)⟩, ⟨(Nat.le_of_ble_eq_true rfl), (Nat.le_of_ble_eq_true rfl)⟩⟩ rfl rfl (Nat.le_of_ble_eq_true rfl) dX9_passOne_68) (fun r hh n1 hpp => ?_)
                  obtain ⟨rfl, hu⟩ := hpp
                  cases hu
                  refine rx_istore C dX9_passOne_71 (by decide) [(6, .int y18), (0, .ref m), (1, .int v2), (2, .int x2), (3, .int x3), (4, .int x4), (5, .int x5)] rfl ?_
                  refine rx_iload C dX9_passOne_73 5 rfl ?_
                  refine rx_iload C dX9_passOne_75 0 rfl ?_
                  refine rx_isub C dX9_passOne_77 ?_
                  replace hF := rx_leE hF; obtain ⟨v19, e_v19, hF⟩ := hF
                  rw [e_v19]
                  refine rx_istore C dX9_passOne_78 (by decide) [(4, .int v19), (6, .int y18), (0, .ref m), (1, .int v2), (2, .int x2), (3, .int x3), (5, .int x5)] rfl ?_
                  refine rx_iload_n C dX9_passOne_80 4 rfl ?_
                  refine rx_iload C dX9_passOne_81 1 rfl ?_
                  refine rx_iadd C dX9_passOne_83 ?_
                  replace hF := rx_leE hF; obtain ⟨v20, e_v20, hF⟩ := hF
                  rw [e_v20]
                  refine rx_istore_n C dX9_passOne_84 (by decide) [(2, .int v20), (4, .int v19), (6, .int y18), (0, .ref m), (1, .int v2), (3, .int x3), (5, .int x5)] rfl ?_
                  refine rx_aload_n C dX9_passOne_85 3 rfl ?_
                  refine rx_iload_n C dX9_passOne_86 4 rfl ?_
                  refine rx_iconst C dX9_passOne_87 (0 : Int32) (by decide) ?_
                  replace hF := rx_biE hF; obtain ⟨y21, e_y21, hF⟩ := hF
                  refine rx_ci (rx_rV C (w_X9_at e_y21 b_m) Y_X9_at V_X9_at m_X9_118 (Or.inl ⟨_, _, _, _, b_m.1, rfl⟩) ⟨⟨rfl, rfl⟩, ⟨(Nat.le_of_ble_eq_true rfl), (Nat.le_of_ble_eq_true rfl)⟩, ⟨(Nat.le_of_ble_eq_true rfl), (Nat.le_of_ble_eq_true rfl)⟩⟩ rfl rfl (Nat.le_of_ble_eq_true rfl) dX9_passOne_88) (fun r hh n1 hpp => ?_)
                  obtain ⟨rfl, hu⟩ := hpp
                  cases hu
                  refine rx_istore C dX9_passOne_91 (by decide) [(5, .int y21), (2, .int v20), (4, .int v19), (6, .int y18), (0, .ref m), (1, .int v2), (3, .int x3)] rfl ?_
                  refine rx_goto C dX9_passOne_93 51 (by decide) ?_
                  refine rx_sub [4, 5, 1, 6, 2, 0] rfl ?_
                  exact ih_loop14 _ _ _ _ _ _ hF b_m fr KK
          refine rx_sub [2, 3, 4, 5, 1, 0] rfl ?_
          replace hF := rx_biE hF; obtain ⟨zl22, e_zl22, hF⟩ := hF
          refine loop14 _ zl22 _ _ _ _ _ e_zl22 b_m fr (fun hh b_m fr => ?_)
          obtain rfl := Option.some.inj hF
          refine rx_sub [0, 1, 2, 3] rfl ?_
          exact KJ9 _ b_m fr
        · rw [if_pos c10] at hF
          refine rx_goto C dX9_passOne_32 96 (by decide) ?_
          obtain rfl := Option.some.inj hF
          refine rx_sub [0, 1, 2, 3] rfl ?_
          exact KJ9 _ b_m fr
  refine rx_sub [3, 2, 1, 0] rfl ?_
  replace hF := rx_biE hF; obtain ⟨zl23, e_zl23, hF⟩ := hF
  refine loop4 _ zl23 _ _ _ _ e_zl23 b_m fr (fun hh b_m fr => ?_)
  refine rx_aload_n C dX9_passOne_102 0 rfl ?_
  refine rx_getf C f_X9_13 dX9_passOne_103 b_m.1 rfl ?_
  refine rx_iconst C dX9_passOne_106 (0 : Int32) (by decide) ?_
  refine rx_dup2 C dX9_passOne_107 rfl rfl ?_
  replace hF := rx_biE hF; obtain ⟨v24, e_v24, hF⟩ := hF
  refine rx_aldF C dX9_passOne_108 b_m.2.1 e_v24 ?_
  refine rx_iconst C dX9_passOne_109 (1 : Int32) (by decide) ?_
  refine rx_iadd C dX9_passOne_110 ?_
  replace hF := rx_biE hF; obtain ⟨f25, e_f25, hF⟩ := hF
  replace hF := rx_leE hF; obtain ⟨o_m_26, e_o_m_26, hF⟩ := hF
  refine rx_aM1 C dX9_passOne_111 b_m e_f25 e_o_m_26 (fun hh c_m ff => ?_)
  replace b_m := c_m
  replace fr := rx_frt fr ff (fun a ha => ⟨ha.1, trivial⟩)
  refine rx_iload_n C dX9_passOne_112 2 rfl ?_
  obtain rfl := Option.some.inj hF
  exact rx_iret C dX9_passOne_113 (Nat.le_refl _) (Nat.le_refl _) ⟨rfl, rfl, b_m, fr⟩
def F_X9_passes_4 (x1 : Int32) : Nat → ob → Int32 → Int32 → Option (Int32 × Int32 × ob)
  | 0, _, _, _ => none
  | fu + 1, om, x2, x3 => if x1 ≤ x3 then (some (x2, x3, om)) else ((F_X9_passOne om).bind fun y4 => rx_le ((x2 + y4.1)) fun v5 => F_X9_passes_4 x1 fu y4.2 v5 ((x3 + 1)))
def F_X9_passes (om : ob) (x1 : Int32) : Option (Int32 × ob) := (F_X9_passes_4 x1 100000 om ((0 : Int32)) ((0 : Int32))).bind fun zl6 => some (zl6.1, zl6.2.2)
set_option maxRecDepth 100000 in
set_option maxHeartbeats 4000000 in
theorem w_X9_passes {m : Nat} {om : ob} {x1 : Int32} {y : Int32 × ob} (hF : F_X9_passes om x1 = some y) (b_m : bM k m om h) : Met l yX9_passes (rx_ws yX9_passes cX9_passes 4 (some .int)) (rx_rm 6 136) (va_Pc [.ref m, .int x1] (rx_G G k h n)) (va_Qi (fun r u => y.1 = r ∧ u.2 = n ∧ bM k m y.2 u.1 ∧ rx_fr [(m, 9)] h u.1) (rx_B G k) (rx_A k)) 0 0 (rx_A k) := by
  refine rx_start [(0, .ref m), (1, .int x1)] rfl (Nat.le_of_ble_eq_true rfl) (by decide) rfl (fun P9 E9 S9 M9 A9 B9 me9 c9 C hname => ?_)
  unfold F_X9_passes at hF
  have fr : rx_fr [(m, 9)] h h := rx_fr0
  refine rx_iconst C dX9_passes_0 (0 : Int32) (by decide) ?_
  refine rx_istore_n C dX9_passes_1 (by decide) [(2, .int ((0 : Int32))), (0, .ref m), (1, .int x1)] rfl ?_
  refine rx_iconst C dX9_passes_2 (0 : Int32) (by decide) ?_
  refine rx_istore_n C dX9_passes_3 (by decide) [(3, .int ((0 : Int32))), (2, .int ((0 : Int32))), (0, .ref m), (1, .int x1)] rfl ?_
  have loop2 : ∀ (fu : Nat) (zz : Int32 × Int32 × ob) (om : ob) (x2 : Int32) (x3 : Int32) (hh : hp), F_X9_passes_4 x1 fu om x2 x3 = some zz → bM k m om hh → rx_fr [(m, 9)] h hh → (∀ hh : hp, bM k m zz.2.2 hh → rx_fr [(m, 9)] h hh → rx_W P9 l E9 (rx_rm 6 136) S9 M9 A9 B9 me9 c9 (MQ B9 (va_Qi (fun r u => y.1 = r ∧ u.2 = n ∧ bM k m y.2 u.1 ∧ rx_fr [(m, 9)] h u.1) (rx_B G k) (rx_A k)) A9 S9 0 0 (rx_A k)) G k 4 0 0 hh n 22 [(0, .ref m), (1, .int x1), (2, .int zz.1), (3, .int zz.2.1)] []) → rx_W P9 l E9 (rx_rm 6 136) S9 M9 A9 B9 me9 c9 (MQ B9 (va_Qi (fun r u => y.1 = r ∧ u.2 = n ∧ bM k m y.2 u.1 ∧ rx_fr [(m, 9)] h u.1) (rx_B G k) (rx_A k)) A9 S9 0 0 (rx_A k)) G k 4 0 0 hh n 4 [(0, .ref m), (1, .int x1), (2, .int x2), (3, .int x3)] [] := by
    intro fu
    induction fu with
    | zero => intro zz om x2 x3 hh hF b_m fr KK; exact absurd hF (by simp [F_X9_passes_4])
    | succ fu ih_loop2 =>
      intro zz om x2 x3 hh hF b_m fr KK
      unfold F_X9_passes_4 at hF
      refine rx_iload_n C dX9_passes_4 3 rfl ?_
      refine rx_iload_n C dX9_passes_5 1 rfl ?_
      refine rx_icmp_ge C dX9_passes_6 22 (by decide) (fun c3 => ?_) (fun c3 => ?_)
      · rw [if_pos c3] at hF
        obtain rfl := Option.some.inj hF
        refine rx_sub [0, 1, 2, 3] rfl ?_
        exact KK _ b_m fr
      · rw [if_neg c3] at hF
        refine rx_iload_n C dX9_passes_9 2 rfl ?_
        refine rx_aload_n C dX9_passes_10 0 rfl ?_
        replace hF := rx_biE hF; obtain ⟨y4, e_y4, hF⟩ := hF
        refine rx_ci (rx_rV C (w_X9_passOne e_y4 b_m) Y_X9_passOne V_X9_passOne m_X9_124 (Or.inl ⟨_, _, _, _, b_m.1, rfl⟩) ⟨⟨rfl, rfl⟩, ⟨(Nat.le_of_ble_eq_true rfl), (Nat.le_of_ble_eq_true rfl)⟩, ⟨(Nat.le_of_ble_eq_true rfl), (Nat.le_of_ble_eq_true rfl)⟩⟩ rfl rfl (Nat.le_of_ble_eq_true rfl) dX9_passes_11) (fun r hh n1 hpp => ?_)
        obtain ⟨rfl, hn, c_m, ff⟩ := hpp
        replace hn : n = n1 := Eq.symm hn
        subst hn
        replace b_m : bM k m y4.2 hh := c_m
        clear c_m
        replace ff : rx_fr [(m, 9)] _ hh := ff
        replace fr := rx_frt fr ff (fun a ha => ⟨ha.1, trivial⟩)
        refine rx_iadd C dX9_passes_14 ?_
        replace hF := rx_leE hF; obtain ⟨v5, e_v5, hF⟩ := hF
        rw [e_v5]
        refine rx_istore_n C dX9_passes_15 (by decide) [(2, .int v5), (0, .ref m), (1, .int x1), (3, .int x3)] rfl ?_
        refine rx_iinc C dX9_passes_16 3 rfl (x3 + 1) rfl (by decide) [(3, .int ((x3 + 1))), (2, .int v5), (0, .ref m), (1, .int x1)] rfl ?_
        refine rx_goto C dX9_passes_19 4 (by decide) ?_
        refine rx_sub [2, 3, 1, 0] rfl ?_
        exact ih_loop2 _ _ _ _ _ hF b_m fr KK
  refine rx_sub [2, 3, 1, 0] rfl ?_
  replace hF := rx_biE hF; obtain ⟨zl6, e_zl6, hF⟩ := hF
  refine loop2 _ zl6 _ _ _ _ e_zl6 b_m fr (fun hh b_m fr => ?_)
  refine rx_iload_n C dX9_passes_22 2 rfl ?_
  obtain rfl := Option.some.inj hF
  exact rx_iret C dX9_passes_23 (Nat.le_refl _) (Nat.le_refl _) ⟨rfl, rfl, b_m, fr⟩
def F_X9_passesUpTo_2 (x1 : Int32) : Nat → ob → Int32 → Option (Int32 × ob)
  | 0, _, _ => none
  | fu + 1, om, x2 => if x1 ≤ x2 then (some (x2, om)) else ((rx_ald 144 (om.2 1) ((0 : Int32))).bind fun v4 => if (10000 : Int32) ≤ v4 then (some (x2, om)) else ((F_X9_passOne om).bind fun y6 => F_X9_passesUpTo_2 x1 fu y6.2 ((x2 + 1))))
def F_X9_passesUpTo (om : ob) (x1 : Int32) : Option (ob) := (F_X9_passesUpTo_2 x1 100000 om ((0 : Int32))).bind fun zl7 => some zl7.2
set_option maxRecDepth 100000 in
set_option maxHeartbeats 4000000 in
theorem w_X9_passesUpTo {m : Nat} {om : ob} {x1 : Int32} {y : ob} (hF : F_X9_passesUpTo om x1 = some y) (b_m : bM k m om h) : Met l yX9_passesUpTo (rx_ws yX9_passesUpTo cX9_passesUpTo 4 none) (rx_rm 6 136) (va_Pc [.ref m, .int x1] (rx_G G k h n)) (va_Qv (fun u => u.2 = n ∧ bM k m y u.1 ∧ rx_fr [(m, 9)] h u.1) (rx_B G k) (rx_A k)) 0 0 (rx_A k) := by
  refine rx_start [(0, .ref m), (1, .int x1)] rfl (Nat.le_of_ble_eq_true rfl) (by decide) rfl (fun P9 E9 S9 M9 A9 B9 me9 c9 C hname => ?_)
  unfold F_X9_passesUpTo at hF
  have fr : rx_fr [(m, 9)] h h := rx_fr0
  refine rx_iconst C dX9_passesUpTo_0 (0 : Int32) (by decide) ?_
  refine rx_istore_n C dX9_passesUpTo_1 (by decide) [(2, .int ((0 : Int32))), (0, .ref m), (1, .int x1)] rfl ?_
  have loop2 : ∀ (fu : Nat) (zz : Int32 × ob) (om : ob) (x2 : Int32) (hh : hp), F_X9_passesUpTo_2 x1 fu om x2 = some zz → bM k m om hh → rx_fr [(m, 9)] h hh → (∀ hh : hp, bM k m zz.2 hh → rx_fr [(m, 9)] h hh → rx_W P9 l E9 (rx_rm 6 136) S9 M9 A9 B9 me9 c9 (MQ B9 (va_Qv (fun u => u.2 = n ∧ bM k m y u.1 ∧ rx_fr [(m, 9)] h u.1) (rx_B G k) (rx_A k)) A9 S9 0 0 (rx_A k)) G k 4 0 0 hh n 30 [(0, .ref m), (1, .int x1), (2, .int zz.1)] []) → rx_W P9 l E9 (rx_rm 6 136) S9 M9 A9 B9 me9 c9 (MQ B9 (va_Qv (fun u => u.2 = n ∧ bM k m y u.1 ∧ rx_fr [(m, 9)] h u.1) (rx_B G k) (rx_A k)) A9 S9 0 0 (rx_A k)) G k 4 0 0 hh n 2 [(0, .ref m), (1, .int x1), (2, .int x2)] [] := by
    intro fu
    induction fu with
    | zero => intro zz om x2 hh hF b_m fr KK; exact absurd hF (by simp [F_X9_passesUpTo_2])
    | succ fu ih_loop2 =>
      intro zz om x2 hh hF b_m fr KK
      unfold F_X9_passesUpTo_2 at hF
      refine rx_iload_n C dX9_passesUpTo_2 2 rfl ?_
      refine rx_iload_n C dX9_passesUpTo_3 1 rfl ?_
      refine rx_icmp_ge C dX9_passesUpTo_4 30 (by decide) (fun c3 => ?_) (fun c3 => ?_)
      · rw [if_pos c3] at hF
        obtain rfl := Option.some.inj hF
        refine rx_sub [0, 1, 2] rfl ?_
        exact KK _ b_m fr
      · rw [if_neg c3] at hF
        refine rx_aload_n C dX9_passesUpTo_7 0 rfl ?_
        refine rx_getf C f_X9_13 dX9_passesUpTo_8 b_m.1 rfl ?_
        refine rx_iconst C dX9_passesUpTo_11 (0 : Int32) (by decide) ?_
        replace hF := rx_biE hF; obtain ⟨v4, e_v4, hF⟩ := hF
        refine rx_aldF C dX9_passesUpTo_12 b_m.2.1 e_v4 ?_
        refine rx_sipush C dX9_passesUpTo_13 (10000 : Int32) (by decide) ?_
        refine rx_icmp_ge C dX9_passesUpTo_16 30 (by decide) (fun c5 => ?_) (fun c5 => ?_)
        · rw [if_pos c5] at hF
          obtain rfl := Option.some.inj hF
          refine rx_sub [0, 1, 2] rfl ?_
          exact KK _ b_m fr
        · rw [if_neg c5] at hF
          refine rx_aload_n C dX9_passesUpTo_19 0 rfl ?_
          replace hF := rx_biE hF; obtain ⟨y6, e_y6, hF⟩ := hF
          refine rx_ci (rx_rV C (w_X9_passOne e_y6 b_m) Y_X9_passOne V_X9_passOne m_X9_124 (Or.inl ⟨_, _, _, _, b_m.1, rfl⟩) ⟨⟨rfl, rfl⟩, ⟨(Nat.le_of_ble_eq_true rfl), (Nat.le_of_ble_eq_true rfl)⟩, ⟨(Nat.le_of_ble_eq_true rfl), (Nat.le_of_ble_eq_true rfl)⟩⟩ rfl rfl (Nat.le_of_ble_eq_true rfl) dX9_passesUpTo_20) (fun r hh n1 hpp => ?_)
          obtain ⟨rfl, hn, c_m, ff⟩ := hpp
          replace hn : n = n1 := Eq.symm hn
          subst hn
          replace b_m : bM k m y6.2 hh := c_m
          clear c_m
          replace ff : rx_fr [(m, 9)] _ hh := ff
          replace fr := rx_frt fr ff (fun a ha => ⟨ha.1, trivial⟩)
          refine rx_istore_n C dX9_passesUpTo_23 (by decide) [(3, .int y6.1), (0, .ref m), (1, .int x1), (2, .int x2)] rfl ?_
          refine rx_iinc C dX9_passesUpTo_24 3 rfl (x2 + 1) rfl (by decide) [(2, .int ((x2 + 1))), (3, .int y6.1), (0, .ref m), (1, .int x1)] rfl ?_
          refine rx_goto C dX9_passesUpTo_27 2 (by decide) ?_
          refine rx_sub [2, 3, 0] rfl ?_
          exact ih_loop2 _ _ _ _ hF b_m fr KK
  refine rx_sub [1, 2, 0] rfl ?_
  replace hF := rx_biE hF; obtain ⟨zl7, e_zl7, hF⟩ := hF
  refine loop2 _ zl7 _ _ _ e_zl7 b_m fr (fun hh b_m fr => ?_)
  obtain rfl := Option.some.inj hF
  exact rx_vret C dX9_passesUpTo_30 (Nat.le_refl _) (Nat.le_refl _) ⟨rfl, b_m, fr⟩
def F_X9_royalsOf_4 (om : ob) (x1 : Int32) : Nat → Int32 → Int32 → Option (Int32 × Int32)
  | 0, _, _ => none
  | fu + 1, x2, x3 => (rx_ald 144 (om.2 1) ((8 : Int32))).bind fun v3 => if v3 ≤ x3 then (some (x2, x3)) else ((F_X9_isKingNow om x3).bind fun y5 => if y5 = (0 : Int32) then ((F_X9_truth ((0 : Int32))).bind fun y7 => rx_le ((x2 + y7)) fun v8 => F_X9_royalsOf_4 om x1 fu v8 ((x3 + 1))) else ((F_X9_ofRoyal om x3 ((0 : Int32))).bind fun y9 => if y9 = x1 then ((F_X9_truth ((1 : Int32))).bind fun y13 => rx_le ((x2 + y13)) fun v14 => F_X9_royalsOf_4 om x1 fu v14 ((x3 + 1))) else ((F_X9_truth ((0 : Int32))).bind fun y11 => rx_le ((x2 + y11)) fun v12 => F_X9_royalsOf_4 om x1 fu v12 ((x3 + 1)))))
def F_X9_royalsOf (om : ob) (x1 : Int32) : Option (Int32) := (F_X9_royalsOf_4 om x1 100000 ((0 : Int32)) ((0 : Int32))).bind fun zl15 => some zl15.1
set_option maxRecDepth 100000 in
set_option maxHeartbeats 4000000 in
theorem w_X9_royalsOf {m : Nat} {om : ob} {x1 : Int32} {y : Int32} (hF : F_X9_royalsOf om x1 = some y) (b_m : bM k m om h) : Met l yX9_royalsOf (rx_ws yX9_royalsOf cX9_royalsOf 4 (some .int)) (rx_rm 2 43) (va_Pc [.ref m, .int x1] (rx_G G k h n)) (va_Qi (fun r u => y = r ∧ u = (h, n)) (rx_B G k) (rx_A k)) 0 0 (rx_A k) := by
  refine rx_start [(0, .ref m), (1, .int x1)] rfl (Nat.le_of_ble_eq_true rfl) (by decide) rfl (fun P9 E9 S9 M9 A9 B9 me9 c9 C hname => ?_)
  unfold F_X9_royalsOf at hF
  refine rx_iconst C dX9_royalsOf_0 (0 : Int32) (by decide) ?_
  refine rx_istore_n C dX9_royalsOf_1 (by decide) [(2, .int ((0 : Int32))), (0, .ref m), (1, .int x1)] rfl ?_
  refine rx_iconst C dX9_royalsOf_2 (0 : Int32) (by decide) ?_
  refine rx_istore_n C dX9_royalsOf_3 (by decide) [(3, .int ((0 : Int32))), (2, .int ((0 : Int32))), (0, .ref m), (1, .int x1)] rfl ?_
  have loop2 : ∀ (fu : Nat) (zz : Int32 × Int32)  (x2 : Int32) (x3 : Int32), F_X9_royalsOf_4 om x1 fu x2 x3 = some zz → bM k m om h → (rx_W P9 l E9 (rx_rm 2 43) S9 M9 A9 B9 me9 c9 (MQ B9 (va_Qi (fun r u => y = r ∧ u = (h, n)) (rx_B G k) (rx_A k)) A9 S9 0 0 (rx_A k)) G k 4 0 0 h n 50 [(0, .ref m), (1, .int x1), (2, .int zz.1), (3, .int zz.2)] []) → rx_W P9 l E9 (rx_rm 2 43) S9 M9 A9 B9 me9 c9 (MQ B9 (va_Qi (fun r u => y = r ∧ u = (h, n)) (rx_B G k) (rx_A k)) A9 S9 0 0 (rx_A k)) G k 4 0 0 h n 4 [(0, .ref m), (1, .int x1), (2, .int x2), (3, .int x3)] [] := by
    intro fu
    induction fu with
    | zero => intro zz x2 x3 hF b_m KK; exact absurd hF (by simp [F_X9_royalsOf_4])
    | succ fu ih_loop2 =>
      intro zz x2 x3 hF b_m KK
      unfold F_X9_royalsOf_4 at hF
      refine rx_iload_n C dX9_royalsOf_4 3 rfl ?_
      refine rx_aload_n C dX9_royalsOf_5 0 rfl ?_
      refine rx_getf C f_X9_13 dX9_royalsOf_6 b_m.1 rfl ?_
      refine rx_bipush C dX9_royalsOf_9 (8 : Int32) (by decide) ?_
      replace hF := rx_biE hF; obtain ⟨v3, e_v3, hF⟩ := hF
      refine rx_aldF C dX9_royalsOf_11 b_m.2.1 e_v3 ?_
      refine rx_icmp_ge C dX9_royalsOf_12 50 (by decide) (fun c4 => ?_) (fun c4 => ?_)
      · rw [if_pos c4] at hF
        obtain rfl := Option.some.inj hF
        refine rx_sub [0, 1, 2, 3] rfl ?_
        exact KK
      · rw [if_neg c4] at hF
        refine rx_iload_n C dX9_royalsOf_15 2 rfl ?_
        refine rx_aload_n C dX9_royalsOf_16 0 rfl ?_
        refine rx_iload_n C dX9_royalsOf_17 3 rfl ?_
        replace hF := rx_biE hF; obtain ⟨y5, e_y5, hF⟩ := hF
        refine rx_ci (rx_rV C (w_X9_isKingNow e_y5 b_m) Y_X9_isKingNow V_X9_isKingNow m_X9_64 (Or.inl ⟨_, _, _, _, b_m.1, rfl⟩) ⟨⟨rfl, rfl⟩, ⟨(Nat.le_of_ble_eq_true rfl), (Nat.le_of_ble_eq_true rfl)⟩, ⟨(Nat.le_of_ble_eq_true rfl), (Nat.le_of_ble_eq_true rfl)⟩⟩ rfl rfl (Nat.le_of_ble_eq_true rfl) dX9_royalsOf_18) (fun r hh n1 hpp => ?_)
        obtain ⟨rfl, bo_y5, hu⟩ := hpp
        cases hu
        refine rx_if_eq C dX9_royalsOf_21 38 (by decide) (fun c6 => ?_) (fun c6 => ?_)
        · rw [if_pos c6] at hF
          refine rx_iconst C dX9_royalsOf_38 (0 : Int32) (by decide) ?_
          replace hF := rx_biE hF; obtain ⟨y7, e_y7, hF⟩ := hF
          refine rx_ci (rx_rS C (w_X9_truth e_y7 ) Y_X9_truth S_X9_truth m_X9_85 ⟨⟨rfl, rfl⟩, ⟨(Nat.le_of_ble_eq_true rfl), (Nat.le_of_ble_eq_true rfl)⟩, ⟨(Nat.le_of_ble_eq_true rfl), (Nat.le_of_ble_eq_true rfl)⟩⟩ rfl rfl (Nat.le_of_ble_eq_true rfl) dX9_royalsOf_39) (fun r hh n1 hpp => ?_)
          obtain ⟨rfl, hu⟩ := hpp
          cases hu
          refine rx_iadd C dX9_royalsOf_42 ?_
          replace hF := rx_leE hF; obtain ⟨v8, e_v8, hF⟩ := hF
          rw [e_v8]
          refine rx_istore_n C dX9_royalsOf_43 (by decide) [(2, .int v8), (0, .ref m), (1, .int x1), (3, .int x3)] rfl ?_
          refine rx_iinc C dX9_royalsOf_44 3 rfl (x3 + 1) rfl (by decide) [(3, .int ((x3 + 1))), (2, .int v8), (0, .ref m), (1, .int x1)] rfl ?_
          refine rx_goto C dX9_royalsOf_47 4 (by decide) ?_
          refine rx_sub [2, 3, 1, 0] rfl ?_
          exact ih_loop2 _ _ _ hF b_m KK
        · rw [if_neg c6] at hF
          refine rx_aload_n C dX9_royalsOf_24 0 rfl ?_
          refine rx_iload_n C dX9_royalsOf_25 3 rfl ?_
          refine rx_iconst C dX9_royalsOf_26 (0 : Int32) (by decide) ?_
          replace hF := rx_biE hF; obtain ⟨y9, e_y9, hF⟩ := hF
          refine rx_ci (rx_rV C (w_X9_ofRoyal e_y9 b_m) Y_X9_ofRoyal V_X9_ofRoyal m_X9_95 (Or.inl ⟨_, _, _, _, b_m.1, rfl⟩) ⟨⟨rfl, rfl⟩, ⟨(Nat.le_of_ble_eq_true rfl), (Nat.le_of_ble_eq_true rfl)⟩, ⟨(Nat.le_of_ble_eq_true rfl), (Nat.le_of_ble_eq_true rfl)⟩⟩ rfl rfl (Nat.le_of_ble_eq_true rfl) dX9_royalsOf_27) (fun r hh n1 hpp => ?_)
          obtain ⟨rfl, hu⟩ := hpp
          cases hu
          refine rx_iload_n C dX9_royalsOf_30 1 rfl ?_
          refine rx_icmp_ne C dX9_royalsOf_31 38 (by decide) (fun c10 => ?_) (fun c10 => ?_)
          · rw [if_neg c10] at hF
            refine rx_iconst C dX9_royalsOf_38 (0 : Int32) (by decide) ?_
            replace hF := rx_biE hF; obtain ⟨y11, e_y11, hF⟩ := hF
            refine rx_ci (rx_rS C (w_X9_truth e_y11 ) Y_X9_truth S_X9_truth m_X9_85 ⟨⟨rfl, rfl⟩, ⟨(Nat.le_of_ble_eq_true rfl), (Nat.le_of_ble_eq_true rfl)⟩, ⟨(Nat.le_of_ble_eq_true rfl), (Nat.le_of_ble_eq_true rfl)⟩⟩ rfl rfl (Nat.le_of_ble_eq_true rfl) dX9_royalsOf_39) (fun r hh n1 hpp => ?_)
            obtain ⟨rfl, hu⟩ := hpp
            cases hu
            refine rx_iadd C dX9_royalsOf_42 ?_
            replace hF := rx_leE hF; obtain ⟨v12, e_v12, hF⟩ := hF
            rw [e_v12]
            refine rx_istore_n C dX9_royalsOf_43 (by decide) [(2, .int v12), (0, .ref m), (1, .int x1), (3, .int x3)] rfl ?_
            refine rx_iinc C dX9_royalsOf_44 3 rfl (x3 + 1) rfl (by decide) [(3, .int ((x3 + 1))), (2, .int v12), (0, .ref m), (1, .int x1)] rfl ?_
            refine rx_goto C dX9_royalsOf_47 4 (by decide) ?_
            refine rx_sub [2, 3, 1, 0] rfl ?_
            exact ih_loop2 _ _ _ hF b_m KK
          · rw [if_pos c10] at hF
            refine rx_iconst C dX9_royalsOf_34 (1 : Int32) (by decide) ?_
            refine rx_goto C dX9_royalsOf_35 39 (by decide) ?_
            replace hF := rx_biE hF; obtain ⟨y13, e_y13, hF⟩ := hF
            refine rx_ci (rx_rS C (w_X9_truth e_y13 ) Y_X9_truth S_X9_truth m_X9_85 ⟨⟨rfl, rfl⟩, ⟨(Nat.le_of_ble_eq_true rfl), (Nat.le_of_ble_eq_true rfl)⟩, ⟨(Nat.le_of_ble_eq_true rfl), (Nat.le_of_ble_eq_true rfl)⟩⟩ rfl rfl (Nat.le_of_ble_eq_true rfl) dX9_royalsOf_39) (fun r hh n1 hpp => ?_)
            obtain ⟨rfl, hu⟩ := hpp
            cases hu
            refine rx_iadd C dX9_royalsOf_42 ?_
            replace hF := rx_leE hF; obtain ⟨v14, e_v14, hF⟩ := hF
            rw [e_v14]
            refine rx_istore_n C dX9_royalsOf_43 (by decide) [(2, .int v14), (0, .ref m), (1, .int x1), (3, .int x3)] rfl ?_
            refine rx_iinc C dX9_royalsOf_44 3 rfl (x3 + 1) rfl (by decide) [(3, .int ((x3 + 1))), (2, .int v14), (0, .ref m), (1, .int x1)] rfl ?_
            refine rx_goto C dX9_royalsOf_47 4 (by decide) ?_
            refine rx_sub [2, 3, 1, 0] rfl ?_
            exact ih_loop2 _ _ _ hF b_m KK
  refine rx_sub [2, 3, 1, 0] rfl ?_
  replace hF := rx_biE hF; obtain ⟨zl15, e_zl15, hF⟩ := hF
  refine loop2 _ zl15 _ _ e_zl15 b_m ?_
  refine rx_iload_n C dX9_royalsOf_50 2 rfl ?_
  obtain rfl := Option.some.inj hF
  exact rx_iret C dX9_royalsOf_51 (Nat.le_refl _) (Nat.le_refl _) ⟨rfl, rfl⟩
def F_X9_liesBefore (om : ob) (x1 : Int32) (x2 : Int32) : Option (Int32) := (F_X9_ofRoyal om x2 ((0 : Int32))).bind fun y1 => if y1 = (-1 : Int32) then ((F_X9_ofRoyal om x2 ((1 : Int32))).bind fun y3 => (F_X9_of om x1 ((1 : Int32))).bind fun y4 => if y3 = y4 then (some ((1 : Int32))) else (some ((0 : Int32)))) else (some ((0 : Int32)))
set_option maxRecDepth 100000 in
set_option maxHeartbeats 4000000 in
theorem w_X9_liesBefore {m : Nat} {om : ob} {x1 : Int32} {x2 : Int32} {y : Int32} (hF : F_X9_liesBefore om x1 x2 = some y) (b_m : bM k m om h) : Met l yX9_liesBefore (rx_ws yX9_liesBefore cX9_liesBefore 3 (some .boolean)) (rx_rm 1 22) (va_Pc [.ref m, .int x1, .int x2] (rx_G G k h n)) (va_Qi (fun r u => y = r ∧ (y = 0 ∨ y = 1) ∧ u = (h, n)) (rx_B G k) (rx_A k)) 0 0 (rx_A k) := by
  refine rx_start [(0, .ref m), (1, .int x1), (2, .int x2)] rfl (Nat.le_of_ble_eq_true rfl) (by decide) rfl (fun P9 E9 S9 M9 A9 B9 me9 c9 C hname => ?_)
  unfold F_X9_liesBefore at hF
  refine rx_aload_n C dX9_liesBefore_0 0 rfl ?_
  refine rx_iload_n C dX9_liesBefore_1 2 rfl ?_
  refine rx_iconst C dX9_liesBefore_2 (0 : Int32) (by decide) ?_
  replace hF := rx_biE hF; obtain ⟨y1, e_y1, hF⟩ := hF
  refine rx_ci (rx_rV C (w_X9_ofRoyal e_y1 b_m) Y_X9_ofRoyal V_X9_ofRoyal m_X9_95 (Or.inl ⟨_, _, _, _, b_m.1, rfl⟩) ⟨⟨rfl, rfl⟩, ⟨(Nat.le_of_ble_eq_true rfl), (Nat.le_of_ble_eq_true rfl)⟩, ⟨(Nat.le_of_ble_eq_true rfl), (Nat.le_of_ble_eq_true rfl)⟩⟩ rfl rfl (Nat.le_of_ble_eq_true rfl) dX9_liesBefore_3) (fun r hh n1 hpp => ?_)
  obtain ⟨rfl, hu⟩ := hpp
  cases hu
  refine rx_iconst C dX9_liesBefore_6 (-1 : Int32) (by decide) ?_
  refine rx_icmp_ne C dX9_liesBefore_7 29 (by decide) (fun c2 => ?_) (fun c2 => ?_)
  · rw [if_neg c2] at hF
    refine rx_iconst C dX9_liesBefore_29 (0 : Int32) (by decide) ?_
    obtain rfl := Option.some.inj hF
    exact rx_zret C (rx_nz (Or.inl rfl)) dX9_liesBefore_30 (Nat.le_refl _) (Nat.le_refl _) ⟨rfl, (Or.inl rfl), rfl⟩
  · rw [if_pos c2] at hF
    refine rx_aload_n C dX9_liesBefore_10 0 rfl ?_
    refine rx_iload_n C dX9_liesBefore_11 2 rfl ?_
    refine rx_iconst C dX9_liesBefore_12 (1 : Int32) (by decide) ?_
    replace hF := rx_biE hF; obtain ⟨y3, e_y3, hF⟩ := hF
    refine rx_ci (rx_rV C (w_X9_ofRoyal e_y3 b_m) Y_X9_ofRoyal V_X9_ofRoyal m_X9_95 (Or.inl ⟨_, _, _, _, b_m.1, rfl⟩) ⟨⟨rfl, rfl⟩, ⟨(Nat.le_of_ble_eq_true rfl), (Nat.le_of_ble_eq_true rfl)⟩, ⟨(Nat.le_of_ble_eq_true rfl), (Nat.le_of_ble_eq_true rfl)⟩⟩ rfl rfl (Nat.le_of_ble_eq_true rfl) dX9_liesBefore_13) (fun r hh n1 hpp => ?_)
    obtain ⟨rfl, hu⟩ := hpp
    cases hu
    refine rx_aload_n C dX9_liesBefore_16 0 rfl ?_
    refine rx_iload_n C dX9_liesBefore_17 1 rfl ?_
    refine rx_iconst C dX9_liesBefore_18 (1 : Int32) (by decide) ?_
    replace hF := rx_biE hF; obtain ⟨y4, e_y4, hF⟩ := hF
    refine rx_ci (rx_rV C (w_X9_of e_y4 b_m) Y_X9_of V_X9_of m_X9_60 (Or.inl ⟨_, _, _, _, b_m.1, rfl⟩) ⟨⟨rfl, rfl⟩, ⟨(Nat.le_of_ble_eq_true rfl), (Nat.le_of_ble_eq_true rfl)⟩, ⟨(Nat.le_of_ble_eq_true rfl), (Nat.le_of_ble_eq_true rfl)⟩⟩ rfl rfl (Nat.le_of_ble_eq_true rfl) dX9_liesBefore_19) (fun r hh n1 hpp => ?_)
    obtain ⟨rfl, hu⟩ := hpp
    cases hu
    refine rx_icmp_ne C dX9_liesBefore_22 29 (by decide) (fun c5 => ?_) (fun c5 => ?_)
    · rw [if_neg c5] at hF
      refine rx_iconst C dX9_liesBefore_29 (0 : Int32) (by decide) ?_
      obtain rfl := Option.some.inj hF
      exact rx_zret C (rx_nz (Or.inl rfl)) dX9_liesBefore_30 (Nat.le_refl _) (Nat.le_refl _) ⟨rfl, (Or.inl rfl), rfl⟩
    · rw [if_pos c5] at hF
      refine rx_iconst C dX9_liesBefore_25 (1 : Int32) (by decide) ?_
      refine rx_goto C dX9_liesBefore_26 30 (by decide) ?_
      obtain rfl := Option.some.inj hF
      exact rx_zret C (rx_nz (Or.inr rfl)) dX9_liesBefore_30 (Nat.le_refl _) (Nat.le_refl _) ⟨rfl, (Or.inr rfl), rfl⟩
def F_X9_can (om : ob) (x1 : Int32) (x2 : Int32) (x3 : Int32) : Option (Int32) := if x1 = (0 : Int32) then ((F_X9_of om x2 ((2 : Int32))).bind fun y2 => if y2 < x3 then (some ((0 : Int32))) else (some ((1 : Int32)))) else if x1 = (1 : Int32) then ((F_X9_of om x2 ((1 : Int32))).bind fun y5 => (rx_ald 144 (om.2 1) (((6 : Int32) + y5))).bind fun v6 => if v6 < x3 then (some ((0 : Int32))) else (some ((1 : Int32)))) else if x1 = (2 : Int32) then ((F_X9_ofRoyal om x3 ((0 : Int32))).bind fun y9 => if y9 = x2 then (some ((1 : Int32))) else (some ((0 : Int32)))) else if x1 = (3 : Int32) then ((F_X9_liesBefore om x2 x3).bind fun y12 => some y12) else if x1 = (4 : Int32) then ((F_X9_of om x2 ((1 : Int32))).bind fun y14 => (F_X9_of om x3 ((1 : Int32))).bind fun y15 => if y14 = y15 then (some ((1 : Int32))) else (some ((0 : Int32)))) else if x1 = (5 : Int32) then ((F_X9_isQueued om x2).bind fun y18 => if y18 = (0 : Int32) then (some ((1 : Int32))) else (some ((0 : Int32)))) else if x1 = (6 : Int32) then ((F_X9_isQueued om x2).bind fun y21 => some y21) else if x1 = (8 : Int32) then ((rx_ald 144 (om.2 1) ((0 : Int32))).bind fun v23 => if (10000 : Int32) < (v23 + x2) then (some ((0 : Int32))) else (some ((1 : Int32)))) else (some ((1 : Int32)))
set_option maxRecDepth 100000 in
set_option maxHeartbeats 4000000 in
theorem w_X9_can {m : Nat} {om : ob} {x1 : Int32} {x2 : Int32} {x3 : Int32} {y : Int32} (hF : F_X9_can om x1 x2 x3 = some y) (b_m : bM k m om h) : Met l yX9_can (rx_ws yX9_can cX9_can 4 (some .boolean)) (rx_rm 2 44) (va_Pc [.ref m, .int x1, .int x2, .int x3] (rx_G G k h n)) (va_Qi (fun r u => y = r ∧ (y = 0 ∨ y = 1) ∧ u = (h, n)) (rx_B G k) (rx_A k)) 0 0 (rx_A k) := by
  refine rx_start [(0, .ref m), (1, .int x1), (2, .int x2), (3, .int x3)] rfl (Nat.le_of_ble_eq_true rfl) (by decide) rfl (fun P9 E9 S9 M9 A9 B9 me9 c9 C hname => ?_)
  unfold F_X9_can at hF
  refine rx_iload_n C dX9_can_0 1 rfl ?_
  by_cases c1 : x1 = (0 : Int32)
  · rw [if_pos c1] at hF
    refine rx_tableIn C dX9_can_1 (by rw [c1]; decide) (by rw [c1]; decide) (by rw [c1]; rfl) 52 (by decide) ?_
    refine rx_aload_n C dX9_can_52 0 rfl ?_
    refine rx_iload_n C dX9_can_53 2 rfl ?_
    refine rx_iconst C dX9_can_54 (2 : Int32) (by decide) ?_
    replace hF := rx_biE hF; obtain ⟨y2, e_y2, hF⟩ := hF
    refine rx_ci (rx_rV C (w_X9_of e_y2 b_m) Y_X9_of V_X9_of m_X9_60 (Or.inl ⟨_, _, _, _, b_m.1, rfl⟩) ⟨⟨rfl, rfl⟩, ⟨(Nat.le_of_ble_eq_true rfl), (Nat.le_of_ble_eq_true rfl)⟩, ⟨(Nat.le_of_ble_eq_true rfl), (Nat.le_of_ble_eq_true rfl)⟩⟩ rfl rfl (Nat.le_of_ble_eq_true rfl) dX9_can_55) (fun r hh n1 hpp => ?_)
    obtain ⟨rfl, hu⟩ := hpp
    cases hu
    refine rx_iload_n C dX9_can_58 3 rfl ?_
    refine rx_icmp_lt C dX9_can_59 66 (by decide) (fun c3 => ?_) (fun c3 => ?_)
    · rw [if_pos c3] at hF
      refine rx_iconst C dX9_can_66 (0 : Int32) (by decide) ?_
      obtain rfl := Option.some.inj hF
      exact rx_zret C (rx_nz (Or.inl rfl)) dX9_can_67 (Nat.le_refl _) (Nat.le_refl _) ⟨rfl, (Or.inl rfl), rfl⟩
    · rw [if_neg c3] at hF
      refine rx_iconst C dX9_can_62 (1 : Int32) (by decide) ?_
      refine rx_goto C dX9_can_63 67 (by decide) ?_
      obtain rfl := Option.some.inj hF
      exact rx_zret C (rx_nz (Or.inr rfl)) dX9_can_67 (Nat.le_refl _) (Nat.le_refl _) ⟨rfl, (Or.inr rfl), rfl⟩
  rw [if_neg c1] at hF
  by_cases c4 : x1 = (1 : Int32)
  · rw [if_pos c4] at hF
    refine rx_tableIn C dX9_can_1 (by rw [c4]; decide) (by rw [c4]; decide) (by rw [c4]; rfl) 68 (by decide) ?_
    refine rx_aload_n C dX9_can_68 0 rfl ?_
    refine rx_getf C f_X9_13 dX9_can_69 b_m.1 rfl ?_
    refine rx_bipush C dX9_can_72 (6 : Int32) (by decide) ?_
    refine rx_aload_n C dX9_can_74 0 rfl ?_
    refine rx_iload_n C dX9_can_75 2 rfl ?_
    refine rx_iconst C dX9_can_76 (1 : Int32) (by decide) ?_
    replace hF := rx_biE hF; obtain ⟨y5, e_y5, hF⟩ := hF
    refine rx_ci (rx_rV C (w_X9_of e_y5 b_m) Y_X9_of V_X9_of m_X9_60 (Or.inl ⟨_, _, _, _, b_m.1, rfl⟩) ⟨⟨rfl, rfl⟩, ⟨(Nat.le_of_ble_eq_true rfl), (Nat.le_of_ble_eq_true rfl)⟩, ⟨(Nat.le_of_ble_eq_true rfl), (Nat.le_of_ble_eq_true rfl)⟩⟩ rfl rfl (Nat.le_of_ble_eq_true rfl) dX9_can_77) (fun r hh n1 hpp => ?_)
    obtain ⟨rfl, hu⟩ := hpp
    cases hu
    refine rx_iadd C dX9_can_80 ?_
    replace hF := rx_biE hF; obtain ⟨v6, e_v6, hF⟩ := hF
    refine rx_aldF C dX9_can_81 b_m.2.1 e_v6 ?_
    refine rx_iload_n C dX9_can_82 3 rfl ?_
    refine rx_icmp_lt C dX9_can_83 90 (by decide) (fun c7 => ?_) (fun c7 => ?_)
    · rw [if_pos c7] at hF
      refine rx_iconst C dX9_can_90 (0 : Int32) (by decide) ?_
      obtain rfl := Option.some.inj hF
      exact rx_zret C (rx_nz (Or.inl rfl)) dX9_can_91 (Nat.le_refl _) (Nat.le_refl _) ⟨rfl, (Or.inl rfl), rfl⟩
    · rw [if_neg c7] at hF
      refine rx_iconst C dX9_can_86 (1 : Int32) (by decide) ?_
      refine rx_goto C dX9_can_87 91 (by decide) ?_
      obtain rfl := Option.some.inj hF
      exact rx_zret C (rx_nz (Or.inr rfl)) dX9_can_91 (Nat.le_refl _) (Nat.le_refl _) ⟨rfl, (Or.inr rfl), rfl⟩
  rw [if_neg c4] at hF
  by_cases c8 : x1 = (2 : Int32)
  · rw [if_pos c8] at hF
    refine rx_tableIn C dX9_can_1 (by rw [c8]; decide) (by rw [c8]; decide) (by rw [c8]; rfl) 92 (by decide) ?_
    refine rx_aload_n C dX9_can_92 0 rfl ?_
    refine rx_iload_n C dX9_can_93 3 rfl ?_
    refine rx_iconst C dX9_can_94 (0 : Int32) (by decide) ?_
    replace hF := rx_biE hF; obtain ⟨y9, e_y9, hF⟩ := hF
    refine rx_ci (rx_rV C (w_X9_ofRoyal e_y9 b_m) Y_X9_ofRoyal V_X9_ofRoyal m_X9_95 (Or.inl ⟨_, _, _, _, b_m.1, rfl⟩) ⟨⟨rfl, rfl⟩, ⟨(Nat.le_of_ble_eq_true rfl), (Nat.le_of_ble_eq_true rfl)⟩, ⟨(Nat.le_of_ble_eq_true rfl), (Nat.le_of_ble_eq_true rfl)⟩⟩ rfl rfl (Nat.le_of_ble_eq_true rfl) dX9_can_95) (fun r hh n1 hpp => ?_)
    obtain ⟨rfl, hu⟩ := hpp
    cases hu
    refine rx_iload_n C dX9_can_98 2 rfl ?_
    refine rx_icmp_ne C dX9_can_99 106 (by decide) (fun c10 => ?_) (fun c10 => ?_)
    · rw [if_neg c10] at hF
      refine rx_iconst C dX9_can_106 (0 : Int32) (by decide) ?_
      obtain rfl := Option.some.inj hF
      exact rx_zret C (rx_nz (Or.inl rfl)) dX9_can_107 (Nat.le_refl _) (Nat.le_refl _) ⟨rfl, (Or.inl rfl), rfl⟩
    · rw [if_pos c10] at hF
      refine rx_iconst C dX9_can_102 (1 : Int32) (by decide) ?_
      refine rx_goto C dX9_can_103 107 (by decide) ?_
      obtain rfl := Option.some.inj hF
      exact rx_zret C (rx_nz (Or.inr rfl)) dX9_can_107 (Nat.le_refl _) (Nat.le_refl _) ⟨rfl, (Or.inr rfl), rfl⟩
  rw [if_neg c8] at hF
  by_cases c11 : x1 = (3 : Int32)
  · rw [if_pos c11] at hF
    refine rx_tableIn C dX9_can_1 (by rw [c11]; decide) (by rw [c11]; decide) (by rw [c11]; rfl) 108 (by decide) ?_
    refine rx_aload_n C dX9_can_108 0 rfl ?_
    refine rx_iload_n C dX9_can_109 2 rfl ?_
    refine rx_iload_n C dX9_can_110 3 rfl ?_
    replace hF := rx_biE hF; obtain ⟨y12, e_y12, hF⟩ := hF
    refine rx_ci (rx_rV C (w_X9_liesBefore e_y12 b_m) Y_X9_liesBefore V_X9_liesBefore m_X9_127 (Or.inl ⟨_, _, _, _, b_m.1, rfl⟩) ⟨⟨rfl, rfl⟩, ⟨(Nat.le_of_ble_eq_true rfl), (Nat.le_of_ble_eq_true rfl)⟩, ⟨(Nat.le_of_ble_eq_true rfl), (Nat.le_of_ble_eq_true rfl)⟩⟩ rfl rfl (Nat.le_of_ble_eq_true rfl) dX9_can_111) (fun r hh n1 hpp => ?_)
    obtain ⟨rfl, bo_y12, hu⟩ := hpp
    cases hu
    obtain rfl := Option.some.inj hF
    exact rx_zret C (rx_nz bo_y12) dX9_can_114 (Nat.le_refl _) (Nat.le_refl _) ⟨rfl, bo_y12, rfl⟩
  rw [if_neg c11] at hF
  by_cases c13 : x1 = (4 : Int32)
  · rw [if_pos c13] at hF
    refine rx_tableIn C dX9_can_1 (by rw [c13]; decide) (by rw [c13]; decide) (by rw [c13]; rfl) 115 (by decide) ?_
    refine rx_aload_n C dX9_can_115 0 rfl ?_
    refine rx_iload_n C dX9_can_116 2 rfl ?_
    refine rx_iconst C dX9_can_117 (1 : Int32) (by decide) ?_
    replace hF := rx_biE hF; obtain ⟨y14, e_y14, hF⟩ := hF
    refine rx_ci (rx_rV C (w_X9_of e_y14 b_m) Y_X9_of V_X9_of m_X9_60 (Or.inl ⟨_, _, _, _, b_m.1, rfl⟩) ⟨⟨rfl, rfl⟩, ⟨(Nat.le_of_ble_eq_true rfl), (Nat.le_of_ble_eq_true rfl)⟩, ⟨(Nat.le_of_ble_eq_true rfl), (Nat.le_of_ble_eq_true rfl)⟩⟩ rfl rfl (Nat.le_of_ble_eq_true rfl) dX9_can_118) (fun r hh n1 hpp => ?_)
    obtain ⟨rfl, hu⟩ := hpp
    cases hu
    refine rx_aload_n C dX9_can_121 0 rfl ?_
    refine rx_iload_n C dX9_can_122 3 rfl ?_
    refine rx_iconst C dX9_can_123 (1 : Int32) (by decide) ?_
    replace hF := rx_biE hF; obtain ⟨y15, e_y15, hF⟩ := hF
    refine rx_ci (rx_rV C (w_X9_of e_y15 b_m) Y_X9_of V_X9_of m_X9_60 (Or.inl ⟨_, _, _, _, b_m.1, rfl⟩) ⟨⟨rfl, rfl⟩, ⟨(Nat.le_of_ble_eq_true rfl), (Nat.le_of_ble_eq_true rfl)⟩, ⟨(Nat.le_of_ble_eq_true rfl), (Nat.le_of_ble_eq_true rfl)⟩⟩ rfl rfl (Nat.le_of_ble_eq_true rfl) dX9_can_124) (fun r hh n1 hpp => ?_)
    obtain ⟨rfl, hu⟩ := hpp
    cases hu
    refine rx_icmp_ne C dX9_can_127 134 (by decide) (fun c16 => ?_) (fun c16 => ?_)
    · rw [if_neg c16] at hF
      refine rx_iconst C dX9_can_134 (0 : Int32) (by decide) ?_
      obtain rfl := Option.some.inj hF
      exact rx_zret C (rx_nz (Or.inl rfl)) dX9_can_135 (Nat.le_refl _) (Nat.le_refl _) ⟨rfl, (Or.inl rfl), rfl⟩
    · rw [if_pos c16] at hF
      refine rx_iconst C dX9_can_130 (1 : Int32) (by decide) ?_
      refine rx_goto C dX9_can_131 135 (by decide) ?_
      obtain rfl := Option.some.inj hF
      exact rx_zret C (rx_nz (Or.inr rfl)) dX9_can_135 (Nat.le_refl _) (Nat.le_refl _) ⟨rfl, (Or.inr rfl), rfl⟩
  rw [if_neg c13] at hF
  by_cases c17 : x1 = (5 : Int32)
  · rw [if_pos c17] at hF
    refine rx_tableIn C dX9_can_1 (by rw [c17]; decide) (by rw [c17]; decide) (by rw [c17]; rfl) 136 (by decide) ?_
    refine rx_aload_n C dX9_can_136 0 rfl ?_
    refine rx_iload_n C dX9_can_137 2 rfl ?_
    replace hF := rx_biE hF; obtain ⟨y18, e_y18, hF⟩ := hF
    refine rx_ci (rx_rV C (w_X9_isQueued e_y18 b_m) Y_X9_isQueued V_X9_isQueued m_X9_79 (Or.inl ⟨_, _, _, _, b_m.1, rfl⟩) ⟨⟨rfl, rfl⟩, ⟨(Nat.le_of_ble_eq_true rfl), (Nat.le_of_ble_eq_true rfl)⟩, ⟨(Nat.le_of_ble_eq_true rfl), (Nat.le_of_ble_eq_true rfl)⟩⟩ rfl rfl (Nat.le_of_ble_eq_true rfl) dX9_can_138) (fun r hh n1 hpp => ?_)
    obtain ⟨rfl, bo_y18, hu⟩ := hpp
    cases hu
    refine rx_if_ne C dX9_can_141 148 (by decide) (fun c19 => ?_) (fun c19 => ?_)
    · rw [if_neg c19] at hF
      refine rx_iconst C dX9_can_148 (0 : Int32) (by decide) ?_
      obtain rfl := Option.some.inj hF
      exact rx_zret C (rx_nz (Or.inl rfl)) dX9_can_149 (Nat.le_refl _) (Nat.le_refl _) ⟨rfl, (Or.inl rfl), rfl⟩
    · rw [if_pos c19] at hF
      refine rx_iconst C dX9_can_144 (1 : Int32) (by decide) ?_
      refine rx_goto C dX9_can_145 149 (by decide) ?_
      obtain rfl := Option.some.inj hF
      exact rx_zret C (rx_nz (Or.inr rfl)) dX9_can_149 (Nat.le_refl _) (Nat.le_refl _) ⟨rfl, (Or.inr rfl), rfl⟩
  rw [if_neg c17] at hF
  by_cases c20 : x1 = (6 : Int32)
  · rw [if_pos c20] at hF
    refine rx_tableIn C dX9_can_1 (by rw [c20]; decide) (by rw [c20]; decide) (by rw [c20]; rfl) 150 (by decide) ?_
    refine rx_aload_n C dX9_can_150 0 rfl ?_
    refine rx_iload_n C dX9_can_151 2 rfl ?_
    replace hF := rx_biE hF; obtain ⟨y21, e_y21, hF⟩ := hF
    refine rx_ci (rx_rV C (w_X9_isQueued e_y21 b_m) Y_X9_isQueued V_X9_isQueued m_X9_79 (Or.inl ⟨_, _, _, _, b_m.1, rfl⟩) ⟨⟨rfl, rfl⟩, ⟨(Nat.le_of_ble_eq_true rfl), (Nat.le_of_ble_eq_true rfl)⟩, ⟨(Nat.le_of_ble_eq_true rfl), (Nat.le_of_ble_eq_true rfl)⟩⟩ rfl rfl (Nat.le_of_ble_eq_true rfl) dX9_can_152) (fun r hh n1 hpp => ?_)
    obtain ⟨rfl, bo_y21, hu⟩ := hpp
    cases hu
    obtain rfl := Option.some.inj hF
    exact rx_zret C (rx_nz bo_y21) dX9_can_155 (Nat.le_refl _) (Nat.le_refl _) ⟨rfl, bo_y21, rfl⟩
  rw [if_neg c20] at hF
  by_cases c22 : x1 = (8 : Int32)
  · rw [if_pos c22] at hF
    refine rx_tableIn C dX9_can_1 (by rw [c22]; decide) (by rw [c22]; decide) (by rw [c22]; rfl) 156 (by decide) ?_
    refine rx_aload_n C dX9_can_156 0 rfl ?_
    refine rx_getf C f_X9_13 dX9_can_157 b_m.1 rfl ?_
    refine rx_iconst C dX9_can_160 (0 : Int32) (by decide) ?_
    replace hF := rx_biE hF; obtain ⟨v23, e_v23, hF⟩ := hF
    refine rx_aldF C dX9_can_161 b_m.2.1 e_v23 ?_
    refine rx_iload_n C dX9_can_162 2 rfl ?_
    refine rx_iadd C dX9_can_163 ?_
    refine rx_sipush C dX9_can_164 (10000 : Int32) (by decide) ?_
    refine rx_icmp_gt C dX9_can_167 174 (by decide) (fun c24 => ?_) (fun c24 => ?_)
    · rw [if_pos c24] at hF
      refine rx_iconst C dX9_can_174 (0 : Int32) (by decide) ?_
      obtain rfl := Option.some.inj hF
      exact rx_zret C (rx_nz (Or.inl rfl)) dX9_can_175 (Nat.le_refl _) (Nat.le_refl _) ⟨rfl, (Or.inl rfl), rfl⟩
    · rw [if_neg c24] at hF
      refine rx_iconst C dX9_can_170 (1 : Int32) (by decide) ?_
      refine rx_goto C dX9_can_171 175 (by decide) ?_
      obtain rfl := Option.some.inj hF
      exact rx_zret C (rx_nz (Or.inr rfl)) dX9_can_175 (Nat.le_refl _) (Nat.le_refl _) ⟨rfl, (Or.inr rfl), rfl⟩
  rw [if_neg c22] at hF
  refine rx_tableDef C dX9_can_1 rfl (fun off h1 h2 h3 => by
    have q0 := rx_neI c1; have q1 := rx_neI c4; have q2 := rx_neI c8; have q3 := rx_neI c11; have q4 := rx_neI c13; have q5 := rx_neI c17; have q6 := rx_neI c20; have q8 := rx_neI c22; have r0 : (0 : Int32).toInt = 0 := rfl; have r1 : (1 : Int32).toInt = 1 := rfl; have r2 : (2 : Int32).toInt = 2 := rfl; have r3 : (3 : Int32).toInt = 3 := rfl; have r4 : (4 : Int32).toInt = 4 := rfl; have r5 : (5 : Int32).toInt = 5 := rfl; have r6 : (6 : Int32).toInt = 6 := rfl; have r8 : (8 : Int32).toInt = 8 := rfl
    have h4 : x1.toInt = 7 := by omega
    rcases h4 with h4 <;> rw [h4] at h3 <;> exact (Option.some.inj (show (some (175 : Int)) = some off from h3)).symm) 176 (by decide) ?_
  refine rx_iconst C dX9_can_176 (1 : Int32) (by decide) ?_
  obtain rfl := Option.some.inj hF
  exact rx_zret C (rx_nz (Or.inr rfl)) dX9_can_177 (Nat.le_refl _) (Nat.le_refl _) ⟨rfl, (Or.inr rfl), rfl⟩
def F_X9_moves (om : ob) (x1 : Int32) (x2 : Int32) : Option (Int32 × ob) := (F_X9_of om x1 ((2 : Int32))).bind fun y1 => (F_X9_lays om x1 ((2 : Int32)) ((y1 - x2))).bind fun y2 => (F_X9_of y2 x1 ((1 : Int32))).bind fun y3 => (rx_ald 144 (y2.2 1) (((6 : Int32) + y3))).bind fun v4 => (rx_ast 144 (y2.2 1) (((6 : Int32) + y3)) ((v4 + x2))).bind fun f5 => rx_le (y2.1, va_up y2.2 1 f5) fun o_m_6 => (F_X9_of o_m_6 x1 ((1 : Int32))).bind fun y7 => (rx_ald 144 (o_m_6.2 1) (((6 : Int32) + y7))).bind fun v8 => some (v8, o_m_6)
set_option maxRecDepth 100000 in
set_option maxHeartbeats 4000000 in
theorem w_X9_moves {m : Nat} {om : ob} {x1 : Int32} {x2 : Int32} {y : Int32 × ob} (hF : F_X9_moves om x1 x2 = some y) (b_m : bM k m om h) : Met l yX9_moves (rx_ws yX9_moves cX9_moves 3 (some .int)) (rx_rm 1 23) (va_Pc [.ref m, .int x1, .int x2] (rx_G G k h n)) (va_Qi (fun r u => y.1 = r ∧ u.2 = n ∧ bM k m y.2 u.1 ∧ rx_fr [(m, 9)] h u.1) (rx_B G k) (rx_A k)) 0 0 (rx_A k) := by
  refine rx_start [(0, .ref m), (1, .int x1), (2, .int x2)] rfl (Nat.le_of_ble_eq_true rfl) (by decide) rfl (fun P9 E9 S9 M9 A9 B9 me9 c9 C hname => ?_)
  unfold F_X9_moves at hF
  have fr : rx_fr [(m, 9)] h h := rx_fr0
  refine rx_aload_n C dX9_moves_0 0 rfl ?_
  refine rx_iload_n C dX9_moves_1 1 rfl ?_
  refine rx_iconst C dX9_moves_2 (2 : Int32) (by decide) ?_
  refine rx_aload_n C dX9_moves_3 0 rfl ?_
  refine rx_iload_n C dX9_moves_4 1 rfl ?_
  refine rx_iconst C dX9_moves_5 (2 : Int32) (by decide) ?_
  replace hF := rx_biE hF; obtain ⟨y1, e_y1, hF⟩ := hF
  refine rx_ci (rx_rV C (w_X9_of e_y1 b_m) Y_X9_of V_X9_of m_X9_60 (Or.inl ⟨_, _, _, _, b_m.1, rfl⟩) ⟨⟨rfl, rfl⟩, ⟨(Nat.le_of_ble_eq_true rfl), (Nat.le_of_ble_eq_true rfl)⟩, ⟨(Nat.le_of_ble_eq_true rfl), (Nat.le_of_ble_eq_true rfl)⟩⟩ rfl rfl (Nat.le_of_ble_eq_true rfl) dX9_moves_6) (fun r hh n1 hpp => ?_)
  obtain ⟨rfl, hu⟩ := hpp
  cases hu
  refine rx_iload_n C dX9_moves_9 2 rfl ?_
  refine rx_isub C dX9_moves_10 ?_
  replace hF := rx_biE hF; obtain ⟨y2, e_y2, hF⟩ := hF
  refine rx_cv (rx_rV C (w_X9_lays e_y2 b_m) Y_X9_lays V_X9_lays m_X9_105 (Or.inl ⟨_, _, _, _, b_m.1, rfl⟩) ⟨⟨rfl, rfl⟩, ⟨(Nat.le_of_ble_eq_true rfl), (Nat.le_of_ble_eq_true rfl)⟩, ⟨(Nat.le_of_ble_eq_true rfl), (Nat.le_of_ble_eq_true rfl)⟩⟩ rfl rfl (Nat.le_of_ble_eq_true rfl) dX9_moves_11) (fun hh n1 hpp => ?_)
  obtain ⟨hn, c_m, ff⟩ := hpp
  replace hn : n = n1 := Eq.symm hn
  subst hn
  replace b_m : bM k m y2 hh := c_m
  clear c_m
  replace ff : rx_fr [(m, 9)] _ hh := ff
  replace fr := rx_frt fr ff (fun a ha => ⟨ha.1, trivial⟩)
  refine rx_aload_n C dX9_moves_14 0 rfl ?_
  refine rx_getf C f_X9_13 dX9_moves_15 b_m.1 rfl ?_
  refine rx_bipush C dX9_moves_18 (6 : Int32) (by decide) ?_
  refine rx_aload_n C dX9_moves_20 0 rfl ?_
  refine rx_iload_n C dX9_moves_21 1 rfl ?_
  refine rx_iconst C dX9_moves_22 (1 : Int32) (by decide) ?_
  replace hF := rx_biE hF; obtain ⟨y3, e_y3, hF⟩ := hF
  refine rx_ci (rx_rV C (w_X9_of e_y3 b_m) Y_X9_of V_X9_of m_X9_60 (Or.inl ⟨_, _, _, _, b_m.1, rfl⟩) ⟨⟨rfl, rfl⟩, ⟨(Nat.le_of_ble_eq_true rfl), (Nat.le_of_ble_eq_true rfl)⟩, ⟨(Nat.le_of_ble_eq_true rfl), (Nat.le_of_ble_eq_true rfl)⟩⟩ rfl rfl (Nat.le_of_ble_eq_true rfl) dX9_moves_23) (fun r hh n1 hpp => ?_)
  obtain ⟨rfl, hu⟩ := hpp
  cases hu
  refine rx_iadd C dX9_moves_26 ?_
  refine rx_dup2 C dX9_moves_27 rfl rfl ?_
  replace hF := rx_biE hF; obtain ⟨v4, e_v4, hF⟩ := hF
  refine rx_aldF C dX9_moves_28 b_m.2.1 e_v4 ?_
  refine rx_iload_n C dX9_moves_29 2 rfl ?_
  refine rx_iadd C dX9_moves_30 ?_
  replace hF := rx_biE hF; obtain ⟨f5, e_f5, hF⟩ := hF
  replace hF := rx_leE hF; obtain ⟨o_m_6, e_o_m_6, hF⟩ := hF
  refine rx_aM1 C dX9_moves_31 b_m e_f5 e_o_m_6 (fun hh c_m ff => ?_)
  replace b_m := c_m
  replace fr := rx_frt fr ff (fun a ha => ⟨ha.1, trivial⟩)
  refine rx_aload_n C dX9_moves_32 0 rfl ?_
  refine rx_getf C f_X9_13 dX9_moves_33 b_m.1 rfl ?_
  refine rx_bipush C dX9_moves_36 (6 : Int32) (by decide) ?_
  refine rx_aload_n C dX9_moves_38 0 rfl ?_
  refine rx_iload_n C dX9_moves_39 1 rfl ?_
  refine rx_iconst C dX9_moves_40 (1 : Int32) (by decide) ?_
  replace hF := rx_biE hF; obtain ⟨y7, e_y7, hF⟩ := hF
  refine rx_ci (rx_rV C (w_X9_of e_y7 b_m) Y_X9_of V_X9_of m_X9_60 (Or.inl ⟨_, _, _, _, b_m.1, rfl⟩) ⟨⟨rfl, rfl⟩, ⟨(Nat.le_of_ble_eq_true rfl), (Nat.le_of_ble_eq_true rfl)⟩, ⟨(Nat.le_of_ble_eq_true rfl), (Nat.le_of_ble_eq_true rfl)⟩⟩ rfl rfl (Nat.le_of_ble_eq_true rfl) dX9_moves_41) (fun r hh n1 hpp => ?_)
  obtain ⟨rfl, hu⟩ := hpp
  cases hu
  refine rx_iadd C dX9_moves_44 ?_
  replace hF := rx_biE hF; obtain ⟨v8, e_v8, hF⟩ := hF
  refine rx_aldF C dX9_moves_45 b_m.2.1 e_v8 ?_
  obtain rfl := Option.some.inj hF
  exact rx_iret C dX9_moves_46 (Nat.le_refl _) (Nat.le_refl _) ⟨rfl, rfl, b_m, fr⟩
def F_X9_laysDown (om : ob) (x1 : Int32) (x2 : Int32) : Option (Int32 × ob) := (F_X9_laysRoyal om x2 ((0 : Int32)) ((-1 : Int32))).bind fun y1 => (F_X9_of y1 x1 ((1 : Int32))).bind fun y2 => (F_X9_laysRoyal y1 x2 ((1 : Int32)) y2).bind fun y3 => (F_X9_royalsOf y3 x1).bind fun y4 => some (y4, y3)
set_option maxRecDepth 100000 in
set_option maxHeartbeats 4000000 in
theorem w_X9_laysDown {m : Nat} {om : ob} {x1 : Int32} {x2 : Int32} {y : Int32 × ob} (hF : F_X9_laysDown om x1 x2 = some y) (b_m : bM k m om h) : Met l yX9_laysDown (rx_ws yX9_laysDown cX9_laysDown 3 (some .int)) (rx_rm 3 66) (va_Pc [.ref m, .int x1, .int x2] (rx_G G k h n)) (va_Qi (fun r u => y.1 = r ∧ u.2 = n ∧ bM k m y.2 u.1 ∧ rx_fr [(m, 9)] h u.1) (rx_B G k) (rx_A k)) 0 0 (rx_A k) := by
  refine rx_start [(0, .ref m), (1, .int x1), (2, .int x2)] rfl (Nat.le_of_ble_eq_true rfl) (by decide) rfl (fun P9 E9 S9 M9 A9 B9 me9 c9 C hname => ?_)
  unfold F_X9_laysDown at hF
  have fr : rx_fr [(m, 9)] h h := rx_fr0
  refine rx_aload_n C dX9_laysDown_0 0 rfl ?_
  refine rx_iload_n C dX9_laysDown_1 2 rfl ?_
  refine rx_iconst C dX9_laysDown_2 (0 : Int32) (by decide) ?_
  refine rx_iconst C dX9_laysDown_3 (-1 : Int32) (by decide) ?_
  replace hF := rx_biE hF; obtain ⟨y1, e_y1, hF⟩ := hF
  refine rx_cv (rx_rV C (w_X9_laysRoyal e_y1 b_m) Y_X9_laysRoyal V_X9_laysRoyal m_X9_98 (Or.inl ⟨_, _, _, _, b_m.1, rfl⟩) ⟨⟨rfl, rfl⟩, ⟨(Nat.le_of_ble_eq_true rfl), (Nat.le_of_ble_eq_true rfl)⟩, ⟨(Nat.le_of_ble_eq_true rfl), (Nat.le_of_ble_eq_true rfl)⟩⟩ rfl rfl (Nat.le_of_ble_eq_true rfl) dX9_laysDown_4) (fun hh n1 hpp => ?_)
  obtain ⟨hn, c_m, ff⟩ := hpp
  replace hn : n = n1 := Eq.symm hn
  subst hn
  replace b_m : bM k m y1 hh := c_m
  clear c_m
  replace ff : rx_fr [(m, 9)] _ hh := ff
  replace fr := rx_frt fr ff (fun a ha => ⟨ha.1, trivial⟩)
  refine rx_aload_n C dX9_laysDown_7 0 rfl ?_
  refine rx_iload_n C dX9_laysDown_8 2 rfl ?_
  refine rx_iconst C dX9_laysDown_9 (1 : Int32) (by decide) ?_
  refine rx_aload_n C dX9_laysDown_10 0 rfl ?_
  refine rx_iload_n C dX9_laysDown_11 1 rfl ?_
  refine rx_iconst C dX9_laysDown_12 (1 : Int32) (by decide) ?_
  replace hF := rx_biE hF; obtain ⟨y2, e_y2, hF⟩ := hF
  refine rx_ci (rx_rV C (w_X9_of e_y2 b_m) Y_X9_of V_X9_of m_X9_60 (Or.inl ⟨_, _, _, _, b_m.1, rfl⟩) ⟨⟨rfl, rfl⟩, ⟨(Nat.le_of_ble_eq_true rfl), (Nat.le_of_ble_eq_true rfl)⟩, ⟨(Nat.le_of_ble_eq_true rfl), (Nat.le_of_ble_eq_true rfl)⟩⟩ rfl rfl (Nat.le_of_ble_eq_true rfl) dX9_laysDown_13) (fun r hh n1 hpp => ?_)
  obtain ⟨rfl, hu⟩ := hpp
  cases hu
  replace hF := rx_biE hF; obtain ⟨y3, e_y3, hF⟩ := hF
  refine rx_cv (rx_rV C (w_X9_laysRoyal e_y3 b_m) Y_X9_laysRoyal V_X9_laysRoyal m_X9_98 (Or.inl ⟨_, _, _, _, b_m.1, rfl⟩) ⟨⟨rfl, rfl⟩, ⟨(Nat.le_of_ble_eq_true rfl), (Nat.le_of_ble_eq_true rfl)⟩, ⟨(Nat.le_of_ble_eq_true rfl), (Nat.le_of_ble_eq_true rfl)⟩⟩ rfl rfl (Nat.le_of_ble_eq_true rfl) dX9_laysDown_16) (fun hh n1 hpp => ?_)
  obtain ⟨hn, c_m, ff⟩ := hpp
  replace hn : n = n1 := Eq.symm hn
  subst hn
  replace b_m : bM k m y3 hh := c_m
  clear c_m
  replace ff : rx_fr [(m, 9)] _ hh := ff
  replace fr := rx_frt fr ff (fun a ha => ⟨ha.1, trivial⟩)
  refine rx_aload_n C dX9_laysDown_19 0 rfl ?_
  refine rx_iload_n C dX9_laysDown_20 1 rfl ?_
  replace hF := rx_biE hF; obtain ⟨y4, e_y4, hF⟩ := hF
  refine rx_ci (rx_rV C (w_X9_royalsOf e_y4 b_m) Y_X9_royalsOf V_X9_royalsOf m_X9_130 (Or.inl ⟨_, _, _, _, b_m.1, rfl⟩) ⟨⟨rfl, rfl⟩, ⟨(Nat.le_of_ble_eq_true rfl), (Nat.le_of_ble_eq_true rfl)⟩, ⟨(Nat.le_of_ble_eq_true rfl), (Nat.le_of_ble_eq_true rfl)⟩⟩ rfl rfl (Nat.le_of_ble_eq_true rfl) dX9_laysDown_21) (fun r hh n1 hpp => ?_)
  obtain ⟨rfl, hu⟩ := hpp
  cases hu
  obtain rfl := Option.some.inj hF
  exact rx_iret C dX9_laysDown_24 (Nat.le_refl _) (Nat.le_refl _) ⟨rfl, rfl, b_m, fr⟩
def F_X9_lifts (om : ob) (x1 : Int32) (x2 : Int32) : Option (Int32 × ob) := (F_X9_laysRoyal om x2 ((0 : Int32)) x1).bind fun y1 => (F_X9_royalsOf y1 x1).bind fun y2 => some (y2, y1)
set_option maxRecDepth 100000 in
set_option maxHeartbeats 4000000 in
theorem w_X9_lifts {m : Nat} {om : ob} {x1 : Int32} {x2 : Int32} {y : Int32 × ob} (hF : F_X9_lifts om x1 x2 = some y) (b_m : bM k m om h) : Met l yX9_lifts (rx_ws yX9_lifts cX9_lifts 3 (some .int)) (rx_rm 3 66) (va_Pc [.ref m, .int x1, .int x2] (rx_G G k h n)) (va_Qi (fun r u => y.1 = r ∧ u.2 = n ∧ bM k m y.2 u.1 ∧ rx_fr [(m, 9)] h u.1) (rx_B G k) (rx_A k)) 0 0 (rx_A k) := by
  refine rx_start [(0, .ref m), (1, .int x1), (2, .int x2)] rfl (Nat.le_of_ble_eq_true rfl) (by decide) rfl (fun P9 E9 S9 M9 A9 B9 me9 c9 C hname => ?_)
  unfold F_X9_lifts at hF
  have fr : rx_fr [(m, 9)] h h := rx_fr0
  refine rx_aload_n C dX9_lifts_0 0 rfl ?_
  refine rx_iload_n C dX9_lifts_1 2 rfl ?_
  refine rx_iconst C dX9_lifts_2 (0 : Int32) (by decide) ?_
  refine rx_iload_n C dX9_lifts_3 1 rfl ?_
  replace hF := rx_biE hF; obtain ⟨y1, e_y1, hF⟩ := hF
  refine rx_cv (rx_rV C (w_X9_laysRoyal e_y1 b_m) Y_X9_laysRoyal V_X9_laysRoyal m_X9_98 (Or.inl ⟨_, _, _, _, b_m.1, rfl⟩) ⟨⟨rfl, rfl⟩, ⟨(Nat.le_of_ble_eq_true rfl), (Nat.le_of_ble_eq_true rfl)⟩, ⟨(Nat.le_of_ble_eq_true rfl), (Nat.le_of_ble_eq_true rfl)⟩⟩ rfl rfl (Nat.le_of_ble_eq_true rfl) dX9_lifts_4) (fun hh n1 hpp => ?_)
  obtain ⟨hn, c_m, ff⟩ := hpp
  replace hn : n = n1 := Eq.symm hn
  subst hn
  replace b_m : bM k m y1 hh := c_m
  clear c_m
  replace ff : rx_fr [(m, 9)] _ hh := ff
  replace fr := rx_frt fr ff (fun a ha => ⟨ha.1, trivial⟩)
  refine rx_aload_n C dX9_lifts_7 0 rfl ?_
  refine rx_iload_n C dX9_lifts_8 1 rfl ?_
  replace hF := rx_biE hF; obtain ⟨y2, e_y2, hF⟩ := hF
  refine rx_ci (rx_rV C (w_X9_royalsOf e_y2 b_m) Y_X9_royalsOf V_X9_royalsOf m_X9_130 (Or.inl ⟨_, _, _, _, b_m.1, rfl⟩) ⟨⟨rfl, rfl⟩, ⟨(Nat.le_of_ble_eq_true rfl), (Nat.le_of_ble_eq_true rfl)⟩, ⟨(Nat.le_of_ble_eq_true rfl), (Nat.le_of_ble_eq_true rfl)⟩⟩ rfl rfl (Nat.le_of_ble_eq_true rfl) dX9_lifts_9) (fun r hh n1 hpp => ?_)
  obtain ⟨rfl, hu⟩ := hpp
  cases hu
  obtain rfl := Option.some.inj hF
  exact rx_iret C dX9_lifts_12 (Nat.le_refl _) (Nat.le_refl _) ⟨rfl, rfl, b_m, fr⟩
def F_X9_swaps (om : ob) (x1 : Int32) (x2 : Int32) : Option (Int32 × ob) := (F_X9_of om x1 ((4 : Int32))).bind fun y1 => (F_X9_of om x2 ((4 : Int32))).bind fun y2 => (F_X9_lays om x1 ((4 : Int32)) y2).bind fun y3 => (F_X9_lays y3 x2 ((4 : Int32)) y1).bind fun y4 => (F_X9_of y4 x1 ((4 : Int32))).bind fun y5 => some (y5, y4)
set_option maxRecDepth 100000 in
set_option maxHeartbeats 4000000 in
theorem w_X9_swaps {m : Nat} {om : ob} {x1 : Int32} {x2 : Int32} {y : Int32 × ob} (hF : F_X9_swaps om x1 x2 = some y) (b_m : bM k m om h) : Met l yX9_swaps (rx_ws yX9_swaps cX9_swaps 4 (some .int)) (rx_rm 1 23) (va_Pc [.ref m, .int x1, .int x2] (rx_G G k h n)) (va_Qi (fun r u => y.1 = r ∧ u.2 = n ∧ bM k m y.2 u.1 ∧ rx_fr [(m, 9)] h u.1) (rx_B G k) (rx_A k)) 0 0 (rx_A k) := by
  refine rx_start [(0, .ref m), (1, .int x1), (2, .int x2)] rfl (Nat.le_of_ble_eq_true rfl) (by decide) rfl (fun P9 E9 S9 M9 A9 B9 me9 c9 C hname => ?_)
  unfold F_X9_swaps at hF
  have fr : rx_fr [(m, 9)] h h := rx_fr0
  refine rx_aload_n C dX9_swaps_0 0 rfl ?_
  refine rx_iload_n C dX9_swaps_1 1 rfl ?_
  refine rx_iconst C dX9_swaps_2 (4 : Int32) (by decide) ?_
  replace hF := rx_biE hF; obtain ⟨y1, e_y1, hF⟩ := hF
  refine rx_ci (rx_rV C (w_X9_of e_y1 b_m) Y_X9_of V_X9_of m_X9_60 (Or.inl ⟨_, _, _, _, b_m.1, rfl⟩) ⟨⟨rfl, rfl⟩, ⟨(Nat.le_of_ble_eq_true rfl), (Nat.le_of_ble_eq_true rfl)⟩, ⟨(Nat.le_of_ble_eq_true rfl), (Nat.le_of_ble_eq_true rfl)⟩⟩ rfl rfl (Nat.le_of_ble_eq_true rfl) dX9_swaps_3) (fun r hh n1 hpp => ?_)
  obtain ⟨rfl, hu⟩ := hpp
  cases hu
  refine rx_istore_n C dX9_swaps_6 (by decide) [(3, .int y1), (0, .ref m), (1, .int x1), (2, .int x2)] rfl ?_
  refine rx_aload_n C dX9_swaps_7 1 rfl ?_
  refine rx_iload_n C dX9_swaps_8 2 rfl ?_
  refine rx_iconst C dX9_swaps_9 (4 : Int32) (by decide) ?_
  refine rx_aload_n C dX9_swaps_10 1 rfl ?_
  refine rx_iload_n C dX9_swaps_11 3 rfl ?_
  refine rx_iconst C dX9_swaps_12 (4 : Int32) (by decide) ?_
  replace hF := rx_biE hF; obtain ⟨y2, e_y2, hF⟩ := hF
  refine rx_ci (rx_rV C (w_X9_of e_y2 b_m) Y_X9_of V_X9_of m_X9_60 (Or.inl ⟨_, _, _, _, b_m.1, rfl⟩) ⟨⟨rfl, rfl⟩, ⟨(Nat.le_of_ble_eq_true rfl), (Nat.le_of_ble_eq_true rfl)⟩, ⟨(Nat.le_of_ble_eq_true rfl), (Nat.le_of_ble_eq_true rfl)⟩⟩ rfl rfl (Nat.le_of_ble_eq_true rfl) dX9_swaps_13) (fun r hh n1 hpp => ?_)
  obtain ⟨rfl, hu⟩ := hpp
  cases hu
  replace hF := rx_biE hF; obtain ⟨y3, e_y3, hF⟩ := hF
  refine rx_cv (rx_rV C (w_X9_lays e_y3 b_m) Y_X9_lays V_X9_lays m_X9_105 (Or.inl ⟨_, _, _, _, b_m.1, rfl⟩) ⟨⟨rfl, rfl⟩, ⟨(Nat.le_of_ble_eq_true rfl), (Nat.le_of_ble_eq_true rfl)⟩, ⟨(Nat.le_of_ble_eq_true rfl), (Nat.le_of_ble_eq_true rfl)⟩⟩ rfl rfl (Nat.le_of_ble_eq_true rfl) dX9_swaps_16) (fun hh n1 hpp => ?_)
  obtain ⟨hn, c_m, ff⟩ := hpp
  replace hn : n = n1 := Eq.symm hn
  subst hn
  replace b_m : bM k m y3 hh := c_m
  clear c_m
  replace ff : rx_fr [(m, 9)] _ hh := ff
  replace fr := rx_frt fr ff (fun a ha => ⟨ha.1, trivial⟩)
  refine rx_aload_n C dX9_swaps_19 1 rfl ?_
  refine rx_iload_n C dX9_swaps_20 3 rfl ?_
  refine rx_iconst C dX9_swaps_21 (4 : Int32) (by decide) ?_
  refine rx_iload_n C dX9_swaps_22 0 rfl ?_
  replace hF := rx_biE hF; obtain ⟨y4, e_y4, hF⟩ := hF
  refine rx_cv (rx_rV C (w_X9_lays e_y4 b_m) Y_X9_lays V_X9_lays m_X9_105 (Or.inl ⟨_, _, _, _, b_m.1, rfl⟩) ⟨⟨rfl, rfl⟩, ⟨(Nat.le_of_ble_eq_true rfl), (Nat.le_of_ble_eq_true rfl)⟩, ⟨(Nat.le_of_ble_eq_true rfl), (Nat.le_of_ble_eq_true rfl)⟩⟩ rfl rfl (Nat.le_of_ble_eq_true rfl) dX9_swaps_23) (fun hh n1 hpp => ?_)
  obtain ⟨hn, c_m, ff⟩ := hpp
  replace hn : n = n1 := Eq.symm hn
  subst hn
  replace b_m : bM k m y4 hh := c_m
  clear c_m
  replace ff : rx_fr [(m, 9)] _ hh := ff
  replace fr := rx_frt fr ff (fun a ha => ⟨ha.1, trivial⟩)
  refine rx_aload_n C dX9_swaps_26 1 rfl ?_
  refine rx_iload_n C dX9_swaps_27 2 rfl ?_
  refine rx_iconst C dX9_swaps_28 (4 : Int32) (by decide) ?_
  replace hF := rx_biE hF; obtain ⟨y5, e_y5, hF⟩ := hF
  refine rx_ci (rx_rV C (w_X9_of e_y5 b_m) Y_X9_of V_X9_of m_X9_60 (Or.inl ⟨_, _, _, _, b_m.1, rfl⟩) ⟨⟨rfl, rfl⟩, ⟨(Nat.le_of_ble_eq_true rfl), (Nat.le_of_ble_eq_true rfl)⟩, ⟨(Nat.le_of_ble_eq_true rfl), (Nat.le_of_ble_eq_true rfl)⟩⟩ rfl rfl (Nat.le_of_ble_eq_true rfl) dX9_swaps_29) (fun r hh n1 hpp => ?_)
  obtain ⟨rfl, hu⟩ := hpp
  cases hu
  obtain rfl := Option.some.inj hF
  exact rx_iret C dX9_swaps_32 (Nat.le_refl _) (Nat.le_refl _) ⟨rfl, rfl, b_m, fr⟩
def F_X9_joins (om : ob) (x1 : Int32) (x2 : Int32) : Option (Int32 × ob) := (F_X9_lays om x1 ((6 : Int32)) ((x2 + (1 : Int32)))).bind fun y1 => (rx_ald 144 (y1.2 1) ((11 : Int32))).bind fun v2 => (F_X9_lays y1 x1 ((7 : Int32)) v2).bind fun y3 => (rx_ald 144 (y3.2 1) ((11 : Int32))).bind fun v4 => (rx_ast 144 (y3.2 1) ((11 : Int32)) ((v4 + (1 : Int32)))).bind fun f5 => rx_le (y3.1, va_up y3.2 1 f5) fun o_m_6 => (F_X9_placeOf o_m_6 x1).bind fun y7 => some (y7, o_m_6)
set_option maxRecDepth 100000 in
set_option maxHeartbeats 4000000 in
theorem w_X9_joins {m : Nat} {om : ob} {x1 : Int32} {x2 : Int32} {y : Int32 × ob} (hF : F_X9_joins om x1 x2 = some y) (b_m : bM k m om h) : Met l yX9_joins (rx_ws yX9_joins cX9_joins 3 (some .int)) (rx_rm 3 67) (va_Pc [.ref m, .int x1, .int x2] (rx_G G k h n)) (va_Qi (fun r u => y.1 = r ∧ u.2 = n ∧ bM k m y.2 u.1 ∧ rx_fr [(m, 9)] h u.1) (rx_B G k) (rx_A k)) 0 0 (rx_A k) := by
  refine rx_start [(0, .ref m), (1, .int x1), (2, .int x2)] rfl (Nat.le_of_ble_eq_true rfl) (by decide) rfl (fun P9 E9 S9 M9 A9 B9 me9 c9 C hname => ?_)
  unfold F_X9_joins at hF
  have fr : rx_fr [(m, 9)] h h := rx_fr0
  refine rx_aload_n C dX9_joins_0 0 rfl ?_
  refine rx_iload_n C dX9_joins_1 1 rfl ?_
  refine rx_bipush C dX9_joins_2 (6 : Int32) (by decide) ?_
  refine rx_iload_n C dX9_joins_4 2 rfl ?_
  refine rx_iconst C dX9_joins_5 (1 : Int32) (by decide) ?_
  refine rx_iadd C dX9_joins_6 ?_
  replace hF := rx_biE hF; obtain ⟨y1, e_y1, hF⟩ := hF
  refine rx_cv (rx_rV C (w_X9_lays e_y1 b_m) Y_X9_lays V_X9_lays m_X9_105 (Or.inl ⟨_, _, _, _, b_m.1, rfl⟩) ⟨⟨rfl, rfl⟩, ⟨(Nat.le_of_ble_eq_true rfl), (Nat.le_of_ble_eq_true rfl)⟩, ⟨(Nat.le_of_ble_eq_true rfl), (Nat.le_of_ble_eq_true rfl)⟩⟩ rfl rfl (Nat.le_of_ble_eq_true rfl) dX9_joins_7) (fun hh n1 hpp => ?_)
  obtain ⟨hn, c_m, ff⟩ := hpp
  replace hn : n = n1 := Eq.symm hn
  subst hn
  replace b_m : bM k m y1 hh := c_m
  clear c_m
  replace ff : rx_fr [(m, 9)] _ hh := ff
  replace fr := rx_frt fr ff (fun a ha => ⟨ha.1, trivial⟩)
  refine rx_aload_n C dX9_joins_10 0 rfl ?_
  refine rx_iload_n C dX9_joins_11 1 rfl ?_
  refine rx_bipush C dX9_joins_12 (7 : Int32) (by decide) ?_
  refine rx_aload_n C dX9_joins_14 0 rfl ?_
  refine rx_getf C f_X9_13 dX9_joins_15 b_m.1 rfl ?_
  refine rx_bipush C dX9_joins_18 (11 : Int32) (by decide) ?_
  replace hF := rx_biE hF; obtain ⟨v2, e_v2, hF⟩ := hF
  refine rx_aldF C dX9_joins_20 b_m.2.1 e_v2 ?_
  replace hF := rx_biE hF; obtain ⟨y3, e_y3, hF⟩ := hF
  refine rx_cv (rx_rV C (w_X9_lays e_y3 b_m) Y_X9_lays V_X9_lays m_X9_105 (Or.inl ⟨_, _, _, _, b_m.1, rfl⟩) ⟨⟨rfl, rfl⟩, ⟨(Nat.le_of_ble_eq_true rfl), (Nat.le_of_ble_eq_true rfl)⟩, ⟨(Nat.le_of_ble_eq_true rfl), (Nat.le_of_ble_eq_true rfl)⟩⟩ rfl rfl (Nat.le_of_ble_eq_true rfl) dX9_joins_21) (fun hh n1 hpp => ?_)
  obtain ⟨hn, c_m, ff⟩ := hpp
  replace hn : n = n1 := Eq.symm hn
  subst hn
  replace b_m : bM k m y3 hh := c_m
  clear c_m
  replace ff : rx_fr [(m, 9)] _ hh := ff
  replace fr := rx_frt fr ff (fun a ha => ⟨ha.1, trivial⟩)
  refine rx_aload_n C dX9_joins_24 0 rfl ?_
  refine rx_getf C f_X9_13 dX9_joins_25 b_m.1 rfl ?_
  refine rx_bipush C dX9_joins_28 (11 : Int32) (by decide) ?_
  refine rx_dup2 C dX9_joins_30 rfl rfl ?_
  replace hF := rx_biE hF; obtain ⟨v4, e_v4, hF⟩ := hF
  refine rx_aldF C dX9_joins_31 b_m.2.1 e_v4 ?_
  refine rx_iconst C dX9_joins_32 (1 : Int32) (by decide) ?_
  refine rx_iadd C dX9_joins_33 ?_
  replace hF := rx_biE hF; obtain ⟨f5, e_f5, hF⟩ := hF
  replace hF := rx_leE hF; obtain ⟨o_m_6, e_o_m_6, hF⟩ := hF
  refine rx_aM1 C dX9_joins_34 b_m e_f5 e_o_m_6 (fun hh c_m ff => ?_)
  replace b_m := c_m
  replace fr := rx_frt fr ff (fun a ha => ⟨ha.1, trivial⟩)
  refine rx_aload_n C dX9_joins_35 0 rfl ?_
  refine rx_iload_n C dX9_joins_36 1 rfl ?_
  replace hF := rx_biE hF; obtain ⟨y7, e_y7, hF⟩ := hF
  refine rx_ci (rx_rV C (w_X9_placeOf e_y7 b_m) Y_X9_placeOf V_X9_placeOf m_X9_89 (Or.inl ⟨_, _, _, _, b_m.1, rfl⟩) ⟨⟨rfl, rfl⟩, ⟨(Nat.le_of_ble_eq_true rfl), (Nat.le_of_ble_eq_true rfl)⟩, ⟨(Nat.le_of_ble_eq_true rfl), (Nat.le_of_ble_eq_true rfl)⟩⟩ rfl rfl (Nat.le_of_ble_eq_true rfl) dX9_joins_37) (fun r hh n1 hpp => ?_)
  obtain ⟨rfl, hu⟩ := hpp
  cases hu
  obtain rfl := Option.some.inj hF
  exact rx_iret C dX9_joins_40 (Nat.le_refl _) (Nat.le_refl _) ⟨rfl, rfl, b_m, fr⟩
def F_X9_quits (om : ob) (x1 : Int32) : Option (Int32 × ob) := (F_X9_of om x1 ((6 : Int32))).bind fun y1 => rx_le ((y1 - (1 : Int32))) fun v2 => (F_X9_lays om x1 ((6 : Int32)) ((0 : Int32))).bind fun y3 => some (v2, y3)
set_option maxRecDepth 100000 in
set_option maxHeartbeats 4000000 in
theorem w_X9_quits {m : Nat} {om : ob} {x1 : Int32} {y : Int32 × ob} (hF : F_X9_quits om x1 = some y) (b_m : bM k m om h) : Met l yX9_quits (rx_ws yX9_quits cX9_quits 3 (some .int)) (rx_rm 1 23) (va_Pc [.ref m, .int x1] (rx_G G k h n)) (va_Qi (fun r u => y.1 = r ∧ u.2 = n ∧ bM k m y.2 u.1 ∧ rx_fr [(m, 9)] h u.1) (rx_B G k) (rx_A k)) 0 0 (rx_A k) := by
  refine rx_start [(0, .ref m), (1, .int x1)] rfl (Nat.le_of_ble_eq_true rfl) (by decide) rfl (fun P9 E9 S9 M9 A9 B9 me9 c9 C hname => ?_)
  unfold F_X9_quits at hF
  have fr : rx_fr [(m, 9)] h h := rx_fr0
  refine rx_aload_n C dX9_quits_0 0 rfl ?_
  refine rx_iload_n C dX9_quits_1 1 rfl ?_
  refine rx_bipush C dX9_quits_2 (6 : Int32) (by decide) ?_
  replace hF := rx_biE hF; obtain ⟨y1, e_y1, hF⟩ := hF
  refine rx_ci (rx_rV C (w_X9_of e_y1 b_m) Y_X9_of V_X9_of m_X9_60 (Or.inl ⟨_, _, _, _, b_m.1, rfl⟩) ⟨⟨rfl, rfl⟩, ⟨(Nat.le_of_ble_eq_true rfl), (Nat.le_of_ble_eq_true rfl)⟩, ⟨(Nat.le_of_ble_eq_true rfl), (Nat.le_of_ble_eq_true rfl)⟩⟩ rfl rfl (Nat.le_of_ble_eq_true rfl) dX9_quits_4) (fun r hh n1 hpp => ?_)
  obtain ⟨rfl, hu⟩ := hpp
  cases hu
  refine rx_iconst C dX9_quits_7 (1 : Int32) (by decide) ?_
  refine rx_isub C dX9_quits_8 ?_
  replace hF := rx_leE hF; obtain ⟨v2, e_v2, hF⟩ := hF
  rw [e_v2]
  refine rx_istore_n C dX9_quits_9 (by decide) [(2, .int v2), (0, .ref m), (1, .int x1)] rfl ?_
  refine rx_aload_n C dX9_quits_10 1 rfl ?_
  refine rx_iload_n C dX9_quits_11 2 rfl ?_
  refine rx_bipush C dX9_quits_12 (6 : Int32) (by decide) ?_
  refine rx_iconst C dX9_quits_14 (0 : Int32) (by decide) ?_
  replace hF := rx_biE hF; obtain ⟨y3, e_y3, hF⟩ := hF
  refine rx_cv (rx_rV C (w_X9_lays e_y3 b_m) Y_X9_lays V_X9_lays m_X9_105 (Or.inl ⟨_, _, _, _, b_m.1, rfl⟩) ⟨⟨rfl, rfl⟩, ⟨(Nat.le_of_ble_eq_true rfl), (Nat.le_of_ble_eq_true rfl)⟩, ⟨(Nat.le_of_ble_eq_true rfl), (Nat.le_of_ble_eq_true rfl)⟩⟩ rfl rfl (Nat.le_of_ble_eq_true rfl) dX9_quits_15) (fun hh n1 hpp => ?_)
  obtain ⟨hn, c_m, ff⟩ := hpp
  replace hn : n = n1 := Eq.symm hn
  subst hn
  replace b_m : bM k m y3 hh := c_m
  clear c_m
  replace ff : rx_fr [(m, 9)] _ hh := ff
  replace fr := rx_frt fr ff (fun a ha => ⟨ha.1, trivial⟩)
  refine rx_iload_n C dX9_quits_18 0 rfl ?_
  obtain rfl := Option.some.inj hF
  exact rx_iret C dX9_quits_19 (Nat.le_refl _) (Nat.le_refl _) ⟨rfl, rfl, b_m, fr⟩
def F_X9_becomesProud (om : ob) (x1 : Int32) (x2 : Int32) : Option (Int32 × ob) := (F_X9_of om x1 ((3 : Int32))).bind fun y1 => (F_X9_lays om x1 ((3 : Int32)) x2).bind fun y2 => some (y1, y2)
set_option maxRecDepth 100000 in
set_option maxHeartbeats 4000000 in
theorem w_X9_becomesProud {m : Nat} {om : ob} {x1 : Int32} {x2 : Int32} {y : Int32 × ob} (hF : F_X9_becomesProud om x1 x2 = some y) (b_m : bM k m om h) : Met l yX9_becomesProud (rx_ws yX9_becomesProud cX9_becomesProud 4 (some .int)) (rx_rm 1 23) (va_Pc [.ref m, .int x1, .int x2] (rx_G G k h n)) (va_Qi (fun r u => y.1 = r ∧ u.2 = n ∧ bM k m y.2 u.1 ∧ rx_fr [(m, 9)] h u.1) (rx_B G k) (rx_A k)) 0 0 (rx_A k) := by
  refine rx_start [(0, .ref m), (1, .int x1), (2, .int x2)] rfl (Nat.le_of_ble_eq_true rfl) (by decide) rfl (fun P9 E9 S9 M9 A9 B9 me9 c9 C hname => ?_)
  unfold F_X9_becomesProud at hF
  have fr : rx_fr [(m, 9)] h h := rx_fr0
  refine rx_aload_n C dX9_becomesProud_0 0 rfl ?_
  refine rx_iload_n C dX9_becomesProud_1 1 rfl ?_
  refine rx_iconst C dX9_becomesProud_2 (3 : Int32) (by decide) ?_
  replace hF := rx_biE hF; obtain ⟨y1, e_y1, hF⟩ := hF
  refine rx_ci (rx_rV C (w_X9_of e_y1 b_m) Y_X9_of V_X9_of m_X9_60 (Or.inl ⟨_, _, _, _, b_m.1, rfl⟩) ⟨⟨rfl, rfl⟩, ⟨(Nat.le_of_ble_eq_true rfl), (Nat.le_of_ble_eq_true rfl)⟩, ⟨(Nat.le_of_ble_eq_true rfl), (Nat.le_of_ble_eq_true rfl)⟩⟩ rfl rfl (Nat.le_of_ble_eq_true rfl) dX9_becomesProud_3) (fun r hh n1 hpp => ?_)
  obtain ⟨rfl, hu⟩ := hpp
  cases hu
  refine rx_istore_n C dX9_becomesProud_6 (by decide) [(3, .int y1), (0, .ref m), (1, .int x1), (2, .int x2)] rfl ?_
  refine rx_aload_n C dX9_becomesProud_7 1 rfl ?_
  refine rx_iload_n C dX9_becomesProud_8 2 rfl ?_
  refine rx_iconst C dX9_becomesProud_9 (3 : Int32) (by decide) ?_
  refine rx_iload_n C dX9_becomesProud_10 3 rfl ?_
  replace hF := rx_biE hF; obtain ⟨y2, e_y2, hF⟩ := hF
  refine rx_cv (rx_rV C (w_X9_lays e_y2 b_m) Y_X9_lays V_X9_lays m_X9_105 (Or.inl ⟨_, _, _, _, b_m.1, rfl⟩) ⟨⟨rfl, rfl⟩, ⟨(Nat.le_of_ble_eq_true rfl), (Nat.le_of_ble_eq_true rfl)⟩, ⟨(Nat.le_of_ble_eq_true rfl), (Nat.le_of_ble_eq_true rfl)⟩⟩ rfl rfl (Nat.le_of_ble_eq_true rfl) dX9_becomesProud_11) (fun hh n1 hpp => ?_)
  obtain ⟨hn, c_m, ff⟩ := hpp
  replace hn : n = n1 := Eq.symm hn
  subst hn
  replace b_m : bM k m y2 hh := c_m
  clear c_m
  replace ff : rx_fr [(m, 9)] _ hh := ff
  replace fr := rx_frt fr ff (fun a ha => ⟨ha.1, trivial⟩)
  refine rx_iload_n C dX9_becomesProud_14 0 rfl ?_
  obtain rfl := Option.some.inj hF
  exact rx_iret C dX9_becomesProud_15 (Nat.le_refl _) (Nat.le_refl _) ⟨rfl, rfl, b_m, fr⟩
def F_X9_does (om : ob) (x1 : Int32) (x2 : Int32) (x3 : Int32) : Option (Int32 × ob) := if x1 = (0 : Int32) then ((F_X9_moves om x2 x3).bind fun y2 => some (y2.1, y2.2)) else if x1 = (1 : Int32) then ((F_X9_moves om x2 (-x3)).bind fun y4 => (F_X9_of y4.2 x2 ((2 : Int32))).bind fun y5 => some (y5, y4.2)) else if x1 = (2 : Int32) then ((F_X9_laysDown om x2 x3).bind fun y7 => some (y7.1, y7.2)) else if x1 = (3 : Int32) then ((F_X9_lifts om x2 x3).bind fun y9 => some (y9.1, y9.2)) else if x1 = (4 : Int32) then ((F_X9_swaps om x2 x3).bind fun y11 => some (y11.1, y11.2)) else if x1 = (5 : Int32) then ((F_X9_joins om x2 x3).bind fun y13 => some (y13.1, y13.2)) else if x1 = (6 : Int32) then ((F_X9_quits om x2).bind fun y15 => some (y15.1, y15.2)) else if x1 = (7 : Int32) then ((F_X9_becomesProud om x2 x3).bind fun y17 => some (y17.1, y17.2)) else ((F_X9_passes om x2).bind fun y18 => some (y18.1, y18.2))
set_option maxRecDepth 100000 in
set_option maxHeartbeats 4000000 in
theorem w_X9_does {m : Nat} {om : ob} {x1 : Int32} {x2 : Int32} {x3 : Int32} {y : Int32 × ob} (hF : F_X9_does om x1 x2 x3 = some y) (b_m : bM k m om h) : Met l yX9_does (rx_ws yX9_does cX9_does 5 (some .int)) (rx_rm 7 159) (va_Pc [.ref m, .int x1, .int x2, .int x3] (rx_G G k h n)) (va_Qi (fun r u => y.1 = r ∧ u.2 = n ∧ bM k m y.2 u.1 ∧ rx_fr [(m, 9)] h u.1) (rx_B G k) (rx_A k)) 0 0 (rx_A k) := by
  refine rx_start [(0, .ref m), (1, .int x1), (2, .int x2), (3, .int x3)] rfl (Nat.le_of_ble_eq_true rfl) (by decide) rfl (fun P9 E9 S9 M9 A9 B9 me9 c9 C hname => ?_)
  unfold F_X9_does at hF
  have fr : rx_fr [(m, 9)] h h := rx_fr0
  refine rx_iload_n C dX9_does_0 1 rfl ?_
  by_cases c1 : x1 = (0 : Int32)
  · rw [if_pos c1] at hF
    refine rx_tableIn C dX9_does_1 (by rw [c1]; decide) (by rw [c1]; decide) (by rw [c1]; rfl) 48 (by decide) ?_
    refine rx_aload_n C dX9_does_48 0 rfl ?_
    refine rx_iload_n C dX9_does_49 2 rfl ?_
    refine rx_iload_n C dX9_does_50 3 rfl ?_
    replace hF := rx_biE hF; obtain ⟨y2, e_y2, hF⟩ := hF
    refine rx_ci (rx_rV C (w_X9_moves e_y2 b_m) Y_X9_moves V_X9_moves m_X9_133 (Or.inl ⟨_, _, _, _, b_m.1, rfl⟩) ⟨⟨rfl, rfl⟩, ⟨(Nat.le_of_ble_eq_true rfl), (Nat.le_of_ble_eq_true rfl)⟩, ⟨(Nat.le_of_ble_eq_true rfl), (Nat.le_of_ble_eq_true rfl)⟩⟩ rfl rfl (Nat.le_of_ble_eq_true rfl) dX9_does_51) (fun r hh n1 hpp => ?_)
    obtain ⟨rfl, hn, c_m, ff⟩ := hpp
    replace hn : n = n1 := Eq.symm hn
    subst hn
    replace b_m : bM k m y2.2 hh := c_m
    clear c_m
    replace ff : rx_fr [(m, 9)] _ hh := ff
    replace fr := rx_frt fr ff (fun a ha => ⟨ha.1, trivial⟩)
    obtain rfl := Option.some.inj hF
    exact rx_iret C dX9_does_54 (Nat.le_refl _) (Nat.le_refl _) ⟨rfl, rfl, b_m, fr⟩
  rw [if_neg c1] at hF
  by_cases c3 : x1 = (1 : Int32)
  · rw [if_pos c3] at hF
    refine rx_tableIn C dX9_does_1 (by rw [c3]; decide) (by rw [c3]; decide) (by rw [c3]; rfl) 55 (by decide) ?_
    refine rx_aload_n C dX9_does_55 0 rfl ?_
    refine rx_iload_n C dX9_does_56 2 rfl ?_
    refine rx_iload_n C dX9_does_57 3 rfl ?_
    refine rx_ineg C dX9_does_58 ?_
    replace hF := rx_biE hF; obtain ⟨y4, e_y4, hF⟩ := hF
    refine rx_ci (rx_rV C (w_X9_moves e_y4 b_m) Y_X9_moves V_X9_moves m_X9_133 (Or.inl ⟨_, _, _, _, b_m.1, rfl⟩) ⟨⟨rfl, rfl⟩, ⟨(Nat.le_of_ble_eq_true rfl), (Nat.le_of_ble_eq_true rfl)⟩, ⟨(Nat.le_of_ble_eq_true rfl), (Nat.le_of_ble_eq_true rfl)⟩⟩ rfl rfl (Nat.le_of_ble_eq_true rfl) dX9_does_59) (fun r hh n1 hpp => ?_)
    obtain ⟨rfl, hn, c_m, ff⟩ := hpp
    replace hn : n = n1 := Eq.symm hn
    subst hn
    replace b_m : bM k m y4.2 hh := c_m
    clear c_m
    replace ff : rx_fr [(m, 9)] _ hh := ff
    replace fr := rx_frt fr ff (fun a ha => ⟨ha.1, trivial⟩)
    refine rx_istore C dX9_does_62 (by decide) [(4, .int y4.1), (0, .ref m), (1, .int x1), (2, .int x2), (3, .int x3)] rfl ?_
    refine rx_aload_n C dX9_does_64 1 rfl ?_
    refine rx_iload_n C dX9_does_65 3 rfl ?_
    refine rx_iconst C dX9_does_66 (2 : Int32) (by decide) ?_
    replace hF := rx_biE hF; obtain ⟨y5, e_y5, hF⟩ := hF
    refine rx_ci (rx_rV C (w_X9_of e_y5 b_m) Y_X9_of V_X9_of m_X9_60 (Or.inl ⟨_, _, _, _, b_m.1, rfl⟩) ⟨⟨rfl, rfl⟩, ⟨(Nat.le_of_ble_eq_true rfl), (Nat.le_of_ble_eq_true rfl)⟩, ⟨(Nat.le_of_ble_eq_true rfl), (Nat.le_of_ble_eq_true rfl)⟩⟩ rfl rfl (Nat.le_of_ble_eq_true rfl) dX9_does_67) (fun r hh n1 hpp => ?_)
    obtain ⟨rfl, hu⟩ := hpp
    cases hu
    obtain rfl := Option.some.inj hF
    exact rx_iret C dX9_does_70 (Nat.le_refl _) (Nat.le_refl _) ⟨rfl, rfl, b_m, fr⟩
  rw [if_neg c3] at hF
  by_cases c6 : x1 = (2 : Int32)
  · rw [if_pos c6] at hF
    refine rx_tableIn C dX9_does_1 (by rw [c6]; decide) (by rw [c6]; decide) (by rw [c6]; rfl) 71 (by decide) ?_
    refine rx_aload_n C dX9_does_71 0 rfl ?_
    refine rx_iload_n C dX9_does_72 2 rfl ?_
    refine rx_iload_n C dX9_does_73 3 rfl ?_
    replace hF := rx_biE hF; obtain ⟨y7, e_y7, hF⟩ := hF
    refine rx_ci (rx_rV C (w_X9_laysDown e_y7 b_m) Y_X9_laysDown V_X9_laysDown m_X9_136 (Or.inl ⟨_, _, _, _, b_m.1, rfl⟩) ⟨⟨rfl, rfl⟩, ⟨(Nat.le_of_ble_eq_true rfl), (Nat.le_of_ble_eq_true rfl)⟩, ⟨(Nat.le_of_ble_eq_true rfl), (Nat.le_of_ble_eq_true rfl)⟩⟩ rfl rfl (Nat.le_of_ble_eq_true rfl) dX9_does_74) (fun r hh n1 hpp => ?_)
    obtain ⟨rfl, hn, c_m, ff⟩ := hpp
    replace hn : n = n1 := Eq.symm hn
    subst hn
    replace b_m : bM k m y7.2 hh := c_m
    clear c_m
    replace ff : rx_fr [(m, 9)] _ hh := ff
    replace fr := rx_frt fr ff (fun a ha => ⟨ha.1, trivial⟩)
    obtain rfl := Option.some.inj hF
    exact rx_iret C dX9_does_77 (Nat.le_refl _) (Nat.le_refl _) ⟨rfl, rfl, b_m, fr⟩
  rw [if_neg c6] at hF
  by_cases c8 : x1 = (3 : Int32)
  · rw [if_pos c8] at hF
    refine rx_tableIn C dX9_does_1 (by rw [c8]; decide) (by rw [c8]; decide) (by rw [c8]; rfl) 78 (by decide) ?_
    refine rx_aload_n C dX9_does_78 0 rfl ?_
    refine rx_iload_n C dX9_does_79 2 rfl ?_
    refine rx_iload_n C dX9_does_80 3 rfl ?_
    replace hF := rx_biE hF; obtain ⟨y9, e_y9, hF⟩ := hF
    refine rx_ci (rx_rV C (w_X9_lifts e_y9 b_m) Y_X9_lifts V_X9_lifts m_X9_139 (Or.inl ⟨_, _, _, _, b_m.1, rfl⟩) ⟨⟨rfl, rfl⟩, ⟨(Nat.le_of_ble_eq_true rfl), (Nat.le_of_ble_eq_true rfl)⟩, ⟨(Nat.le_of_ble_eq_true rfl), (Nat.le_of_ble_eq_true rfl)⟩⟩ rfl rfl (Nat.le_of_ble_eq_true rfl) dX9_does_81) (fun r hh n1 hpp => ?_)
    obtain ⟨rfl, hn, c_m, ff⟩ := hpp
    replace hn : n = n1 := Eq.symm hn
    subst hn
    replace b_m : bM k m y9.2 hh := c_m
    clear c_m
    replace ff : rx_fr [(m, 9)] _ hh := ff
    replace fr := rx_frt fr ff (fun a ha => ⟨ha.1, trivial⟩)
    obtain rfl := Option.some.inj hF
    exact rx_iret C dX9_does_84 (Nat.le_refl _) (Nat.le_refl _) ⟨rfl, rfl, b_m, fr⟩
  rw [if_neg c8] at hF
  by_cases c10 : x1 = (4 : Int32)
  · rw [if_pos c10] at hF
    refine rx_tableIn C dX9_does_1 (by rw [c10]; decide) (by rw [c10]; decide) (by rw [c10]; rfl) 85 (by decide) ?_
    refine rx_aload_n C dX9_does_85 0 rfl ?_
    refine rx_iload_n C dX9_does_86 2 rfl ?_
    refine rx_iload_n C dX9_does_87 3 rfl ?_
    replace hF := rx_biE hF; obtain ⟨y11, e_y11, hF⟩ := hF
    refine rx_ci (rx_rV C (w_X9_swaps e_y11 b_m) Y_X9_swaps V_X9_swaps m_X9_142 (Or.inl ⟨_, _, _, _, b_m.1, rfl⟩) ⟨⟨rfl, rfl⟩, ⟨(Nat.le_of_ble_eq_true rfl), (Nat.le_of_ble_eq_true rfl)⟩, ⟨(Nat.le_of_ble_eq_true rfl), (Nat.le_of_ble_eq_true rfl)⟩⟩ rfl rfl (Nat.le_of_ble_eq_true rfl) dX9_does_88) (fun r hh n1 hpp => ?_)
    obtain ⟨rfl, hn, c_m, ff⟩ := hpp
    replace hn : n = n1 := Eq.symm hn
    subst hn
    replace b_m : bM k m y11.2 hh := c_m
    clear c_m
    replace ff : rx_fr [(m, 9)] _ hh := ff
    replace fr := rx_frt fr ff (fun a ha => ⟨ha.1, trivial⟩)
    obtain rfl := Option.some.inj hF
    exact rx_iret C dX9_does_91 (Nat.le_refl _) (Nat.le_refl _) ⟨rfl, rfl, b_m, fr⟩
  rw [if_neg c10] at hF
  by_cases c12 : x1 = (5 : Int32)
  · rw [if_pos c12] at hF
    refine rx_tableIn C dX9_does_1 (by rw [c12]; decide) (by rw [c12]; decide) (by rw [c12]; rfl) 92 (by decide) ?_
    refine rx_aload_n C dX9_does_92 0 rfl ?_
    refine rx_iload_n C dX9_does_93 2 rfl ?_
    refine rx_iload_n C dX9_does_94 3 rfl ?_
    replace hF := rx_biE hF; obtain ⟨y13, e_y13, hF⟩ := hF
    refine rx_ci (rx_rV C (w_X9_joins e_y13 b_m) Y_X9_joins V_X9_joins m_X9_145 (Or.inl ⟨_, _, _, _, b_m.1, rfl⟩) ⟨⟨rfl, rfl⟩, ⟨(Nat.le_of_ble_eq_true rfl), (Nat.le_of_ble_eq_true rfl)⟩, ⟨(Nat.le_of_ble_eq_true rfl), (Nat.le_of_ble_eq_true rfl)⟩⟩ rfl rfl (Nat.le_of_ble_eq_true rfl) dX9_does_95) (fun r hh n1 hpp => ?_)
    obtain ⟨rfl, hn, c_m, ff⟩ := hpp
    replace hn : n = n1 := Eq.symm hn
    subst hn
    replace b_m : bM k m y13.2 hh := c_m
    clear c_m
    replace ff : rx_fr [(m, 9)] _ hh := ff
    replace fr := rx_frt fr ff (fun a ha => ⟨ha.1, trivial⟩)
    obtain rfl := Option.some.inj hF
    exact rx_iret C dX9_does_98 (Nat.le_refl _) (Nat.le_refl _) ⟨rfl, rfl, b_m, fr⟩
  rw [if_neg c12] at hF
  by_cases c14 : x1 = (6 : Int32)
  · rw [if_pos c14] at hF
    refine rx_tableIn C dX9_does_1 (by rw [c14]; decide) (by rw [c14]; decide) (by rw [c14]; rfl) 99 (by decide) ?_
    refine rx_aload_n C dX9_does_99 0 rfl ?_
    refine rx_iload_n C dX9_does_100 2 rfl ?_
    replace hF := rx_biE hF; obtain ⟨y15, e_y15, hF⟩ := hF
    refine rx_ci (rx_rV C (w_X9_quits e_y15 b_m) Y_X9_quits V_X9_quits m_X9_148 (Or.inl ⟨_, _, _, _, b_m.1, rfl⟩) ⟨⟨rfl, rfl⟩, ⟨(Nat.le_of_ble_eq_true rfl), (Nat.le_of_ble_eq_true rfl)⟩, ⟨(Nat.le_of_ble_eq_true rfl), (Nat.le_of_ble_eq_true rfl)⟩⟩ rfl rfl (Nat.le_of_ble_eq_true rfl) dX9_does_101) (fun r hh n1 hpp => ?_)
    obtain ⟨rfl, hn, c_m, ff⟩ := hpp
    replace hn : n = n1 := Eq.symm hn
    subst hn
    replace b_m : bM k m y15.2 hh := c_m
    clear c_m
    replace ff : rx_fr [(m, 9)] _ hh := ff
    replace fr := rx_frt fr ff (fun a ha => ⟨ha.1, trivial⟩)
    obtain rfl := Option.some.inj hF
    exact rx_iret C dX9_does_104 (Nat.le_refl _) (Nat.le_refl _) ⟨rfl, rfl, b_m, fr⟩
  rw [if_neg c14] at hF
  by_cases c16 : x1 = (7 : Int32)
  · rw [if_pos c16] at hF
    refine rx_tableIn C dX9_does_1 (by rw [c16]; decide) (by rw [c16]; decide) (by rw [c16]; rfl) 105 (by decide) ?_
    refine rx_aload_n C dX9_does_105 0 rfl ?_
    refine rx_iload_n C dX9_does_106 2 rfl ?_
    refine rx_iload_n C dX9_does_107 3 rfl ?_
    replace hF := rx_biE hF; obtain ⟨y17, e_y17, hF⟩ := hF
    refine rx_ci (rx_rV C (w_X9_becomesProud e_y17 b_m) Y_X9_becomesProud V_X9_becomesProud m_X9_151 (Or.inl ⟨_, _, _, _, b_m.1, rfl⟩) ⟨⟨rfl, rfl⟩, ⟨(Nat.le_of_ble_eq_true rfl), (Nat.le_of_ble_eq_true rfl)⟩, ⟨(Nat.le_of_ble_eq_true rfl), (Nat.le_of_ble_eq_true rfl)⟩⟩ rfl rfl (Nat.le_of_ble_eq_true rfl) dX9_does_108) (fun r hh n1 hpp => ?_)
    obtain ⟨rfl, hn, c_m, ff⟩ := hpp
    replace hn : n = n1 := Eq.symm hn
    subst hn
    replace b_m : bM k m y17.2 hh := c_m
    clear c_m
    replace ff : rx_fr [(m, 9)] _ hh := ff
    replace fr := rx_frt fr ff (fun a ha => ⟨ha.1, trivial⟩)
    obtain rfl := Option.some.inj hF
    exact rx_iret C dX9_does_111 (Nat.le_refl _) (Nat.le_refl _) ⟨rfl, rfl, b_m, fr⟩
  rw [if_neg c16] at hF
  refine rx_tableOut C dX9_does_1 (by have q0 := rx_neI c1; have q1 := rx_neI c3; have q2 := rx_neI c6; have q3 := rx_neI c8; have q4 := rx_neI c10; have q5 := rx_neI c12; have q6 := rx_neI c14; have q7 := rx_neI c16; have r0 : (0 : Int32).toInt = 0 := rfl; have r1 : (1 : Int32).toInt = 1 := rfl; have r2 : (2 : Int32).toInt = 2 := rfl; have r3 : (3 : Int32).toInt = 3 := rfl; have r4 : (4 : Int32).toInt = 4 := rfl; have r5 : (5 : Int32).toInt = 5 := rfl; have r6 : (6 : Int32).toInt = 6 := rfl; have r7 : (7 : Int32).toInt = 7 := rfl; omega) 112 (by decide) ?_
  refine rx_aload_n C dX9_does_112 0 rfl ?_
  refine rx_iload_n C dX9_does_113 2 rfl ?_
  replace hF := rx_biE hF; obtain ⟨y18, e_y18, hF⟩ := hF
  refine rx_ci (rx_rV C (w_X9_passes e_y18 b_m) Y_X9_passes V_X9_passes m_X9_154 (Or.inl ⟨_, _, _, _, b_m.1, rfl⟩) ⟨⟨rfl, rfl⟩, ⟨(Nat.le_of_ble_eq_true rfl), (Nat.le_of_ble_eq_true rfl)⟩, ⟨(Nat.le_of_ble_eq_true rfl), (Nat.le_of_ble_eq_true rfl)⟩⟩ rfl rfl (Nat.le_of_ble_eq_true rfl) dX9_does_114) (fun r hh n1 hpp => ?_)
  obtain ⟨rfl, hn, c_m, ff⟩ := hpp
  replace hn : n = n1 := Eq.symm hn
  subst hn
  replace b_m : bM k m y18.2 hh := c_m
  clear c_m
  replace ff : rx_fr [(m, 9)] _ hh := ff
  replace fr := rx_frt fr ff (fun a ha => ⟨ha.1, trivial⟩)
  obtain rfl := Option.some.inj hF
  exact rx_iret C dX9_does_117 (Nat.le_refl _) (Nat.le_refl _) ⟨rfl, rfl, b_m, fr⟩
end GEN
