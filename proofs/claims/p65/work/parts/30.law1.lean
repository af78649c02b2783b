section GEN
variable {l : Launch} {G : va_G} {k : Nat → Nat} {h : hp} {n : Nat}
def F_L_sign (om : ob) (x1 : Int32) : Option (ob) := (rx_ast 500 (om.2 0) ((om.1 2)) x1).bind fun f1 => rx_le (om.1, va_up om.2 0 f1) fun o_m_2 => rx_le (upd o_m_2.1 2 (((o_m_2.1 2) + (1 : Int32))), o_m_2.2) fun o_m_3 => some o_m_3
set_option maxRecDepth 100000 in
set_option maxHeartbeats 4000000 in
theorem w_L_sign {m : Nat} {om : ob} {x1 : Int32} {y : ob} (hF : F_L_sign om x1 = some y) (b_m : bM k m om h) : Met l yL_sign (rx_ws yL_sign cL_sign 2 none) (rx_rm 0 0) (va_Pc [.ref m, .int x1] (rx_G G k h n)) (va_Qv (fun u => u.2 = n ∧ bM k m y u.1 ∧ rx_fr [(m, 3)] h u.1) (rx_B G k) (rx_A k)) 0 0 (rx_A k) := by
  refine rx_start [(0, .ref m), (1, .int x1)] rfl (Nat.le_of_ble_eq_true rfl) (by decide) rfl (fun P9 E9 S9 M9 A9 B9 me9 c9 C hname => ?_)
  unfold F_L_sign at hF
  have fr : rx_fr [(m, 3)] h h := rx_fr0
  refine rx_aload_n C dL_sign_0 0 rfl ?_
  refine rx_getf C f_L_7 dL_sign_1 b_m.1 rfl ?_
  refine rx_aload_n C dL_sign_4 0 rfl ?_
  refine rx_getf C f_L_30 dL_sign_5 b_m.1 rfl ?_
  refine rx_iload_n C dL_sign_8 1 rfl ?_
  replace hF := rx_biE hF; obtain ⟨f1, e_f1, hF⟩ := hF
  replace hF := rx_leE hF; obtain ⟨o_m_2, e_o_m_2, hF⟩ := hF
  refine rx_aM0 C dL_sign_9 b_m e_f1 e_o_m_2 (fun hh c_m ff => ?_)
  replace b_m := c_m
  replace fr := rx_frt fr ff (fun a ha => ⟨ha.1, trivial⟩)
  refine rx_aload_n C dL_sign_10 0 rfl ?_
  refine rx_dup C dL_sign_11 rfl ?_
  refine rx_getf C f_L_30 dL_sign_12 b_m.1 rfl ?_
  refine rx_iconst C dL_sign_15 (1 : Int32) (by decide) ?_
  refine rx_iadd C dL_sign_16 ?_
  replace hF := rx_leE hF; obtain ⟨o_m_3, e_o_m_3, hF⟩ := hF
  refine rx_pM2 C f_L_30 dL_sign_17 b_m e_o_m_3 (fun hh c_m ff => ?_)
  replace b_m := c_m
  replace fr := rx_frt fr ff (fun a ha => ⟨ha.1, trivial⟩)
  obtain rfl := Option.some.inj hF
  exact rx_vret C dL_sign_20 (Nat.le_refl _) (Nat.le_refl _) ⟨rfl, b_m, fr⟩
def F_L_writes_2 (s1 : Nat) : Nat → ob → Int32 → Option (Int32 × ob)
  | 0, _, _ => none
  | fu + 1, om, x2 => if (nI (rx_len.getD s1 0)) ≤ x2 then (some (x2, om)) else ((rx_chr s1 x2).bind fun v4 => (F_L_sign om v4).bind fun y5 => F_L_writes_2 s1 fu y5 ((x2 + 1)))
def F_L_writes (om : ob) (s1 : Nat) : Option (ob) := (F_L_writes_2 s1 100000 om ((0 : Int32))).bind fun zl6 => some zl6.2
set_option maxRecDepth 100000 in
set_option maxHeartbeats 4000000 in
theorem w_L_writes {m : Nat} {om : ob} {s1 : Nat} {y : ob} (hF : F_L_writes om s1 = some y) (b_m : bM k m om h) (hs_s1 : s1 < 14) : Met l yL_writes (rx_ws yL_writes cL_writes 3 none) (rx_rm 4 85) (va_Pc [.ref m, .ref (k (100 + s1))] (rx_G G k h n)) (va_Qv (fun u => u.2 = n ∧ bM k m y u.1 ∧ rx_fr [(m, 3)] h u.1) (rx_B G k) (rx_A k)) 0 0 (rx_A k) := by
  refine rx_start [(0, .ref m), (1, .ref (k (100 + s1)))] rfl (Nat.le_of_ble_eq_true rfl) (by decide) rfl (fun P9 E9 S9 M9 A9 B9 me9 c9 C hname => ?_)
  unfold F_L_writes at hF
  have fr : rx_fr [(m, 3)] h h := rx_fr0
  refine rx_iconst C dL_writes_0 (0 : Int32) (by decide) ?_
  refine rx_istore_n C dL_writes_1 (by decide) [(2, .int ((0 : Int32))), (0, .ref m), (1, .ref (k (100 + s1)))] rfl ?_
  have loop2 : ∀ (fu : Nat) (zz : Int32 × ob) (om : ob) (x2 : Int32) (hh : hp), F_L_writes_2 s1 fu om x2 = some zz → bM k m om hh → rx_fr [(m, 3)] h hh → (∀ hh : hp, bM k m zz.2 hh → rx_fr [(m, 3)] h hh → rx_W P9 l E9 (rx_rm 4 85) S9 M9 A9 B9 me9 c9 (MQ B9 (va_Qv (fun u => u.2 = n ∧ bM k m y u.1 ∧ rx_fr [(m, 3)] h u.1) (rx_B G k) (rx_A k)) A9 S9 0 0 (rx_A k)) G k 3 0 0 hh n 25 [(0, .ref m), (1, .ref (k (100 + s1))), (2, .int zz.1)] []) → rx_W P9 l E9 (rx_rm 4 85) S9 M9 A9 B9 me9 c9 (MQ B9 (va_Qv (fun u => u.2 = n ∧ bM k m y u.1 ∧ rx_fr [(m, 3)] h u.1) (rx_B G k) (rx_A k)) A9 S9 0 0 (rx_A k)) G k 3 0 0 hh n 2 [(0, .ref m), (1, .ref (k (100 + s1))), (2, .int x2)] [] := by
    intro fu
    induction fu with
    | zero => intro zz om x2 hh hF b_m fr KK; exact absurd hF (by simp [F_L_writes_2])
    | succ fu ih_loop2 =>
      intro zz om x2 hh hF b_m fr KK
      unfold F_L_writes_2 at hF
      refine rx_iload_n C dL_writes_2 2 rfl ?_
      refine rx_aload_n C dL_writes_3 1 rfl ?_
      refine rx_ci (rx_rV C (w_length hs_s1) Y_J0_length_8abf5 V_J0_length_8abf5 m_L_16 (Or.inr (C.2.2.2.2.2.2.2.2.2.2.2.2.2.2.1.1 _ hs_s1).1) ⟨⟨rfl, rfl⟩, ⟨(Nat.le_of_ble_eq_true rfl), (Nat.le_of_ble_eq_true rfl)⟩, ⟨(Nat.le_of_ble_eq_true rfl), (Nat.le_of_ble_eq_true rfl)⟩⟩ rfl rfl (Nat.le_of_ble_eq_true rfl) dL_writes_4) (fun r hh n1 hpp => ?_)
      obtain ⟨rfl, hu⟩ := hpp
      cases hu
      refine rx_icmp_ge C dL_writes_7 25 (by decide) (fun c3 => ?_) (fun c3 => ?_)
      · rw [if_pos c3] at hF
        obtain rfl := Option.some.inj hF
        refine rx_sub [0, 1, 2] rfl ?_
        exact KK _ b_m fr
      · rw [if_neg c3] at hF
        refine rx_aload_n C dL_writes_10 0 rfl ?_
        refine rx_aload_n C dL_writes_11 1 rfl ?_
        refine rx_iload_n C dL_writes_12 2 rfl ?_
        replace hF := rx_biE hF; obtain ⟨v4, e_v4, hF⟩ := hF
        refine rx_ci (rx_rV C (w_charAt hs_s1 e_v4 (rx_chr255 hs_s1 e_v4)) Y_J0_charAt_5068e V_J0_charAt_5068e m_L_22 (Or.inr (C.2.2.2.2.2.2.2.2.2.2.2.2.2.2.1.1 _ hs_s1).1) ⟨⟨rfl, rfl⟩, ⟨(Nat.le_of_ble_eq_true rfl), (Nat.le_of_ble_eq_true rfl)⟩, ⟨(Nat.le_of_ble_eq_true rfl), (Nat.le_of_ble_eq_true rfl)⟩⟩ rfl rfl (Nat.le_of_ble_eq_true rfl) dL_writes_13) (fun r hh n1 hpp => ?_)
        obtain ⟨rfl, hu⟩ := hpp
        cases hu
        replace hF := rx_biE hF; obtain ⟨y5, e_y5, hF⟩ := hF
        refine rx_cv (rx_rV C (w_L_sign e_y5 b_m) Y_L_sign V_L_sign m_L_26 (Or.inl ⟨_, _, _, _, b_m.1, rfl⟩) ⟨⟨rfl, rfl⟩, ⟨(Nat.le_of_ble_eq_true rfl), (Nat.le_of_ble_eq_true rfl)⟩, ⟨(Nat.le_of_ble_eq_true rfl), (Nat.le_of_ble_eq_true rfl)⟩⟩ rfl rfl (Nat.le_of_ble_eq_true rfl) dL_writes_16) (fun hh n1 hpp => ?_)
        obtain ⟨hn, c_m, ff⟩ := hpp
        replace hn : n = n1 := Eq.symm hn
        subst hn
        replace b_m : bM k m y5 hh := c_m
        clear c_m
        replace ff : rx_fr [(m, 3)] _ hh := ff
        replace fr := rx_frt fr ff (fun a ha => ⟨ha.1, trivial⟩)
        refine rx_iinc C dL_writes_19 2 rfl (x2 + 1) rfl (by decide) [(2, .int ((x2 + 1))), (0, .ref m), (1, .ref (k (100 + s1)))] rfl ?_
        refine rx_goto C dL_writes_22 2 (by decide) ?_
        refine rx_sub [1, 2, 0] rfl ?_
        exact ih_loop2 _ _ _ _ hF b_m fr KK
  refine rx_sub [1, 2, 0] rfl ?_
  replace hF := rx_biE hF; obtain ⟨zl6, e_zl6, hF⟩ := hF
  refine loop2 _ zl6 _ _ _ e_zl6 b_m fr (fun hh b_m fr => ?_)
  obtain rfl := Option.some.inj hF
  exact rx_vret C dL_writes_25 (Nat.le_refl _) (Nat.le_refl _) ⟨rfl, b_m, fr⟩
def F_L_number_2 (x1 : Int32) : Nat → ob → Int32 → Option (Int32 × ob)
  | 0, _, _ => none
  | fu + 1, om, x2 => (rx_div x1 x2).bind fun v3 => if v3 ≤ (9 : Int32) then (some (x2, om)) else (rx_le ((x2 * (10 : Int32))) fun v5 => F_L_number_2 x1 fu om v5)
def F_L_number_24 (x1 : Int32) : Nat → ob → Int32 → Option (Int32 × ob)
  | 0, _, _ => none
  | fu + 1, om, x2 => if x2 ≤ (0 : Int32) then (some (x2, om)) else ((rx_div x1 x2).bind fun v11 => (F_L_sign om (((48 : Int32) + (v11 - v11 / (10 : Int32) * (10 : Int32))))).bind fun y12 => rx_le ((x2 / (10 : Int32))) fun v13 => F_L_number_24 x1 fu y12 v13)
def F_L_number (om : ob) (x1 : Int32) : Option (ob) := (F_L_number_2 x1 100000 om ((1 : Int32))).bind fun zl6 => (F_L_sign zl6.2 ((32 : Int32))).bind fun y7 => (F_L_number_24 x1 100000 y7 zl6.1).bind fun zl14 => some zl14.2
set_option maxRecDepth 100000 in
set_option maxHeartbeats 4000000 in
theorem w_L_number {m : Nat} {om : ob} {x1 : Int32} {y : ob} (hF : F_L_number om x1 = some y) (b_m : bM k m om h) : Met l yL_number (rx_ws yL_number cL_number 3 none) (rx_rm 1 21) (va_Pc [.ref m, .int x1] (rx_G G k h n)) (va_Qv (fun u => u.2 = n ∧ bM k m y u.1 ∧ rx_fr [(m, 3)] h u.1) (rx_B G k) (rx_A k)) 0 0 (rx_A k) := by
  refine rx_start [(0, .ref m), (1, .int x1)] rfl (Nat.le_of_ble_eq_true rfl) (by decide) rfl (fun P9 E9 S9 M9 A9 B9 me9 c9 C hname => ?_)
  unfold F_L_number at hF
  have fr : rx_fr [(m, 3)] h h := rx_fr0
  refine rx_iconst C dL_number_0 (1 : Int32) (by decide) ?_
  refine rx_istore_n C dL_number_1 (by decide) [(2, .int ((1 : Int32))), (0, .ref m), (1, .int x1)] rfl ?_
  have loop2 : ∀ (fu : Nat) (zz : Int32 × ob) (om : ob) (x2 : Int32) (hh : hp), F_L_number_2 x1 fu om x2 = some zz → bM k m om hh → rx_fr [(m, 3)] h hh → (∀ hh : hp, bM k m zz.2 hh → rx_fr [(m, 3)] h hh → rx_W P9 l E9 (rx_rm 1 21) S9 M9 A9 B9 me9 c9 (MQ B9 (va_Qv (fun u => u.2 = n ∧ bM k m y u.1 ∧ rx_fr [(m, 3)] h u.1) (rx_B G k) (rx_A k)) A9 S9 0 0 (rx_A k)) G k 3 0 0 hh n 18 [(0, .ref m), (1, .int x1), (2, .int zz.1)] []) → rx_W P9 l E9 (rx_rm 1 21) S9 M9 A9 B9 me9 c9 (MQ B9 (va_Qv (fun u => u.2 = n ∧ bM k m y u.1 ∧ rx_fr [(m, 3)] h u.1) (rx_B G k) (rx_A k)) A9 S9 0 0 (rx_A k)) G k 3 0 0 hh n 2 [(0, .ref m), (1, .int x1), (2, .int x2)] [] := by
    intro fu
    induction fu with
    | zero => intro zz om x2 hh hF b_m fr KK; exact absurd hF (by simp [F_L_number_2])
    | succ fu ih_loop2 =>
      intro zz om x2 hh hF b_m fr KK
      unfold F_L_number_2 at hF
      refine rx_iload_n C dL_number_2 1 rfl ?_
      refine rx_iload_n C dL_number_3 2 rfl ?_
      replace hF := rx_biE hF; obtain ⟨v3, e_v3, hF⟩ := hF
      refine rx_idivF C dL_number_4 e_v3 ?_
      refine rx_bipush C dL_number_5 (9 : Int32) (by decide) ?_
      refine rx_icmp_le C dL_number_7 18 (by decide) (fun c4 => ?_) (fun c4 => ?_)
      · rw [if_pos c4] at hF
        obtain rfl := Option.some.inj hF
        refine rx_sub [0, 1, 2] rfl ?_
        exact KK _ b_m fr
      · rw [if_neg c4] at hF
        refine rx_iload_n C dL_number_10 2 rfl ?_
        refine rx_bipush C dL_number_11 (10 : Int32) (by decide) ?_
        refine rx_imul C dL_number_13 ?_
        replace hF := rx_leE hF; obtain ⟨v5, e_v5, hF⟩ := hF
        rw [e_v5]
        refine rx_istore_n C dL_number_14 (by decide) [(2, .int v5), (0, .ref m), (1, .int x1)] rfl ?_
        refine rx_goto C dL_number_15 2 (by decide) ?_
        refine rx_sub [1, 2, 0] rfl ?_
        exact ih_loop2 _ _ _ _ hF b_m fr KK
  refine rx_sub [1, 2, 0] rfl ?_
  replace hF := rx_biE hF; obtain ⟨zl6, e_zl6, hF⟩ := hF
  refine loop2 _ zl6 _ _ _ e_zl6 b_m fr (fun hh b_m fr => ?_)
  refine rx_aload_n C dL_number_18 0 rfl ?_
  refine rx_bipush C dL_number_19 (32 : Int32) (by decide) ?_
  replace hF := rx_biE hF; obtain ⟨y7, e_y7, hF⟩ := hF
  refine rx_cv (rx_rV C (w_L_sign e_y7 b_m) Y_L_sign V_L_sign m_L_26 (Or.inl ⟨_, _, _, _, b_m.1, rfl⟩) ⟨⟨rfl, rfl⟩, ⟨(Nat.le_of_ble_eq_true rfl), (Nat.le_of_ble_eq_true rfl)⟩, ⟨(Nat.le_of_ble_eq_true rfl), (Nat.le_of_ble_eq_true rfl)⟩⟩ rfl rfl (Nat.le_of_ble_eq_true rfl) dL_number_21) (fun hh n1 hpp => ?_)
  obtain ⟨hn, c_m, ff⟩ := hpp
  replace hn : n = n1 := Eq.symm hn
  subst hn
  replace b_m : bM k m y7 hh := c_m
  clear c_m
  replace ff : rx_fr [(m, 3)] _ hh := ff
  replace fr := rx_frt fr ff (fun a ha => ⟨ha.1, trivial⟩)
  have loop9 : ∀ (fu : Nat) (zz : Int32 × ob) (om : ob) (x2 : Int32) (hh : hp), F_L_number_24 x1 fu om x2 = some zz → bM k m om hh → rx_fr [(m, 3)] h hh → (∀ hh : hp, bM k m zz.2 hh → rx_fr [(m, 3)] h hh → rx_W P9 l E9 (rx_rm 1 21) S9 M9 A9 B9 me9 c9 (MQ B9 (va_Qv (fun u => u.2 = n ∧ bM k m y u.1 ∧ rx_fr [(m, 3)] h u.1) (rx_B G k) (rx_A k)) A9 S9 0 0 (rx_A k)) G k 3 0 0 hh n 49 [(0, .ref m), (1, .int x1), (2, .int zz.1)] []) → rx_W P9 l E9 (rx_rm 1 21) S9 M9 A9 B9 me9 c9 (MQ B9 (va_Qv (fun u => u.2 = n ∧ bM k m y u.1 ∧ rx_fr [(m, 3)] h u.1) (rx_B G k) (rx_A k)) A9 S9 0 0 (rx_A k)) G k 3 0 0 hh n 24 [(0, .ref m), (1, .int x1), (2, .int x2)] [] := by
    intro fu
    induction fu with
    | zero => intro zz om x2 hh hF b_m fr KK; exact absurd hF (by simp [F_L_number_24])
    | succ fu ih_loop9 =>
      intro zz om x2 hh hF b_m fr KK
      unfold F_L_number_24 at hF
      refine rx_iload_n C dL_number_24 2 rfl ?_
      refine rx_if_le C dL_number_25 49 (by decide) (fun c10 => ?_) (fun c10 => ?_)
      · rw [if_pos c10] at hF
        obtain rfl := Option.some.inj hF
        refine rx_sub [0, 1, 2] rfl ?_
        exact KK _ b_m fr
      · rw [if_neg c10] at hF
        refine rx_aload_n C dL_number_28 0 rfl ?_
        refine rx_bipush C dL_number_29 (48 : Int32) (by decide) ?_
        refine rx_iload_n C dL_number_31 1 rfl ?_
        refine rx_iload_n C dL_number_32 2 rfl ?_
        replace hF := rx_biE hF; obtain ⟨v11, e_v11, hF⟩ := hF
        refine rx_idivF C dL_number_33 e_v11 ?_
        refine rx_bipush C dL_number_34 (10 : Int32) (by decide) ?_
        refine rx_irem C dL_number_36 (by decide) ?_
        refine rx_iadd C dL_number_37 ?_
        replace hF := rx_biE hF; obtain ⟨y12, e_y12, hF⟩ := hF
        refine rx_cv (rx_rV C (w_L_sign e_y12 b_m) Y_L_sign V_L_sign m_L_26 (Or.inl ⟨_, _, _, _, b_m.1, rfl⟩) ⟨⟨rfl, rfl⟩, ⟨(Nat.le_of_ble_eq_true rfl), (Nat.le_of_ble_eq_true rfl)⟩, ⟨(Nat.le_of_ble_eq_true rfl), (Nat.le_of_ble_eq_true rfl)⟩⟩ rfl rfl (Nat.le_of_ble_eq_true rfl) dL_number_38) (fun hh n1 hpp => ?_)
        obtain ⟨hn, c_m, ff⟩ := hpp
        replace hn : n = n1 := Eq.symm hn
        subst hn
        replace b_m : bM k m y12 hh := c_m
        clear c_m
        replace ff : rx_fr [(m, 3)] _ hh := ff
        replace fr := rx_frt fr ff (fun a ha => ⟨ha.1, trivial⟩)
        refine rx_iload_n C dL_number_41 2 rfl ?_
        refine rx_bipush C dL_number_42 (10 : Int32) (by decide) ?_
        refine rx_idiv C dL_number_44 (by decide) ?_
        replace hF := rx_leE hF; obtain ⟨v13, e_v13, hF⟩ := hF
        rw [e_v13]
        refine rx_istore_n C dL_number_45 (by decide) [(2, .int v13), (0, .ref m), (1, .int x1)] rfl ?_
        refine rx_goto C dL_number_46 24 (by decide) ?_
        refine rx_sub [1, 2, 0] rfl ?_
        exact ih_loop9 _ _ _ _ hF b_m fr KK
  refine rx_sub [0, 1, 2] rfl ?_
  replace hF := rx_biE hF; obtain ⟨zl14, e_zl14, hF⟩ := hF
  refine loop9 _ zl14 _ _ _ e_zl14 b_m fr (fun hh b_m fr => ?_)
  obtain rfl := Option.some.inj hF
  exact rx_vret C dL_number_49 (Nat.le_refl _) (Nat.le_refl _) ⟨rfl, b_m, fr⟩
def F_L_cell (k : Nat → Nat) (x1 : Int32) : Option (Int32) := if (nI (k 8)) ≤ x1 then (some ((0 : Int32))) else ((rx_xld k x1).bind fun v2 => some ((v2 &&& (1073741823 : Int32))))
set_option maxRecDepth 100000 in
set_option maxHeartbeats 4000000 in
theorem w_L_cell {x1 : Int32} {y : Int32} (hF : F_L_cell k x1 = some y) : Met l yL_cell (rx_ws yL_cell cL_cell 2 (some .int)) (rx_rm 0 0) (va_Pc [.ref (k 7), .int x1] (rx_G G k h n)) (va_Qi (fun r u => y = r ∧ u = (h, n)) (rx_B G k) (rx_A k)) 0 0 (rx_A k) := by
  refine rx_start [(0, .ref (k 7)), (1, .int x1)] rfl (Nat.le_of_ble_eq_true rfl) (by decide) rfl (fun P9 E9 S9 M9 A9 B9 me9 c9 C hname => ?_)
  unfold F_L_cell at hF
  refine rx_iload_n C dL_cell_0 1 rfl ?_
  refine rx_aload_n C dL_cell_1 0 rfl ?_
  refine rx_tlen C (C.2.2.2.2.2.2.2.2.2.1 0 (by decide)).2.2.2.1 dL_cell_2 ?_
  refine rx_icmp_ge C dL_cell_3 15 (by decide) (fun c1 => ?_) (fun c1 => ?_)
  · rw [if_pos c1] at hF
    refine rx_iconst C dL_cell_15 (0 : Int32) (by decide) ?_
    obtain rfl := Option.some.inj hF
    exact rx_iret C dL_cell_16 (Nat.le_refl _) (Nat.le_refl _) ⟨rfl, rfl⟩
  · rw [if_neg c1] at hF
    refine rx_aload_n C dL_cell_6 0 rfl ?_
    refine rx_iload_n C dL_cell_7 1 rfl ?_
    replace hF := rx_biE hF; obtain ⟨v2, e_v2, hF⟩ := hF
    refine rx_xldF C dL_cell_8 e_v2 ?_
    refine rx_ldcw C lk_L_34 dL_cell_9 ?_
    refine rx_iand C dL_cell_11 ?_
    refine rx_goto C dL_cell_12 16 (by decide) ?_
    obtain rfl := Option.some.inj hF
    exact rx_iret C dL_cell_16 (Nat.le_refl _) (Nat.le_refl _) ⟨rfl, rfl⟩
def F_L_feeds_12 (oB : ob) (x2 : Int32) : Nat → ob → ob → Int32 → Option (Int32 × ob × ob)
  | 0, _, _, _ => none
  | fu + 1, om, ot, x3 => if (20 : Int32) ≤ x3 then (some (x3, om, ot)) else ((rx_ald 5 (om.2 1) ((x3 / (4 : Int32)))).bind fun v7 => if (om.1 2) ≤ (x2 + x3) then ((rx_ast 5 (om.2 1) ((x3 / (4 : Int32))) (((v7 <<< ((8 : Int32) &&& 31)) ||| (32 : Int32)))).bind fun f9 => rx_le (om.1, va_up om.2 1 f9) fun o_m_10 => F_L_feeds_12 oB x2 fu o_m_10 ot ((x3 + 1))) else ((rx_ald 500 (om.2 0) ((x2 + x3))).bind fun v11 => (rx_ast 5 (om.2 1) ((x3 / (4 : Int32))) (((v7 <<< ((8 : Int32) &&& 31)) ||| v11))).bind fun f12 => rx_le (om.1, va_up om.2 1 f12) fun o_m_13 => F_L_feeds_12 oB x2 fu o_m_13 ot ((x3 + 1))))
def F_L_feeds_2 (oB : ob) : Nat → ob → ob → Int32 → Option (Int32 × ob × ob)
  | 0, _, _, _ => none
  | fu + 1, om, ot, x2 => if (om.1 2) ≤ x2 then (some (x2, om, ot)) else ((F_L_feeds_12 oB x2 100000 om ot ((0 : Int32))).bind fun zl14 => (rx_ald 5 (zl14.2.1.2 1) ((0 : Int32))).bind fun v15 => (rx_ald 5 (zl14.2.1.2 1) ((1 : Int32))).bind fun v16 => (rx_ald 5 (zl14.2.1.2 1) ((2 : Int32))).bind fun v17 => (rx_ald 5 (zl14.2.1.2 1) ((3 : Int32))).bind fun v18 => (rx_ald 5 (zl14.2.1.2 1) ((4 : Int32))).bind fun v19 => (F_X8_appendText oB zl14.2.2 v15 v16 v17 v18 v19).bind fun y20 => F_L_feeds_2 oB fu zl14.2.1 y20.2 ((x2 + 20)))
def F_L_feeds (om : ob) (oB : ob) (ot : ob) : Option (Int32 × ob × ob) := (F_L_feeds_2 oB 100000 om ot ((0 : Int32))).bind fun zl21 => rx_le ((zl21.2.1.1 2)) fun v22 => rx_le (upd zl21.2.1.1 2 ((0 : Int32)), zl21.2.1.2) fun o_m_23 => some (v22, o_m_23, zl21.2.2)
set_option maxRecDepth 100000 in
set_option maxHeartbeats 4000000 in
theorem w_L_feeds {m b : Nat} {om : ob} {oB : ob} {ot : ob} {y : Int32 × ob × ob} (hF : F_L_feeds om oB ot = some y) (b_m : bM k m om h) (b_B : bB k b oB h) (b_t : bT k (b + 1) ot h) (hd0 : m + 3 ≤ b ∨ b + 204 ≤ m) : Met l yL_feeds (rx_ws yL_feeds cL_feeds 4 (some .int)) (rx_rm 3 69) (va_Pc [.ref m, .ref b] (rx_G G k h n)) (va_Qi (fun r u => y.1 = r ∧ u.2 = n ∧ bM k m y.2.1 u.1 ∧ bT k (b + 1) y.2.2 u.1 ∧ rx_fr [(m, 3), (b + 1, 2)] h u.1) (rx_B G k) (rx_A k)) 0 0 (rx_A k) := by
  have s_B_m : b + 1 ≤ m ∨ m + 3 ≤ b := by omega
  have s_t_m : b + 1 + 2 ≤ m ∨ m + 3 ≤ b + 1 := by omega
  have s_B_t : b + 1 ≤ b + 1 ∨ b + 1 + 2 ≤ b := by omega
  have s_m_t : m + 3 ≤ b + 1 ∨ b + 1 + 2 ≤ m := by omega
  refine rx_start [(0, .ref m), (1, .ref b)] rfl (Nat.le_of_ble_eq_true rfl) (by decide) rfl (fun P9 E9 S9 M9 A9 B9 me9 c9 C hname => ?_)
  unfold F_L_feeds at hF
  have fr : rx_fr [(m, 3), (b + 1, 2)] h h := rx_fr0
  have b0_m := b_m
  have b0_B := b_B
  have b0_t := b_t
  refine rx_iconst C dL_feeds_0 (0 : Int32) (by decide) ?_
  refine rx_istore_n C dL_feeds_1 (by decide) [(2, .int ((0 : Int32))), (0, .ref m), (1, .ref b)] rfl ?_
  have loop2 : ∀ (fu : Nat) (zz : Int32 × ob × ob) (om : ob) (ot : ob) (x2 : Int32) (hh : hp), F_L_feeds_2 oB fu om ot x2 = some zz → bM k m om hh → bT k (b + 1) ot hh → bB k b oB hh → rx_fr [(m, 3), (b + 1, 2)] h hh → (∀ hh : hp, bM k m zz.2.1 hh → bT k (b + 1) zz.2.2 hh → rx_fr [(m, 3), (b + 1, 2)] h hh → rx_W P9 l E9 (rx_rm 3 69) S9 M9 A9 B9 me9 c9 (MQ B9 (va_Qi (fun r u => y.1 = r ∧ u.2 = n ∧ bM k m y.2.1 u.1 ∧ bT k (b + 1) y.2.2 u.1 ∧ rx_fr [(m, 3), (b + 1, 2)] h u.1) (rx_B G k) (rx_A k)) A9 S9 0 0 (rx_A k)) G k 4 0 0 hh n 108 [(0, .ref m), (1, .ref b), (2, .int zz.1)] []) → rx_W P9 l E9 (rx_rm 3 69) S9 M9 A9 B9 me9 c9 (MQ B9 (va_Qi (fun r u => y.1 = r ∧ u.2 = n ∧ bM k m y.2.1 u.1 ∧ bT k (b + 1) y.2.2 u.1 ∧ rx_fr [(m, 3), (b + 1, 2)] h u.1) (rx_B G k) (rx_A k)) A9 S9 0 0 (rx_A k)) G k 4 0 0 hh n 2 [(0, .ref m), (1, .ref b), (2, .int x2)] [] := by
    intro fu
    induction fu with
    | zero => intro zz om ot x2 hh hF b_m b_t b_B fr KK; exact absurd hF (by simp [F_L_feeds_2])
    | succ fu ih_loop2 =>
      intro zz om ot x2 hh hF b_m b_t b_B fr KK
      unfold F_L_feeds_2 at hF
      refine rx_iload_n C dL_feeds_2 2 rfl ?_
      refine rx_aload_n C dL_feeds_3 0 rfl ?_
      refine rx_getf C f_L_30 dL_feeds_4 b_m.1 rfl ?_
      refine rx_icmp_ge C dL_feeds_7 108 (by decide) (fun c3 => ?_) (fun c3 => ?_)
      · rw [if_pos c3] at hF
        obtain rfl := Option.some.inj hF
        refine rx_sub [0, 1, 2] rfl ?_
        exact KK _ b_m b_t fr
      · rw [if_neg c3] at hF
        refine rx_iconst C dL_feeds_10 (0 : Int32) (by decide) ?_
        refine rx_istore_n C dL_feeds_11 (by decide) [(3, .int ((0 : Int32))), (0, .ref m), (1, .ref b), (2, .int x2)] rfl ?_
        have loop5 : ∀ (fu : Nat) (zz : Int32 × ob × ob) (om : ob) (ot : ob) (x3 : Int32) (hh : hp), F_L_feeds_12 oB x2 fu om ot x3 = some zz → bM k m om hh → bT k (b + 1) ot hh → bB k b oB hh → rx_fr [(m, 3), (b + 1, 2)] h hh → (∀ hh : hp, bM k m zz.2.1 hh → bT k (b + 1) zz.2.2 hh → rx_fr [(m, 3), (b + 1, 2)] h hh → rx_W P9 l E9 (rx_rm 3 69) S9 M9 A9 B9 me9 c9 (MQ B9 (va_Qi (fun r u => y.1 = r ∧ u.2 = n ∧ bM k m y.2.1 u.1 ∧ bT k (b + 1) y.2.2 u.1 ∧ rx_fr [(m, 3), (b + 1, 2)] h u.1) (rx_B G k) (rx_A k)) A9 S9 0 0 (rx_A k)) G k 4 0 0 hh n 67 [(0, .ref m), (1, .ref b), (2, .int x2), (3, .int zz.1)] []) → rx_W P9 l E9 (rx_rm 3 69) S9 M9 A9 B9 me9 c9 (MQ B9 (va_Qi (fun r u => y.1 = r ∧ u.2 = n ∧ bM k m y.2.1 u.1 ∧ bT k (b + 1) y.2.2 u.1 ∧ rx_fr [(m, 3), (b + 1, 2)] h u.1) (rx_B G k) (rx_A k)) A9 S9 0 0 (rx_A k)) G k 4 0 0 hh n 12 [(0, .ref m), (1, .ref b), (2, .int x2), (3, .int x3)] [] := by
          intro fu
          induction fu with
          | zero => intro zz om ot x3 hh hF b_m b_t b_B fr KK; exact absurd hF (by simp [F_L_feeds_12])
          | succ fu ih_loop5 =>
            intro zz om ot x3 hh hF b_m b_t b_B fr KK
            unfold F_L_feeds_12 at hF
            refine rx_iload_n C dL_feeds_12 3 rfl ?_
            refine rx_bipush C dL_feeds_13 (20 : Int32) (by decide) ?_
            refine rx_icmp_ge C dL_feeds_15 67 (by decide) (fun c6 => ?_) (fun c6 => ?_)
            · rw [if_pos c6] at hF
              obtain rfl := Option.some.inj hF
              refine rx_sub [0, 1, 2, 3] rfl ?_
              exact KK _ b_m b_t fr
            · rw [if_neg c6] at hF
              refine rx_aload_n C dL_feeds_18 0 rfl ?_
              refine rx_getf C f_L_13 dL_feeds_19 b_m.1 rfl ?_
              refine rx_iload_n C dL_feeds_22 3 rfl ?_
              refine rx_iconst C dL_feeds_23 (4 : Int32) (by decide) ?_
              refine rx_idiv C dL_feeds_24 (by decide) ?_
              refine rx_aload_n C dL_feeds_25 0 rfl ?_
              refine rx_getf C f_L_13 dL_feeds_26 b_m.1 rfl ?_
              refine rx_iload_n C dL_feeds_29 3 rfl ?_
              refine rx_iconst C dL_feeds_30 (4 : Int32) (by decide) ?_
              refine rx_idiv C dL_feeds_31 (by decide) ?_
              replace hF := rx_biE hF; obtain ⟨v7, e_v7, hF⟩ := hF
              refine rx_aldF C dL_feeds_32 b_m.2.2 e_v7 ?_
              refine rx_bipush C dL_feeds_33 (8 : Int32) (by decide) ?_
              refine rx_ishl C dL_feeds_35 ?_
              refine rx_iload_n C dL_feeds_36 2 rfl ?_
              refine rx_iload_n C dL_feeds_37 3 rfl ?_
              refine rx_iadd C dL_feeds_38 ?_
              refine rx_aload_n C dL_feeds_39 0 rfl ?_
              refine rx_getf C f_L_30 dL_feeds_40 b_m.1 rfl ?_
              refine rx_icmp_ge C dL_feeds_43 57 (by decide) (fun c8 => ?_) (fun c8 => ?_)
              · rw [if_pos c8] at hF
                refine rx_bipush C dL_feeds_57 (32 : Int32) (by decide) ?_
                refine rx_ior C dL_feeds_59 ?_
                replace hF := rx_biE hF; obtain ⟨f9, e_f9, hF⟩ := hF
                replace hF := rx_leE hF; obtain ⟨o_m_10, e_o_m_10, hF⟩ := hF
                refine rx_aM1 C dL_feeds_60 b_m e_f9 e_o_m_10 (fun hh c_m ff => ?_)
                replace b_m := c_m
                replace b_B := b_B.keep ff ⟨s_B_m, trivial⟩
                replace b_t := b_t.keep ff ⟨s_t_m, trivial⟩
                replace fr := rx_frt fr ff (fun a ha => ⟨ha.1, trivial⟩)
                refine rx_iinc C dL_feeds_61 3 rfl (x3 + 1) rfl (by decide) [(3, .int ((x3 + 1))), (0, .ref m), (1, .ref b), (2, .int x2)] rfl ?_
                refine rx_goto C dL_feeds_64 12 (by decide) ?_
                refine rx_sub [1, 2, 3, 0] rfl ?_
                exact ih_loop5 _ _ _ _ _ hF b_m b_t b_B fr KK
              · rw [if_neg c8] at hF
                refine rx_aload_n C dL_feeds_46 0 rfl ?_
                refine rx_getf C f_L_7 dL_feeds_47 b_m.1 rfl ?_
                refine rx_iload_n C dL_feeds_50 2 rfl ?_
                refine rx_iload_n C dL_feeds_51 3 rfl ?_
                refine rx_iadd C dL_feeds_52 ?_
                replace hF := rx_biE hF; obtain ⟨v11, e_v11, hF⟩ := hF
                refine rx_aldF C dL_feeds_53 b_m.2.1 e_v11 ?_
                refine rx_goto C dL_feeds_54 59 (by decide) ?_
                refine rx_ior C dL_feeds_59 ?_
                replace hF := rx_biE hF; obtain ⟨f12, e_f12, hF⟩ := hF
                replace hF := rx_leE hF; obtain ⟨o_m_13, e_o_m_13, hF⟩ := hF
                refine rx_aM1 C dL_feeds_60 b_m e_f12 e_o_m_13 (fun hh c_m ff => ?_)
                replace b_m := c_m
                replace b_B := b_B.keep ff ⟨s_B_m, trivial⟩
                replace b_t := b_t.keep ff ⟨s_t_m, trivial⟩
                replace fr := rx_frt fr ff (fun a ha => ⟨ha.1, trivial⟩)
                refine rx_iinc C dL_feeds_61 3 rfl (x3 + 1) rfl (by decide) [(3, .int ((x3 + 1))), (0, .ref m), (1, .ref b), (2, .int x2)] rfl ?_
                refine rx_goto C dL_feeds_64 12 (by decide) ?_
                refine rx_sub [1, 2, 3, 0] rfl ?_
                exact ih_loop5 _ _ _ _ _ hF b_m b_t b_B fr KK
        refine rx_sub [1, 2, 3, 0] rfl ?_
        replace hF := rx_biE hF; obtain ⟨zl14, e_zl14, hF⟩ := hF
        refine loop5 _ zl14 _ _ _ _ e_zl14 b_m b_t b_B fr (fun hh b_m b_t fr => ?_)
        have b_B := b0_B.keep fr ⟨s_B_m, s_B_t, trivial⟩
        refine rx_aload_n C dL_feeds_67 1 rfl ?_
        refine rx_aload_n C dL_feeds_68 0 rfl ?_
        refine rx_getf C f_L_13 dL_feeds_69 b_m.1 rfl ?_
        refine rx_iconst C dL_feeds_72 (0 : Int32) (by decide) ?_
        replace hF := rx_biE hF; obtain ⟨v15, e_v15, hF⟩ := hF
        refine rx_aldF C dL_feeds_73 b_m.2.2 e_v15 ?_
        refine rx_aload_n C dL_feeds_74 0 rfl ?_
        refine rx_getf C f_L_13 dL_feeds_75 b_m.1 rfl ?_
        refine rx_iconst C dL_feeds_78 (1 : Int32) (by decide) ?_
        replace hF := rx_biE hF; obtain ⟨v16, e_v16, hF⟩ := hF
        refine rx_aldF C dL_feeds_79 b_m.2.2 e_v16 ?_
        refine rx_aload_n C dL_feeds_80 0 rfl ?_
        refine rx_getf C f_L_13 dL_feeds_81 b_m.1 rfl ?_
        refine rx_iconst C dL_feeds_84 (2 : Int32) (by decide) ?_
        replace hF := rx_biE hF; obtain ⟨v17, e_v17, hF⟩ := hF
        refine rx_aldF C dL_feeds_85 b_m.2.2 e_v17 ?_
        refine rx_aload_n C dL_feeds_86 0 rfl ?_
        refine rx_getf C f_L_13 dL_feeds_87 b_m.1 rfl ?_
        refine rx_iconst C dL_feeds_90 (3 : Int32) (by decide) ?_
        replace hF := rx_biE hF; obtain ⟨v18, e_v18, hF⟩ := hF
        refine rx_aldF C dL_feeds_91 b_m.2.2 e_v18 ?_
        refine rx_aload_n C dL_feeds_92 0 rfl ?_
        refine rx_getf C f_L_13 dL_feeds_93 b_m.1 rfl ?_
        refine rx_iconst C dL_feeds_96 (4 : Int32) (by decide) ?_
        replace hF := rx_biE hF; obtain ⟨v19, e_v19, hF⟩ := hF
        refine rx_aldF C dL_feeds_97 b_m.2.2 e_v19 ?_
        replace hF := rx_biE hF; obtain ⟨y20, e_y20, hF⟩ := hF
        refine rx_ci (rx_rV C (w_X8_appendText e_y20 b_B b_t) Y_X8_appendText V_X8_appendText m_L_35 (Or.inl ⟨_, _, _, _, b_B, rfl⟩) ⟨⟨rfl, rfl⟩, ⟨(Nat.le_of_ble_eq_true rfl), (Nat.le_of_ble_eq_true rfl)⟩, ⟨(Nat.le_of_ble_eq_true rfl), (Nat.le_of_ble_eq_true rfl)⟩⟩ rfl rfl (Nat.le_of_ble_eq_true rfl) dL_feeds_98) (fun r hh n1 hpp => ?_)
        obtain ⟨rfl, hn, c_t, ff⟩ := hpp
        replace hn : n = n1 := Eq.symm hn
        subst hn
        replace b_t : bT k (b + 1) y20.2 hh := c_t
        clear c_t
        replace ff : rx_fr [(b + 1, 2)] _ hh := ff
        replace b_m := b_m.keep ff ⟨s_m_t, trivial⟩
        replace b_B := b_B.keep ff ⟨s_B_t, trivial⟩
        replace fr := rx_frt fr ff (fun a ha => ⟨ha.2.1, trivial⟩)
        refine rx_istore_n C dL_feeds_101 (by decide) [(3, .int y20.1), (0, .ref m), (1, .ref b), (2, .int x2)] rfl ?_
        refine rx_iinc C dL_feeds_102 3 rfl (x2 + 20) rfl (by decide) [(2, .int ((x2 + 20))), (3, .int y20.1), (0, .ref m), (1, .ref b)] rfl ?_
        refine rx_goto C dL_feeds_105 2 (by decide) ?_
        refine rx_sub [2, 3, 0] rfl ?_
        exact ih_loop2 _ _ _ _ _ hF b_m b_t b_B fr KK
  refine rx_sub [1, 2, 0] rfl ?_
  replace hF := rx_biE hF; obtain ⟨zl21, e_zl21, hF⟩ := hF
  refine loop2 _ zl21 _ _ _ _ e_zl21 b_m b_t b_B fr (fun hh b_m b_t fr => ?_)
  have b_B := b0_B.keep fr ⟨s_B_m, s_B_t, trivial⟩
  refine rx_aload_n C dL_feeds_108 0 rfl ?_
  refine rx_getf C f_L_30 dL_feeds_109 b_m.1 rfl ?_
  replace hF := rx_leE hF; obtain ⟨v22, e_v22, hF⟩ := hF
  rw [e_v22]
  refine rx_istore_n C dL_feeds_112 (by decide) [(2, .int v22), (0, .ref m), (1, .ref b)] rfl ?_
  refine rx_aload_n C dL_feeds_113 1 rfl ?_
  refine rx_iconst C dL_feeds_114 (0 : Int32) (by decide) ?_
  replace hF := rx_leE hF; obtain ⟨o_m_23, e_o_m_23, hF⟩ := hF
  refine rx_pM2 C f_L_30 dL_feeds_115 b_m e_o_m_23 (fun hh c_m ff => ?_)
  replace b_m := c_m
  replace b_B := b_B.keep ff ⟨s_B_m, trivial⟩
  replace b_t := b_t.keep ff ⟨s_t_m, trivial⟩
  replace fr := rx_frt fr ff (fun a ha => ⟨ha.1, trivial⟩)
  refine rx_iload_n C dL_feeds_118 0 rfl ?_
  obtain rfl := Option.some.inj hF
  exact rx_iret C dL_feeds_119 (Nat.le_refl _) (Nat.le_refl _) ⟨rfl, rfl, b_m, b_t, fr⟩
def F_L_loads_86 (k : Nat → Nat) (y1 : Int32) : Nat → ob → ob → ob → ob → ob → ob → ob → ob → hst → Int32 → Option (Int32 × ob × ob × ob × ob × ob × ob × ob × ob × hst)
  | 0, _, _, _, _, _, _, _, _, _, _ => none
  | fu + 1, om, oB, ot, od, os, op, ow, oe, oH, x4 => if (om.1 3) ≤ x4 then (some (x4, om, oB, ot, od, os, op, ow, oe, oH)) else ((F_L_cell k ((1 : Int32))).bind fun y13 => (rx_div y13 ((((2 : Int32) * x4) + (1 : Int32)))).bind fun v14 => rx_le ((v14 + ((7 : Int32) * x4))) fun v15 => if (v15 - v15 / (3 : Int32) * (3 : Int32)) = (0 : Int32) then ((F_L_writes om 2).bind fun y29 => if ((v15 / (4 : Int32)) - (v15 / (4 : Int32)) / (3 : Int32) * (3 : Int32)) = (0 : Int32) then ((F_L_writes y29 8).bind fun y36 => (F_L_number y36 (((v15 / (16 : Int32)) - (v15 / (16 : Int32)) / (60 : Int32) * (60 : Int32)))).bind fun y37 => (F_L_number y37 (((v15 / (64 : Int32)) - (v15 / (64 : Int32)) / (41 : Int32) * (41 : Int32)))).bind fun y38 => (F_L_number y38 (((v15 / (256 : Int32)) - (v15 / (256 : Int32)) / (51 : Int32) * (51 : Int32)))).bind fun y39 => (F_L_writes y39 7).bind fun y40 => F_L_loads_86 k y1 fu y40 oB ot od os op ow oe oH ((x4 + 1))) else ((F_L_writes y29 9).bind fun y31 => (F_L_number y31 (((v15 / (16 : Int32)) - (v15 / (16 : Int32)) / (60 : Int32) * (60 : Int32)))).bind fun y32 => (F_L_number y32 (((v15 / (64 : Int32)) - (v15 / (64 : Int32)) / (41 : Int32) * (41 : Int32)))).bind fun y33 => (F_L_number y33 (((v15 / (256 : Int32)) - (v15 / (256 : Int32)) / (51 : Int32) * (51 : Int32)))).bind fun y34 => (F_L_writes y34 7).bind fun y35 => F_L_loads_86 k y1 fu y35 oB ot od os op ow oe oH ((x4 + 1)))) else ((F_L_writes om 3).bind fun y17 => if ((v15 / (4 : Int32)) - (v15 / (4 : Int32)) / (3 : Int32) * (3 : Int32)) = (0 : Int32) then ((F_L_writes y17 8).bind fun y24 => (F_L_number y24 (((v15 / (16 : Int32)) - (v15 / (16 : Int32)) / (60 : Int32) * (60 : Int32)))).bind fun y25 => (F_L_number y25 (((v15 / (64 : Int32)) - (v15 / (64 : Int32)) / (41 : Int32) * (41 : Int32)))).bind fun y26 => (F_L_number y26 (((v15 / (256 : Int32)) - (v15 / (256 : Int32)) / (51 : Int32) * (51 : Int32)))).bind fun y27 => (F_L_writes y27 7).bind fun y28 => F_L_loads_86 k y1 fu y28 oB ot od os op ow oe oH ((x4 + 1))) else ((F_L_writes y17 9).bind fun y19 => (F_L_number y19 (((v15 / (16 : Int32)) - (v15 / (16 : Int32)) / (60 : Int32) * (60 : Int32)))).bind fun y20 => (F_L_number y20 (((v15 / (64 : Int32)) - (v15 / (64 : Int32)) / (41 : Int32) * (41 : Int32)))).bind fun y21 => (F_L_number y21 (((v15 / (256 : Int32)) - (v15 / (256 : Int32)) / (51 : Int32) * (51 : Int32)))).bind fun y22 => (F_L_writes y22 7).bind fun y23 => F_L_loads_86 k y1 fu y23 oB ot od os op ow oe oH ((x4 + 1)))))
def F_L_loads_205 (k : Nat → Nat) (y1 : Int32) : Nat → ob → ob → ob → ob → ob → ob → ob → ob → hst → Int32 → Option (Int32 × ob × ob × ob × ob × ob × ob × ob × ob × hst)
  | 0, _, _, _, _, _, _, _, _, _, _ => none
  | fu + 1, om, oB, ot, od, os, op, ow, oe, oH, x4 => if (om.1 4) ≤ x4 then (some (x4, om, oB, ot, od, os, op, ow, oe, oH)) else ((F_L_cell k ((2 : Int32))).bind fun y45 => (rx_div y45 ((x4 + (1 : Int32)))).bind fun v46 => rx_le (((1 : Int32) + (v46 - v46 / (3 : Int32) * (3 : Int32)))) fun v47 => (F_L_writes om 6).bind fun y48 => (F_L_number y48 v47).bind fun y49 => (rx_rem ((v46 / (4 : Int32))) v47).bind fun v50 => (F_L_number y49 v50).bind fun y51 => (F_L_number y51 (((1 : Int32) + ((v46 / (16 : Int32)) - (v46 / (16 : Int32)) / (3 : Int32) * (3 : Int32))))).bind fun y52 => (F_L_writes y52 7).bind fun y53 => F_L_loads_205 k y1 fu y53 oB ot od os op ow oe oH ((x4 + 1)))
def F_L_loads (k : Nat → Nat) (om : ob) (oB : ob) (ot : ob) (od : ob) (os : ob) (op : ob) (ow : ob) (oe : ob) (oH : hst) : Option (Int32 × ob × ob × ob × ob × ob × ob × ob × ob × hst) := (F_L_cell k ((0 : Int32))).bind fun y1 => rx_le (upd om.1 3 (((3 : Int32) + (y1 - y1 / (4 : Int32) * (4 : Int32)))), om.2) fun o_m_2 => rx_le (upd o_m_2.1 4 (((1 : Int32) + ((y1 / (4 : Int32)) - (y1 / (4 : Int32)) / (2 : Int32) * (2 : Int32)))), o_m_2.2) fun o_m_3 => (F_L_writes o_m_3 1).bind fun y4 => (F_L_number y4 (((y1 / (16 : Int32)) - (y1 / (16 : Int32)) / (91 : Int32) * (91 : Int32)))).bind fun y5 => (F_L_number y5 (((y1 / (2048 : Int32)) - (y1 / (2048 : Int32)) / (10 : Int32) * (10 : Int32)))).bind fun y6 => (F_L_number y6 (((y1 / (32768 : Int32)) - (y1 / (32768 : Int32)) / (13 : Int32) * (13 : Int32)))).bind fun y7 => (F_L_number y7 (((y1 / (524288 : Int32)) - (y1 / (524288 : Int32)) / (7 : Int32) * (7 : Int32)))).bind fun y8 => (F_L_writes y8 7).bind fun y9 => (F_L_loads_86 k y1 100000 y9 oB ot od os op ow oe oH ((0 : Int32))).bind fun zl41 => (F_L_loads_205 k y1 100000 zl41.2.1 zl41.2.2.1 zl41.2.2.2.1 zl41.2.2.2.2.1 zl41.2.2.2.2.2.1 zl41.2.2.2.2.2.2.1 zl41.2.2.2.2.2.2.2.1 zl41.2.2.2.2.2.2.2.2.1 zl41.2.2.2.2.2.2.2.2.2 ((0 : Int32))).bind fun zl54 => (F_L_feeds zl54.2.1 zl54.2.2.1 zl54.2.2.2.1).bind fun y55 => (F_X8_loadGame zl54.2.2.1 y55.2.2 zl54.2.2.2.2.1 zl54.2.2.2.2.2.1 zl54.2.2.2.2.2.2.1 zl54.2.2.2.2.2.2.2.1 zl54.2.2.2.2.2.2.2.2.1 zl54.2.2.2.2.2.2.2.2.2 y55.1).bind fun y56 => if y56.1 = (y55.2.1.1 3) then ((F_X8_errorCode y56.2.1 y56.2.2.1).bind fun y58 => if y58 = (0 : Int32) then ((F_X8_errorOffset y56.2.1 y56.2.2.1).bind fun y60 => if y60 = (-1 : Int32) then ((F_X8_turn y56.2.1 y56.2.2.2.2.2.1).bind fun y62 => if y62 = (0 : Int32) then ((F_X8_tollBox y56.2.1 y56.2.2.2.2.2.1).bind fun y64 => if y64 = (0 : Int32) then (some ((1 : Int32), y55.2.1, y56.2.1, y56.2.2.1, y56.2.2.2.1, y56.2.2.2.2.1, y56.2.2.2.2.2.1, y56.2.2.2.2.2.2.1, y56.2.2.2.2.2.2.2.1, y56.2.2.2.2.2.2.2.2)) else (some ((0 : Int32), y55.2.1, y56.2.1, y56.2.2.1, y56.2.2.2.1, y56.2.2.2.2.1, y56.2.2.2.2.2.1, y56.2.2.2.2.2.2.1, y56.2.2.2.2.2.2.2.1, y56.2.2.2.2.2.2.2.2))) else (some ((0 : Int32), y55.2.1, y56.2.1, y56.2.2.1, y56.2.2.2.1, y56.2.2.2.2.1, y56.2.2.2.2.2.1, y56.2.2.2.2.2.2.1, y56.2.2.2.2.2.2.2.1, y56.2.2.2.2.2.2.2.2))) else (some ((0 : Int32), y55.2.1, y56.2.1, y56.2.2.1, y56.2.2.2.1, y56.2.2.2.2.1, y56.2.2.2.2.2.1, y56.2.2.2.2.2.2.1, y56.2.2.2.2.2.2.2.1, y56.2.2.2.2.2.2.2.2))) else (some ((0 : Int32), y55.2.1, y56.2.1, y56.2.2.1, y56.2.2.2.1, y56.2.2.2.2.1, y56.2.2.2.2.2.1, y56.2.2.2.2.2.2.1, y56.2.2.2.2.2.2.2.1, y56.2.2.2.2.2.2.2.2))) else (some ((0 : Int32), y55.2.1, y56.2.1, y56.2.2.1, y56.2.2.2.1, y56.2.2.2.2.1, y56.2.2.2.2.2.1, y56.2.2.2.2.2.2.1, y56.2.2.2.2.2.2.2.1, y56.2.2.2.2.2.2.2.2))
set_option maxRecDepth 100000 in
set_option maxHeartbeats 4000000 in
theorem w_L_loads {m b : Nat} {om : ob} {oB : ob} {ot : ob} {od : ob} {os : ob} {op : ob} {ow : ob} {oe : ob} {oH : hst} {y : Int32 × ob × ob × ob × ob × ob × ob × ob × ob × hst} (hF : F_L_loads k om oB ot od os op ow oe oH = some y) (b_m : bM k m om h) (b_B : bB k b oB h) (b_t : bT k (b + 1) ot h) (b_d : bS k (b + 3) od h) (b_s : bS k (b + 12) os h) (b_p : bP k (b + 21) (b + 12) op h) (b_w : bQ k (b + 21 + 10) ow h) (b_e : bQ k (b + 21 + 13) oe h) (b_H : bHH k (b + 69) (b + 12) oH h) (hd0 : m + 3 ≤ b ∨ b + 204 ≤ m) : Met l yL_loads (rx_ws yL_loads cL_loads 7 (some .boolean)) (rx_rm 9 199) (va_Pc [.ref m, .ref b, .ref (k 7)] (rx_G G k h n)) (va_Qi (fun r u => y.1 = r ∧ (y.1 = 0 ∨ y.1 = 1) ∧ u.2 = n ∧ bM k m y.2.1 u.1 ∧ bB k b y.2.2.1 u.1 ∧ bT k (b + 1) y.2.2.2.1 u.1 ∧ bS k (b + 3) y.2.2.2.2.1 u.1 ∧ bS k (b + 12) y.2.2.2.2.2.1 u.1 ∧ bP k (b + 21) (b + 12) y.2.2.2.2.2.2.1 u.1 ∧ bQ k (b + 21 + 10) y.2.2.2.2.2.2.2.1 u.1 ∧ bQ k (b + 21 + 13) y.2.2.2.2.2.2.2.2.1 u.1 ∧ bHH k (b + 69) (b + 12) y.2.2.2.2.2.2.2.2.2 u.1 ∧ rx_fr [(m, 3), (b, 1), (b + 1, 2), (b + 3, 9), (b + 12, 9), (b + 21, 10), (b + 21 + 10, 3), (b + 21 + 13, 3), (b + 69, 130)] h u.1) (rx_B G k) (rx_A k)) 0 0 (rx_A k) := by
  have s_B_m : b + 1 ≤ m ∨ m + 3 ≤ b := by omega
  have s_t_m : b + 1 + 2 ≤ m ∨ m + 3 ≤ b + 1 := by omega
  have s_d_m : b + 3 + 9 ≤ m ∨ m + 3 ≤ b + 3 := by omega
  have s_s_m : b + 12 + 9 ≤ m ∨ m + 3 ≤ b + 12 := by omega
  have s_p_m : b + 21 + 10 ≤ m ∨ m + 3 ≤ b + 21 := by omega
  have s_w_m : b + 21 + 10 + 3 ≤ m ∨ m + 3 ≤ b + 21 + 10 := by omega
  have s_e_m : b + 21 + 13 + 3 ≤ m ∨ m + 3 ≤ b + 21 + 13 := by omega
  have s_H_m : b + 69 + 130 ≤ m ∨ m + 3 ≤ b + 69 := by omega
  have s_B_t : b + 1 ≤ b + 1 ∨ b + 1 + 2 ≤ b := by omega
  have s_d_t : b + 3 + 9 ≤ b + 1 ∨ b + 1 + 2 ≤ b + 3 := by omega
  have s_s_t : b + 12 + 9 ≤ b + 1 ∨ b + 1 + 2 ≤ b + 12 := by omega
  have s_p_t : b + 21 + 10 ≤ b + 1 ∨ b + 1 + 2 ≤ b + 21 := by omega
  have s_w_t : b + 21 + 10 + 3 ≤ b + 1 ∨ b + 1 + 2 ≤ b + 21 + 10 := by omega
  have s_e_t : b + 21 + 13 + 3 ≤ b + 1 ∨ b + 1 + 2 ≤ b + 21 + 13 := by omega
  have s_H_t : b + 69 + 130 ≤ b + 1 ∨ b + 1 + 2 ≤ b + 69 := by omega
  have s_m_B : m + 3 ≤ b ∨ b + 1 ≤ m := by omega
  have s_m_t : m + 3 ≤ b + 1 ∨ b + 1 + 2 ≤ m := by omega
  have s_m_d : m + 3 ≤ b + 3 ∨ b + 3 + 9 ≤ m := by omega
  have s_m_s : m + 3 ≤ b + 12 ∨ b + 12 + 9 ≤ m := by omega
  have s_m_p : m + 3 ≤ b + 21 ∨ b + 21 + 10 ≤ m := by omega
  have s_m_w : m + 3 ≤ b + 21 + 10 ∨ b + 21 + 10 + 3 ≤ m := by omega
  have s_m_e : m + 3 ≤ b + 21 + 13 ∨ b + 21 + 13 + 3 ≤ m := by omega
  have s_m_H : m + 3 ≤ b + 69 ∨ b + 69 + 130 ≤ m := by omega
  refine rx_start [(0, .ref m), (1, .ref b), (2, .ref (k 7))] rfl (Nat.le_of_ble_eq_true rfl) (by decide) rfl (fun P9 E9 S9 M9 A9 B9 me9 c9 C hname => ?_)
  unfold F_L_loads at hF
  have fr : rx_fr [(m, 3), (b, 1), (b + 1, 2), (b + 3, 9), (b + 12, 9), (b + 21, 10), (b + 21 + 10, 3), (b + 21 + 13, 3), (b + 69, 130)] h h := rx_fr0
  refine rx_aload_n C dL_loads_0 2 rfl ?_
  refine rx_iconst C dL_loads_1 (0 : Int32) (by decide) ?_
  replace hF := rx_biE hF; obtain ⟨y1, e_y1, hF⟩ := hF
  refine rx_ci (rx_rS C (w_L_cell e_y1 ) Y_L_cell S_L_cell m_L_41 ⟨⟨rfl, rfl⟩, ⟨(Nat.le_of_ble_eq_true rfl), (Nat.le_of_ble_eq_true rfl)⟩, ⟨(Nat.le_of_ble_eq_true rfl), (Nat.le_of_ble_eq_true rfl)⟩⟩ rfl rfl (Nat.le_of_ble_eq_true rfl) dL_loads_2) (fun r hh n1 hpp => ?_)
  obtain ⟨rfl, hu⟩ := hpp
  cases hu
  refine rx_istore_n C dL_loads_5 (by decide) [(3, .int y1), (0, .ref m), (1, .ref b), (2, .ref (k 7))] rfl ?_
  refine rx_aload_n C dL_loads_6 1 rfl ?_
  refine rx_iconst C dL_loads_7 (3 : Int32) (by decide) ?_
  refine rx_iload_n C dL_loads_8 0 rfl ?_
  refine rx_iconst C dL_loads_9 (4 : Int32) (by decide) ?_
  refine rx_irem C dL_loads_10 (by decide) ?_
  refine rx_iadd C dL_loads_11 ?_
  replace hF := rx_leE hF; obtain ⟨o_m_2, e_o_m_2, hF⟩ := hF
  refine rx_pM3 C f_L_45 dL_loads_12 b_m e_o_m_2 (fun hh c_m ff => ?_)
  replace b_m := c_m
  replace b_B := b_B.keep ff ⟨s_B_m, trivial⟩
  replace b_t := b_t.keep ff ⟨s_t_m, trivial⟩
  replace b_d := b_d.keep ff ⟨s_d_m, trivial⟩
  replace b_s := b_s.keep ff ⟨s_s_m, trivial⟩
  replace b_p := b_p.keep ff ⟨s_p_m, trivial⟩
  replace b_w := b_w.keep ff ⟨s_w_m, trivial⟩
  replace b_e := b_e.keep ff ⟨s_e_m, trivial⟩
  replace b_H := b_H.keep ff ⟨s_H_m, trivial⟩
  replace fr := rx_frt fr ff (fun a ha => ⟨ha.1, trivial⟩)
  refine rx_aload_n C dL_loads_15 1 rfl ?_
  refine rx_iconst C dL_loads_16 (1 : Int32) (by decide) ?_
  refine rx_iload_n C dL_loads_17 0 rfl ?_
  refine rx_iconst C dL_loads_18 (4 : Int32) (by decide) ?_
  refine rx_idiv C dL_loads_19 (by decide) ?_
  refine rx_iconst C dL_loads_20 (2 : Int32) (by decide) ?_
  refine rx_irem C dL_loads_21 (by decide) ?_
  refine rx_iadd C dL_loads_22 ?_
  replace hF := rx_leE hF; obtain ⟨o_m_3, e_o_m_3, hF⟩ := hF
  refine rx_pM4 C f_L_48 dL_loads_23 b_m e_o_m_3 (fun hh c_m ff => ?_)
  replace b_m := c_m
  replace b_B := b_B.keep ff ⟨s_B_m, trivial⟩
  replace b_t := b_t.keep ff ⟨s_t_m, trivial⟩
  replace b_d := b_d.keep ff ⟨s_d_m, trivial⟩
  replace b_s := b_s.keep ff ⟨s_s_m, trivial⟩
  replace b_p := b_p.keep ff ⟨s_p_m, trivial⟩
  replace b_w := b_w.keep ff ⟨s_w_m, trivial⟩
  replace b_e := b_e.keep ff ⟨s_e_m, trivial⟩
  replace b_H := b_H.keep ff ⟨s_H_m, trivial⟩
  replace fr := rx_frt fr ff (fun a ha => ⟨ha.1, trivial⟩)
  refine rx_aload_n C dL_loads_26 1 rfl ?_
  refine rx_ldcS (t := 1) C (List.mem_of_getElem? (i := 0) rfl) dL_loads_27 ?_
  replace hF := rx_biE hF; obtain ⟨y4, e_y4, hF⟩ := hF
  refine rx_cv (rx_rV C (w_L_writes e_y4 b_m (by decide)) Y_L_writes V_L_writes m_L_53 (Or.inl ⟨_, _, _, _, b_m.1, rfl⟩) ⟨⟨rfl, rfl⟩, ⟨(Nat.le_of_ble_eq_true rfl), (Nat.le_of_ble_eq_true rfl)⟩, ⟨(Nat.le_of_ble_eq_true rfl), (Nat.le_of_ble_eq_true rfl)⟩⟩ rfl rfl (Nat.le_of_ble_eq_true rfl) dL_loads_29) (fun hh n1 hpp => ?_)
  obtain ⟨hn, c_m, ff⟩ := hpp
  replace hn : n = n1 := Eq.symm hn
  subst hn
  replace b_m : bM k m y4 hh := c_m
  clear c_m
  replace ff : rx_fr [(m, 3)] _ hh := ff
  replace b_B := b_B.keep ff ⟨s_B_m, trivial⟩
  replace b_t := b_t.keep ff ⟨s_t_m, trivial⟩
  replace b_d := b_d.keep ff ⟨s_d_m, trivial⟩
  replace b_s := b_s.keep ff ⟨s_s_m, trivial⟩
  replace b_p := b_p.keep ff ⟨s_p_m, trivial⟩
  replace b_w := b_w.keep ff ⟨s_w_m, trivial⟩
  replace b_e := b_e.keep ff ⟨s_e_m, trivial⟩
  replace b_H := b_H.keep ff ⟨s_H_m, trivial⟩
  replace fr := rx_frt fr ff (fun a ha => ⟨ha.1, trivial⟩)
  refine rx_aload_n C dL_loads_32 1 rfl ?_
  refine rx_iload_n C dL_loads_33 0 rfl ?_
  refine rx_bipush C dL_loads_34 (16 : Int32) (by decide) ?_
  refine rx_idiv C dL_loads_36 (by decide) ?_
  refine rx_bipush C dL_loads_37 (91 : Int32) (by decide) ?_
  refine rx_irem C dL_loads_39 (by decide) ?_
  replace hF := rx_biE hF; obtain ⟨y5, e_y5, hF⟩ := hF
  refine rx_cv (rx_rV C (w_L_number e_y5 b_m) Y_L_number V_L_number m_L_57 (Or.inl ⟨_, _, _, _, b_m.1, rfl⟩) ⟨⟨rfl, rfl⟩, ⟨(Nat.le_of_ble_eq_true rfl), (Nat.le_of_ble_eq_true rfl)⟩, ⟨(Nat.le_of_ble_eq_true rfl), (Nat.le_of_ble_eq_true rfl)⟩⟩ rfl rfl (Nat.le_of_ble_eq_true rfl) dL_loads_40) (fun hh n1 hpp => ?_)
  obtain ⟨hn, c_m, ff⟩ := hpp
  replace hn : n = n1 := Eq.symm hn
  subst hn
  replace b_m : bM k m y5 hh := c_m
  clear c_m
  replace ff : rx_fr [(m, 3)] _ hh := ff
  replace b_B := b_B.keep ff ⟨s_B_m, trivial⟩
  replace b_t := b_t.keep ff ⟨s_t_m, trivial⟩
  replace b_d := b_d.keep ff ⟨s_d_m, trivial⟩
  replace b_s := b_s.keep ff ⟨s_s_m, trivial⟩
  replace b_p := b_p.keep ff ⟨s_p_m, trivial⟩
  replace b_w := b_w.keep ff ⟨s_w_m, trivial⟩
  replace b_e := b_e.keep ff ⟨s_e_m, trivial⟩
  replace b_H := b_H.keep ff ⟨s_H_m, trivial⟩
  replace fr := rx_frt fr ff (fun a ha => ⟨ha.1, trivial⟩)
  refine rx_aload_n C dL_loads_43 1 rfl ?_
  refine rx_iload_n C dL_loads_44 0 rfl ?_
  refine rx_sipush C dL_loads_45 (2048 : Int32) (by decide) ?_
  refine rx_idiv C dL_loads_48 (by decide) ?_
  refine rx_bipush C dL_loads_49 (10 : Int32) (by decide) ?_
  refine rx_irem C dL_loads_51 (by decide) ?_
  replace hF := rx_biE hF; obtain ⟨y6, e_y6, hF⟩ := hF
  refine rx_cv (rx_rV C (w_L_number e_y6 b_m) Y_L_number V_L_number m_L_57 (Or.inl ⟨_, _, _, _, b_m.1, rfl⟩) ⟨⟨rfl, rfl⟩, ⟨(Nat.le_of_ble_eq_true rfl), (Nat.le_of_ble_eq_true rfl)⟩, ⟨(Nat.le_of_ble_eq_true rfl), (Nat.le_of_ble_eq_true rfl)⟩⟩ rfl rfl (Nat.le_of_ble_eq_true rfl) dL_loads_52) (fun hh n1 hpp => ?_)
  obtain ⟨hn, c_m, ff⟩ := hpp
  replace hn : n = n1 := Eq.symm hn
  subst hn
  replace b_m : bM k m y6 hh := c_m
  clear c_m
  replace ff : rx_fr [(m, 3)] _ hh := ff
  replace b_B := b_B.keep ff ⟨s_B_m, trivial⟩
  replace b_t := b_t.keep ff ⟨s_t_m, trivial⟩
  replace b_d := b_d.keep ff ⟨s_d_m, trivial⟩
  replace b_s := b_s.keep ff ⟨s_s_m, trivial⟩
  replace b_p := b_p.keep ff ⟨s_p_m, trivial⟩
  replace b_w := b_w.keep ff ⟨s_w_m, trivial⟩
  replace b_e := b_e.keep ff ⟨s_e_m, trivial⟩
  replace b_H := b_H.keep ff ⟨s_H_m, trivial⟩
  replace fr := rx_frt fr ff (fun a ha => ⟨ha.1, trivial⟩)
  refine rx_aload_n C dL_loads_55 1 rfl ?_
  refine rx_iload_n C dL_loads_56 0 rfl ?_
  refine rx_ldcw C lk_L_60 dL_loads_57 ?_
  refine rx_idiv C dL_loads_59 (by decide) ?_
  refine rx_bipush C dL_loads_60 (13 : Int32) (by decide) ?_
  refine rx_irem C dL_loads_62 (by decide) ?_
  replace hF := rx_biE hF; obtain ⟨y7, e_y7, hF⟩ := hF
  refine rx_cv (rx_rV C (w_L_number e_y7 b_m) Y_L_number V_L_number m_L_57 (Or.inl ⟨_, _, _, _, b_m.1, rfl⟩) ⟨⟨rfl, rfl⟩, ⟨(Nat.le_of_ble_eq_true rfl), (Nat.le_of_ble_eq_true rfl)⟩, ⟨(Nat.le_of_ble_eq_true rfl), (Nat.le_of_ble_eq_true rfl)⟩⟩ rfl rfl (Nat.le_of_ble_eq_true rfl) dL_loads_63) (fun hh n1 hpp => ?_)
  obtain ⟨hn, c_m, ff⟩ := hpp
  replace hn : n = n1 := Eq.symm hn
  subst hn
  replace b_m : bM k m y7 hh := c_m
  clear c_m
  replace ff : rx_fr [(m, 3)] _ hh := ff
  replace b_B := b_B.keep ff ⟨s_B_m, trivial⟩
  replace b_t := b_t.keep ff ⟨s_t_m, trivial⟩
  replace b_d := b_d.keep ff ⟨s_d_m, trivial⟩
  replace b_s := b_s.keep ff ⟨s_s_m, trivial⟩
  replace b_p := b_p.keep ff ⟨s_p_m, trivial⟩
  replace b_w := b_w.keep ff ⟨s_w_m, trivial⟩
  replace b_e := b_e.keep ff ⟨s_e_m, trivial⟩
  replace b_H := b_H.keep ff ⟨s_H_m, trivial⟩
  replace fr := rx_frt fr ff (fun a ha => ⟨ha.1, trivial⟩)
  refine rx_aload_n C dL_loads_66 1 rfl ?_
  refine rx_iload_n C dL_loads_67 0 rfl ?_
  refine rx_ldcw C lk_L_61 dL_loads_68 ?_
  refine rx_idiv C dL_loads_70 (by decide) ?_
  refine rx_bipush C dL_loads_71 (7 : Int32) (by decide) ?_
  refine rx_irem C dL_loads_73 (by decide) ?_
  replace hF := rx_biE hF; obtain ⟨y8, e_y8, hF⟩ := hF
  refine rx_cv (rx_rV C (w_L_number e_y8 b_m) Y_L_number V_L_number m_L_57 (Or.inl ⟨_, _, _, _, b_m.1, rfl⟩) ⟨⟨rfl, rfl⟩, ⟨(Nat.le_of_ble_eq_true rfl), (Nat.le_of_ble_eq_true rfl)⟩, ⟨(Nat.le_of_ble_eq_true rfl), (Nat.le_of_ble_eq_true rfl)⟩⟩ rfl rfl (Nat.le_of_ble_eq_true rfl) dL_loads_74) (fun hh n1 hpp => ?_)
  obtain ⟨hn, c_m, ff⟩ := hpp
  replace hn : n = n1 := Eq.symm hn
  subst hn
  replace b_m : bM k m y8 hh := c_m
  clear c_m
  replace ff : rx_fr [(m, 3)] _ hh := ff
  replace b_B := b_B.keep ff ⟨s_B_m, trivial⟩
  replace b_t := b_t.keep ff ⟨s_t_m, trivial⟩
  replace b_d := b_d.keep ff ⟨s_d_m, trivial⟩
  replace b_s := b_s.keep ff ⟨s_s_m, trivial⟩
  replace b_p := b_p.keep ff ⟨s_p_m, trivial⟩
  replace b_w := b_w.keep ff ⟨s_w_m, trivial⟩
  replace b_e := b_e.keep ff ⟨s_e_m, trivial⟩
  replace b_H := b_H.keep ff ⟨s_H_m, trivial⟩
  replace fr := rx_frt fr ff (fun a ha => ⟨ha.1, trivial⟩)
  refine rx_aload_n C dL_loads_77 1 rfl ?_
  refine rx_ldcS (t := 7) C (List.mem_of_getElem? (i := 1) rfl) dL_loads_78 ?_
  replace hF := rx_biE hF; obtain ⟨y9, e_y9, hF⟩ := hF
  refine rx_cv (rx_rV C (w_L_writes e_y9 b_m (by decide)) Y_L_writes V_L_writes m_L_53 (Or.inl ⟨_, _, _, _, b_m.1, rfl⟩) ⟨⟨rfl, rfl⟩, ⟨(Nat.le_of_ble_eq_true rfl), (Nat.le_of_ble_eq_true rfl)⟩, ⟨(Nat.le_of_ble_eq_true rfl), (Nat.le_of_ble_eq_true rfl)⟩⟩ rfl rfl (Nat.le_of_ble_eq_true rfl) dL_loads_80) (fun hh n1 hpp => ?_)
  obtain ⟨hn, c_m, ff⟩ := hpp
  replace hn : n = n1 := Eq.symm hn
  subst hn
  replace b_m : bM k m y9 hh := c_m
  clear c_m
  replace ff : rx_fr [(m, 3)] _ hh := ff
  replace b_B := b_B.keep ff ⟨s_B_m, trivial⟩
  replace b_t := b_t.keep ff ⟨s_t_m, trivial⟩
  replace b_d := b_d.keep ff ⟨s_d_m, trivial⟩
  replace b_s := b_s.keep ff ⟨s_s_m, trivial⟩
  replace b_p := b_p.keep ff ⟨s_p_m, trivial⟩
  replace b_w := b_w.keep ff ⟨s_w_m, trivial⟩
  replace b_e := b_e.keep ff ⟨s_e_m, trivial⟩
  replace b_H := b_H.keep ff ⟨s_H_m, trivial⟩
  replace fr := rx_frt fr ff (fun a ha => ⟨ha.1, trivial⟩)
  refine rx_iconst C dL_loads_83 (0 : Int32) (by decide) ?_
  refine rx_istore C dL_loads_84 (by decide) [(4, .int ((0 : Int32))), (3, .int y1), (0, .ref m), (1, .ref b), (2, .ref (k 7))] rfl ?_
  have loop11 : ∀ (fu : Nat) (zz : Int32 × ob × ob × ob × ob × ob × ob × ob × ob × hst) (om : ob) (oB : ob) (ot : ob) (od : ob) (os : ob) (op : ob) (ow : ob) (oe : ob) (oH : hst) (x4 : Int32) (hh : hp), F_L_loads_86 k y1 fu om oB ot od os op ow oe oH x4 = some zz → bM k m om hh → bB k b oB hh → bT k (b + 1) ot hh → bS k (b + 3) od hh → bS k (b + 12) os hh → bP k (b + 21) (b + 12) op hh → bQ k (b + 21 + 10) ow hh → bQ k (b + 21 + 13) oe hh → bHH k (b + 69) (b + 12) oH hh → rx_fr [(m, 3), (b, 1), (b + 1, 2), (b + 3, 9), (b + 12, 9), (b + 21, 10), (b + 21 + 10, 3), (b + 21 + 13, 3), (b + 69, 130)] h hh → (∀ hh : hp, bM k m zz.2.1 hh → bB k b zz.2.2.1 hh → bT k (b + 1) zz.2.2.2.1 hh → bS k (b + 3) zz.2.2.2.2.1 hh → bS k (b + 12) zz.2.2.2.2.2.1 hh → bP k (b + 21) (b + 12) zz.2.2.2.2.2.2.1 hh → bQ k (b + 21 + 10) zz.2.2.2.2.2.2.2.1 hh → bQ k (b + 21 + 13) zz.2.2.2.2.2.2.2.2.1 hh → bHH k (b + 69) (b + 12) zz.2.2.2.2.2.2.2.2.2 hh → rx_fr [(m, 3), (b, 1), (b + 1, 2), (b + 3, 9), (b + 12, 9), (b + 21, 10), (b + 21 + 10, 3), (b + 21 + 13, 3), (b + 69, 130)] h hh → rx_W P9 l E9 (rx_rm 9 199) S9 M9 A9 B9 me9 c9 (MQ B9 (va_Qi (fun r u => y.1 = r ∧ (y.1 = 0 ∨ y.1 = 1) ∧ u.2 = n ∧ bM k m y.2.1 u.1 ∧ bB k b y.2.2.1 u.1 ∧ bT k (b + 1) y.2.2.2.1 u.1 ∧ bS k (b + 3) y.2.2.2.2.1 u.1 ∧ bS k (b + 12) y.2.2.2.2.2.1 u.1 ∧ bP k (b + 21) (b + 12) y.2.2.2.2.2.2.1 u.1 ∧ bQ k (b + 21 + 10) y.2.2.2.2.2.2.2.1 u.1 ∧ bQ k (b + 21 + 13) y.2.2.2.2.2.2.2.2.1 u.1 ∧ bHH k (b + 69) (b + 12) y.2.2.2.2.2.2.2.2.2 u.1 ∧ rx_fr [(m, 3), (b, 1), (b + 1, 2), (b + 3, 9), (b + 12, 9), (b + 21, 10), (b + 21 + 10, 3), (b + 21 + 13, 3), (b + 69, 130)] h u.1) (rx_B G k) (rx_A k)) A9 S9 0 0 (rx_A k)) G k 7 0 0 hh n 202 [(0, .ref m), (1, .ref b), (2, .ref (k 7)), (3, .int y1), (4, .int zz.1)] []) → rx_W P9 l E9 (rx_rm 9 199) S9 M9 A9 B9 me9 c9 (MQ B9 (va_Qi (fun r u => y.1 = r ∧ (y.1 = 0 ∨ y.1 = 1) ∧ u.2 = n ∧ bM k m y.2.1 u.1 ∧ bB k b y.2.2.1 u.1 ∧ bT k (b + 1) y.2.2.2.1 u.1 ∧ bS k (b + 3) y.2.2.2.2.1 u.1 ∧ bS k (b + 12) y.2.2.2.2.2.1 u.1 ∧ bP k (b + 21) (b + 12) y.2.2.2.2.2.2.1 u.1 ∧ bQ k (b + 21 + 10) y.2.2.2.2.2.2.2.1 u.1 ∧ bQ k (b + 21 + 13) y.2.2.2.2.2.2.2.2.1 u.1 ∧ bHH k (b + 69) (b + 12) y.2.2.2.2.2.2.2.2.2 u.1 ∧ rx_fr [(m, 3), (b, 1), (b + 1, 2), (b + 3, 9), (b + 12, 9), (b + 21, 10), (b + 21 + 10, 3), (b + 21 + 13, 3), (b + 69, 130)] h u.1) (rx_B G k) (rx_A k)) A9 S9 0 0 (rx_A k)) G k 7 0 0 hh n 86 [(0, .ref m), (1, .ref b), (2, .ref (k 7)), (3, .int y1), (4, .int x4)] [] := by
    intro fu
    induction fu with
    | zero => intro zz om oB ot od os op ow oe oH x4 hh hF b_m b_B b_t b_d b_s b_p b_w b_e b_H fr KK; exact absurd hF (by simp [F_L_loads_86])
    | succ fu ih_loop11 =>
      intro zz om oB ot od os op ow oe oH x4 hh hF b_m b_B b_t b_d b_s b_p b_w b_e b_H fr KK
      unfold F_L_loads_86 at hF
      refine rx_iload C dL_loads_86 4 rfl ?_
      refine rx_aload_n C dL_loads_88 0 rfl ?_
      refine rx_getf C f_L_45 dL_loads_89 b_m.1 rfl ?_
      refine rx_icmp_ge C dL_loads_92 202 (by decide) (fun c12 => ?_) (fun c12 => ?_)
      · rw [if_pos c12] at hF
        obtain rfl := Option.some.inj hF
        refine rx_sub [0, 1, 2, 3, 4] rfl ?_
        exact KK _ b_m b_B b_t b_d b_s b_p b_w b_e b_H fr
      · rw [if_neg c12] at hF
        refine rx_aload_n C dL_loads_95 2 rfl ?_
        refine rx_iconst C dL_loads_96 (1 : Int32) (by decide) ?_
        replace hF := rx_biE hF; obtain ⟨y13, e_y13, hF⟩ := hF
        refine rx_ci (rx_rS C (w_L_cell e_y13 ) Y_L_cell S_L_cell m_L_41 ⟨⟨rfl, rfl⟩, ⟨(Nat.le_of_ble_eq_true rfl), (Nat.le_of_ble_eq_true rfl)⟩, ⟨(Nat.le_of_ble_eq_true rfl), (Nat.le_of_ble_eq_true rfl)⟩⟩ rfl rfl (Nat.le_of_ble_eq_true rfl) dL_loads_97) (fun r hh n1 hpp => ?_)
        obtain ⟨rfl, hu⟩ := hpp
        cases hu
        refine rx_iconst C dL_loads_100 (2 : Int32) (by decide) ?_
        refine rx_iload C dL_loads_101 4 rfl ?_
        refine rx_imul C dL_loads_103 ?_
        refine rx_iconst C dL_loads_104 (1 : Int32) (by decide) ?_
        refine rx_iadd C dL_loads_105 ?_
        replace hF := rx_biE hF; obtain ⟨v14, e_v14, hF⟩ := hF
        refine rx_idivF C dL_loads_106 e_v14 ?_
        refine rx_bipush C dL_loads_107 (7 : Int32) (by decide) ?_
        refine rx_iload C dL_loads_109 4 rfl ?_
        refine rx_imul C dL_loads_111 ?_
        refine rx_iadd C dL_loads_112 ?_
        replace hF := rx_leE hF; obtain ⟨v15, e_v15, hF⟩ := hF
        rw [e_v15]
        refine rx_istore C dL_loads_113 (by decide) [(5, .int v15), (0, .ref m), (1, .ref b), (2, .ref (k 7)), (3, .int y1), (4, .int x4)] rfl ?_
        refine rx_aload_n C dL_loads_115 1 rfl ?_
        refine rx_iload C dL_loads_116 0 rfl ?_
        refine rx_iconst C dL_loads_118 (3 : Int32) (by decide) ?_
        refine rx_irem C dL_loads_119 (by decide) ?_
        refine rx_if_ne C dL_loads_120 128 (by decide) (fun c16 => ?_) (fun c16 => ?_)
        · rw [if_neg c16] at hF
          refine rx_ldcS (t := 3) C (List.mem_of_getElem? (i := 3) rfl) dL_loads_128 ?_
          replace hF := rx_biE hF; obtain ⟨y17, e_y17, hF⟩ := hF
          refine rx_cv (rx_rV C (w_L_writes e_y17 b_m (by decide)) Y_L_writes V_L_writes m_L_53 (Or.inl ⟨_, _, _, _, b_m.1, rfl⟩) ⟨⟨rfl, rfl⟩, ⟨(Nat.le_of_ble_eq_true rfl), (Nat.le_of_ble_eq_true rfl)⟩, ⟨(Nat.le_of_ble_eq_true rfl), (Nat.le_of_ble_eq_true rfl)⟩⟩ rfl rfl (Nat.le_of_ble_eq_true rfl) dL_loads_130) (fun hh n1 hpp => ?_)
          obtain ⟨hn, c_m, ff⟩ := hpp
          replace hn : n = n1 := Eq.symm hn
          subst hn
          replace b_m : bM k m y17 hh := c_m
          clear c_m
          replace ff : rx_fr [(m, 3)] _ hh := ff
          replace b_B := b_B.keep ff ⟨s_B_m, trivial⟩
          replace b_t := b_t.keep ff ⟨s_t_m, trivial⟩
          replace b_d := b_d.keep ff ⟨s_d_m, trivial⟩
          replace b_s := b_s.keep ff ⟨s_s_m, trivial⟩
          replace b_p := b_p.keep ff ⟨s_p_m, trivial⟩
          replace b_w := b_w.keep ff ⟨s_w_m, trivial⟩
          replace b_e := b_e.keep ff ⟨s_e_m, trivial⟩
          replace b_H := b_H.keep ff ⟨s_H_m, trivial⟩
          replace fr := rx_frt fr ff (fun a ha => ⟨ha.1, trivial⟩)
          refine rx_aload_n C dL_loads_133 1 rfl ?_
          refine rx_iload C dL_loads_134 0 rfl ?_
          refine rx_iconst C dL_loads_136 (4 : Int32) (by decide) ?_
          refine rx_idiv C dL_loads_137 (by decide) ?_
          refine rx_iconst C dL_loads_138 (3 : Int32) (by decide) ?_
          refine rx_irem C dL_loads_139 (by decide) ?_
          refine rx_if_ne C dL_loads_140 148 (by decide) (fun c18 => ?_) (fun c18 => ?_)
          · rw [if_neg c18] at hF
            refine rx_ldcS (t := 9) C (List.mem_of_getElem? (i := 5) rfl) dL_loads_148 ?_
            replace hF := rx_biE hF; obtain ⟨y19, e_y19, hF⟩ := hF
            refine rx_cv (rx_rV C (w_L_writes e_y19 b_m (by decide)) Y_L_writes V_L_writes m_L_53 (Or.inl ⟨_, _, _, _, b_m.1, rfl⟩) ⟨⟨rfl, rfl⟩, ⟨(Nat.le_of_ble_eq_true rfl), (Nat.le_of_ble_eq_true rfl)⟩, ⟨(Nat.le_of_ble_eq_true rfl), (Nat.le_of_ble_eq_true rfl)⟩⟩ rfl rfl (Nat.le_of_ble_eq_true rfl) dL_loads_150) (fun hh n1 hpp => ?_)
            obtain ⟨hn, c_m, ff⟩ := hpp
            replace hn : n = n1 := Eq.symm hn
            subst hn
            replace b_m : bM k m y19 hh := c_m
            clear c_m
            replace ff : rx_fr [(m, 3)] _ hh := ff
            replace b_B := b_B.keep ff ⟨s_B_m, trivial⟩
            replace b_t := b_t.keep ff ⟨s_t_m, trivial⟩
            replace b_d := b_d.keep ff ⟨s_d_m, trivial⟩
            replace b_s := b_s.keep ff ⟨s_s_m, trivial⟩
            replace b_p := b_p.keep ff ⟨s_p_m, trivial⟩
            replace b_w := b_w.keep ff ⟨s_w_m, trivial⟩
            replace b_e := b_e.keep ff ⟨s_e_m, trivial⟩
            replace b_H := b_H.keep ff ⟨s_H_m, trivial⟩
            replace fr := rx_frt fr ff (fun a ha => ⟨ha.1, trivial⟩)
            refine rx_aload_n C dL_loads_153 1 rfl ?_
            refine rx_iload C dL_loads_154 0 rfl ?_
            refine rx_bipush C dL_loads_156 (16 : Int32) (by decide) ?_
            refine rx_idiv C dL_loads_158 (by decide) ?_
            refine rx_bipush C dL_loads_159 (60 : Int32) (by decide) ?_
            refine rx_irem C dL_loads_161 (by decide) ?_
            replace hF := rx_biE hF; obtain ⟨y20, e_y20, hF⟩ := hF
            refine rx_cv (rx_rV C (w_L_number e_y20 b_m) Y_L_number V_L_number m_L_57 (Or.inl ⟨_, _, _, _, b_m.1, rfl⟩) ⟨⟨rfl, rfl⟩, ⟨(Nat.le_of_ble_eq_true rfl), (Nat.le_of_ble_eq_true rfl)⟩, ⟨(Nat.le_of_ble_eq_true rfl), (Nat.le_of_ble_eq_true rfl)⟩⟩ rfl rfl (Nat.le_of_ble_eq_true rfl) dL_loads_162) (fun hh n1 hpp => ?_)
            obtain ⟨hn, c_m, ff⟩ := hpp
            replace hn : n = n1 := Eq.symm hn
            subst hn
            replace b_m : bM k m y20 hh := c_m
            clear c_m
            replace ff : rx_fr [(m, 3)] _ hh := ff
            replace b_B := b_B.keep ff ⟨s_B_m, trivial⟩
            replace b_t := b_t.keep ff ⟨s_t_m, trivial⟩
            replace b_d := b_d.keep ff ⟨s_d_m, trivial⟩
            replace b_s := b_s.keep ff ⟨s_s_m, trivial⟩
            replace b_p := b_p.keep ff ⟨s_p_m, trivial⟩
            replace b_w := b_w.keep ff ⟨s_w_m, trivial⟩
            replace b_e := b_e.keep ff ⟨s_e_m, trivial⟩
            replace b_H := b_H.keep ff ⟨s_H_m, trivial⟩
            replace fr := rx_frt fr ff (fun a ha => ⟨ha.1, trivial⟩)
            refine rx_aload_n C dL_loads_165 1 rfl ?_
            refine rx_iload C dL_loads_166 0 rfl ?_
            refine rx_bipush C dL_loads_168 (64 : Int32) (by decide) ?_
            refine rx_idiv C dL_loads_170 (by decide) ?_
            refine rx_bipush C dL_loads_171 (41 : Int32) (by decide) ?_
            refine rx_irem C dL_loads_173 (by decide) ?_
            replace hF := rx_biE hF; obtain ⟨y21, e_y21, hF⟩ := hF
            refine rx_cv (rx_rV C (w_L_number e_y21 b_m) Y_L_number V_L_number m_L_57 (Or.inl ⟨_, _, _, _, b_m.1, rfl⟩) ⟨⟨rfl, rfl⟩, ⟨(Nat.le_of_ble_eq_true rfl), (Nat.le_of_ble_eq_true rfl)⟩, ⟨(Nat.le_of_ble_eq_true rfl), (Nat.le_of_ble_eq_true rfl)⟩⟩ rfl rfl (Nat.le_of_ble_eq_true rfl) dL_loads_174) (fun hh n1 hpp => ?_)
            obtain ⟨hn, c_m, ff⟩ := hpp
            replace hn : n = n1 := Eq.symm hn
            subst hn
            replace b_m : bM k m y21 hh := c_m
            clear c_m
            replace ff : rx_fr [(m, 3)] _ hh := ff
            replace b_B := b_B.keep ff ⟨s_B_m, trivial⟩
            replace b_t := b_t.keep ff ⟨s_t_m, trivial⟩
            replace b_d := b_d.keep ff ⟨s_d_m, trivial⟩
            replace b_s := b_s.keep ff ⟨s_s_m, trivial⟩
            replace b_p := b_p.keep ff ⟨s_p_m, trivial⟩
            replace b_w := b_w.keep ff ⟨s_w_m, trivial⟩
            replace b_e := b_e.keep ff ⟨s_e_m, trivial⟩
            replace b_H := b_H.keep ff ⟨s_H_m, trivial⟩
            replace fr := rx_frt fr ff (fun a ha => ⟨ha.1, trivial⟩)
            refine rx_aload_n C dL_loads_177 1 rfl ?_
            refine rx_iload C dL_loads_178 0 rfl ?_
            refine rx_sipush C dL_loads_180 (256 : Int32) (by decide) ?_
            refine rx_idiv C dL_loads_183 (by decide) ?_
            refine rx_bipush C dL_loads_184 (51 : Int32) (by decide) ?_
            refine rx_irem C dL_loads_186 (by decide) ?_
            replace hF := rx_biE hF; obtain ⟨y22, e_y22, hF⟩ := hF
            refine rx_cv (rx_rV C (w_L_number e_y22 b_m) Y_L_number V_L_number m_L_57 (Or.inl ⟨_, _, _, _, b_m.1, rfl⟩) ⟨⟨rfl, rfl⟩, ⟨(Nat.le_of_ble_eq_true rfl), (Nat.le_of_ble_eq_true rfl)⟩, ⟨(Nat.le_of_ble_eq_true rfl), (Nat.le_of_ble_eq_true rfl)⟩⟩ rfl rfl (Nat.le_of_ble_eq_true rfl) dL_loads_187) (fun hh n1 hpp => ?_)
            obtain ⟨hn, c_m, ff⟩ := hpp
            replace hn : n = n1 := Eq.symm hn
            subst hn
            replace b_m : bM k m y22 hh := c_m
            clear c_m
            replace ff : rx_fr [(m, 3)] _ hh := ff
            replace b_B := b_B.keep ff ⟨s_B_m, trivial⟩
            replace b_t := b_t.keep ff ⟨s_t_m, trivial⟩
            replace b_d := b_d.keep ff ⟨s_d_m, trivial⟩
            replace b_s := b_s.keep ff ⟨s_s_m, trivial⟩
            replace b_p := b_p.keep ff ⟨s_p_m, trivial⟩
            replace b_w := b_w.keep ff ⟨s_w_m, trivial⟩
            replace b_e := b_e.keep ff ⟨s_e_m, trivial⟩
            replace b_H := b_H.keep ff ⟨s_H_m, trivial⟩
            replace fr := rx_frt fr ff (fun a ha => ⟨ha.1, trivial⟩)
            refine rx_aload_n C dL_loads_190 1 rfl ?_
            refine rx_ldcS (t := 7) C (List.mem_of_getElem? (i := 1) rfl) dL_loads_191 ?_
            replace hF := rx_biE hF; obtain ⟨y23, e_y23, hF⟩ := hF
            refine rx_cv (rx_rV C (w_L_writes e_y23 b_m (by decide)) Y_L_writes V_L_writes m_L_53 (Or.inl ⟨_, _, _, _, b_m.1, rfl⟩) ⟨⟨rfl, rfl⟩, ⟨(Nat.le_of_ble_eq_true rfl), (Nat.le_of_ble_eq_true rfl)⟩, ⟨(Nat.le_of_ble_eq_true rfl), (Nat.le_of_ble_eq_true rfl)⟩⟩ rfl rfl (Nat.le_of_ble_eq_true rfl) dL_loads_193) (fun hh n1 hpp => ?_)
            obtain ⟨hn, c_m, ff⟩ := hpp
            replace hn : n = n1 := Eq.symm hn
            subst hn
            replace b_m : bM k m y23 hh := c_m
            clear c_m
            replace ff : rx_fr [(m, 3)] _ hh := ff
            replace b_B := b_B.keep ff ⟨s_B_m, trivial⟩
            replace b_t := b_t.keep ff ⟨s_t_m, trivial⟩
            replace b_d := b_d.keep ff ⟨s_d_m, trivial⟩
            replace b_s := b_s.keep ff ⟨s_s_m, trivial⟩
            replace b_p := b_p.keep ff ⟨s_p_m, trivial⟩
            replace b_w := b_w.keep ff ⟨s_w_m, trivial⟩
            replace b_e := b_e.keep ff ⟨s_e_m, trivial⟩
            replace b_H := b_H.keep ff ⟨s_H_m, trivial⟩
            replace fr := rx_frt fr ff (fun a ha => ⟨ha.1, trivial⟩)
            refine rx_iinc C dL_loads_196 5 rfl (x4 + 1) rfl (by decide) [(4, .int ((x4 + 1))), (5, .int v15), (0, .ref m), (1, .ref b), (2, .ref (k 7)), (3, .int y1)] rfl ?_
            refine rx_goto C dL_loads_199 86 (by decide) ?_
            refine rx_sub [2, 3, 4, 5, 0] rfl ?_
            exact ih_loop11 _ _ _ _ _ _ _ _ _ _ _ _ hF b_m b_B b_t b_d b_s b_p b_w b_e b_H fr KK
          · rw [if_pos c18] at hF
            refine rx_ldcS (t := 8) C (List.mem_of_getElem? (i := 4) rfl) dL_loads_143 ?_
            refine rx_goto C dL_loads_145 150 (by decide) ?_
            replace hF := rx_biE hF; obtain ⟨y24, e_y24, hF⟩ := hF
            refine rx_cv (rx_rV C (w_L_writes e_y24 b_m (by decide)) Y_L_writes V_L_writes m_L_53 (Or.inl ⟨_, _, _, _, b_m.1, rfl⟩) ⟨⟨rfl, rfl⟩, ⟨(Nat.le_of_ble_eq_true rfl), (Nat.le_of_ble_eq_true rfl)⟩, ⟨(Nat.le_of_ble_eq_true rfl), (Nat.le_of_ble_eq_true rfl)⟩⟩ rfl rfl (Nat.le_of_ble_eq_true rfl) dL_loads_150) (fun hh n1 hpp => ?_)
            obtain ⟨hn, c_m, ff⟩ := hpp
            replace hn : n = n1 := Eq.symm hn
            subst hn
            replace b_m : bM k m y24 hh := c_m
            clear c_m
            replace ff : rx_fr [(m, 3)] _ hh := ff
            replace b_B := b_B.keep ff ⟨s_B_m, trivial⟩
            replace b_t := b_t.keep ff ⟨s_t_m, trivial⟩
            replace b_d := b_d.keep ff ⟨s_d_m, trivial⟩
            replace b_s := b_s.keep ff ⟨s_s_m, trivial⟩
            replace b_p := b_p.keep ff ⟨s_p_m, trivial⟩
            replace b_w := b_w.keep ff ⟨s_w_m, trivial⟩
            replace b_e := b_e.keep ff ⟨s_e_m, trivial⟩
            replace b_H := b_H.keep ff ⟨s_H_m, trivial⟩
            replace fr := rx_frt fr ff (fun a ha => ⟨ha.1, trivial⟩)
            refine rx_aload_n C dL_loads_153 1 rfl ?_
            refine rx_iload C dL_loads_154 0 rfl ?_
            refine rx_bipush C dL_loads_156 (16 : Int32) (by decide) ?_
            refine rx_idiv C dL_loads_158 (by decide) ?_
            refine rx_bipush C dL_loads_159 (60 : Int32) (by decide) ?_
            refine rx_irem C dL_loads_161 (by decide) ?_
            replace hF := rx_biE hF; obtain ⟨y25, e_y25, hF⟩ := hF
            refine rx_cv (rx_rV C (w_L_number e_y25 b_m) Y_L_number V_L_number m_L_57 (Or.inl ⟨_, _, _, _, b_m.1, rfl⟩) ⟨⟨rfl, rfl⟩, ⟨(Nat.le_of_ble_eq_true rfl), (Nat.le_of_ble_eq_true rfl)⟩, ⟨(Nat.le_of_ble_eq_true rfl), (Nat.le_of_ble_eq_true rfl)⟩⟩ rfl rfl (Nat.le_of_ble_eq_true rfl) dL_loads_162) (fun hh n1 hpp => ?_)
            obtain ⟨hn, c_m, ff⟩ := hpp
            replace hn : n = n1 := Eq.symm hn
            subst hn
            replace b_m : bM k m y25 hh := c_m
            clear c_m
            replace ff : rx_fr [(m, 3)] _ hh := ff
            replace b_B := b_B.keep ff ⟨s_B_m, trivial⟩
            replace b_t := b_t.keep ff ⟨s_t_m, trivial⟩
            replace b_d := b_d.keep ff ⟨s_d_m, trivial⟩
            replace b_s := b_s.keep ff ⟨s_s_m, trivial⟩
            replace b_p := b_p.keep ff ⟨s_p_m, trivial⟩
            replace b_w := b_w.keep ff ⟨s_w_m, trivial⟩
            replace b_e := b_e.keep ff ⟨s_e_m, trivial⟩
            replace b_H := b_H.keep ff ⟨s_H_m, trivial⟩
            replace fr := rx_frt fr ff (fun a ha => ⟨ha.1, trivial⟩)
            refine rx_aload_n C dL_loads_165 1 rfl ?_
            refine rx_iload C dL_loads_166 0 rfl ?_
            refine rx_bipush C dL_loads_168 (64 : Int32) (by decide) ?_
            refine rx_idiv C dL_loads_170 (by decide) ?_
            refine rx_bipush C dL_loads_171 (41 : Int32) (by decide) ?_
            refine rx_irem C dL_loads_173 (by decide) ?_
            replace hF := rx_biE hF; obtain ⟨y26, e_y26, hF⟩ := hF
            refine rx_cv (rx_rV C (w_L_number e_y26 b_m) Y_L_number V_L_number m_L_57 (Or.inl ⟨_, _, _, _, b_m.1, rfl⟩) ⟨⟨rfl, rfl⟩, ⟨(Nat.le_of_ble_eq_true rfl), (Nat.le_of_ble_eq_true rfl)⟩, ⟨(Nat.le_of_ble_eq_true rfl), (Nat.le_of_ble_eq_true rfl)⟩⟩ rfl rfl (Nat.le_of_ble_eq_true rfl) dL_loads_174) (fun hh n1 hpp => ?_)
            obtain ⟨hn, c_m, ff⟩ := hpp
            replace hn : n = n1 := Eq.symm hn
            subst hn
            replace b_m : bM k m y26 hh := c_m
            clear c_m
            replace ff : rx_fr [(m, 3)] _ hh := ff
            replace b_B := b_B.keep ff ⟨s_B_m, trivial⟩
            replace b_t := b_t.keep ff ⟨s_t_m, trivial⟩
            replace b_d := b_d.keep ff ⟨s_d_m, trivial⟩
            replace b_s := b_s.keep ff ⟨s_s_m, trivial⟩
            replace b_p := b_p.keep ff ⟨s_p_m, trivial⟩
            replace b_w := b_w.keep ff ⟨s_w_m, trivial⟩
            replace b_e := b_e.keep ff ⟨s_e_m, trivial⟩
            replace b_H := b_H.keep ff ⟨s_H_m, trivial⟩
            replace fr := rx_frt fr ff (fun a ha => ⟨ha.1, trivial⟩)
            refine rx_aload_n C dL_loads_177 1 rfl ?_
            refine rx_iload C dL_loads_178 0 rfl ?_
            refine rx_sipush C dL_loads_180 (256 : Int32) (by decide) ?_
            refine rx_idiv C dL_loads_183 (by decide) ?_
            refine rx_bipush C dL_loads_184 (51 : Int32) (by decide) ?_
            refine rx_irem C dL_loads_186 (by decide) ?_
            replace hF := rx_biE hF; obtain ⟨y27, e_y27, hF⟩ := hF
            refine rx_cv (rx_rV C (w_L_number e_y27 b_m) Y_L_number V_L_number m_L_57 (Or.inl ⟨_, _, _, _, b_m.1, rfl⟩) ⟨⟨rfl, rfl⟩, ⟨(Nat.le_of_ble_eq_true rfl), (Nat.le_of_ble_eq_true rfl)⟩, ⟨(Nat.le_of_ble_eq_true rfl), (Nat.le_of_ble_eq_true rfl)⟩⟩ rfl rfl (Nat.le_of_ble_eq_true rfl) dL_loads_187) (fun hh n1 hpp => ?_)
            obtain ⟨hn, c_m, ff⟩ := hpp
            replace hn : n = n1 := Eq.symm hn
            subst hn
            replace b_m : bM k m y27 hh := c_m
            clear c_m
            replace ff : rx_fr [(m, 3)] _ hh := ff
            replace b_B := b_B.keep ff ⟨s_B_m, trivial⟩
            replace b_t := b_t.keep ff ⟨s_t_m, trivial⟩
            replace b_d := b_d.keep ff ⟨s_d_m, trivial⟩
            replace b_s := b_s.keep ff ⟨s_s_m, trivial⟩
            replace b_p := b_p.keep ff ⟨s_p_m, trivial⟩
            replace b_w := b_w.keep ff ⟨s_w_m, trivial⟩
            replace b_e := b_e.keep ff ⟨s_e_m, trivial⟩
            replace b_H := b_H.keep ff ⟨s_H_m, trivial⟩
            replace fr := rx_frt fr ff (fun a ha => ⟨ha.1, trivial⟩)
            refine rx_aload_n C dL_loads_190 1 rfl ?_
            refine rx_ldcS (t := 7) C (List.mem_of_getElem? (i := 1) rfl) dL_loads_191 ?_
            replace hF := rx_biE hF; obtain ⟨y28, e_y28, hF⟩ := hF
            refine rx_cv (rx_rV C (w_L_writes e_y28 b_m (by decide)) Y_L_writes V_L_writes m_L_53 (Or.inl ⟨_, _, _, _, b_m.1, rfl⟩) ⟨⟨rfl, rfl⟩, ⟨(Nat.le_of_ble_eq_true rfl), (Nat.le_of_ble_eq_true rfl)⟩, ⟨(Nat.le_of_ble_eq_true rfl), (Nat.le_of_ble_eq_true rfl)⟩⟩ rfl rfl (Nat.le_of_ble_eq_true rfl) dL_loads_193) (fun hh n1 hpp => ?_)
            obtain ⟨hn, c_m, ff⟩ := hpp
            replace hn : n = n1 := Eq.symm hn
            subst hn
            replace b_m : bM k m y28 hh := c_m
            clear c_m
            replace ff : rx_fr [(m, 3)] _ hh := ff
            replace b_B := b_B.keep ff ⟨s_B_m, trivial⟩
            replace b_t := b_t.keep ff ⟨s_t_m, trivial⟩
            replace b_d := b_d.keep ff ⟨s_d_m, trivial⟩
            replace b_s := b_s.keep ff ⟨s_s_m, trivial⟩
            replace b_p := b_p.keep ff ⟨s_p_m, trivial⟩
            replace b_w := b_w.keep ff ⟨s_w_m, trivial⟩
            replace b_e := b_e.keep ff ⟨s_e_m, trivial⟩
            replace b_H := b_H.keep ff ⟨s_H_m, trivial⟩
            replace fr := rx_frt fr ff (fun a ha => ⟨ha.1, trivial⟩)
            refine rx_iinc C dL_loads_196 5 rfl (x4 + 1) rfl (by decide) [(4, .int ((x4 + 1))), (5, .int v15), (0, .ref m), (1, .ref b), (2, .ref (k 7)), (3, .int y1)] rfl ?_
            refine rx_goto C dL_loads_199 86 (by decide) ?_
            refine rx_sub [2, 3, 4, 5, 0] rfl ?_
            exact ih_loop11 _ _ _ _ _ _ _ _ _ _ _ _ hF b_m b_B b_t b_d b_s b_p b_w b_e b_H fr KK
        · rw [if_pos c16] at hF
          refine rx_ldcS (t := 2) C (List.mem_of_getElem? (i := 2) rfl) dL_loads_123 ?_
          refine rx_goto C dL_loads_125 130 (by decide) ?_
          replace hF := rx_biE hF; obtain ⟨y29, e_y29, hF⟩ := hF
          refine rx_cv (rx_rV C (w_L_writes e_y29 b_m (by decide)) Y_L_writes V_L_writes m_L_53 (Or.inl ⟨_, _, _, _, b_m.1, rfl⟩) ⟨⟨rfl, rfl⟩, ⟨(Nat.le_of_ble_eq_true rfl), (Nat.le_of_ble_eq_true rfl)⟩, ⟨(Nat.le_of_ble_eq_true rfl), (Nat.le_of_ble_eq_true rfl)⟩⟩ rfl rfl (Nat.le_of_ble_eq_true rfl) dL_loads_130) (fun hh n1 hpp => ?_)
          obtain ⟨hn, c_m, ff⟩ := hpp
          replace hn : n = n1 := Eq.symm hn
          subst hn
          replace b_m : bM k m y29 hh := c_m
          clear c_m
          replace ff : rx_fr [(m, 3)] _ hh := ff
          replace b_B := b_B.keep ff ⟨s_B_m, trivial⟩
          replace b_t := b_t.keep ff ⟨s_t_m, trivial⟩
          replace b_d := b_d.keep ff ⟨s_d_m, trivial⟩
          replace b_s := b_s.keep ff ⟨s_s_m, trivial⟩
          replace b_p := b_p.keep ff ⟨s_p_m, trivial⟩
          replace b_w := b_w.keep ff ⟨s_w_m, trivial⟩
          replace b_e := b_e.keep ff ⟨s_e_m, trivial⟩
          replace b_H := b_H.keep ff ⟨s_H_m, trivial⟩
          replace fr := rx_frt fr ff (fun a ha => ⟨ha.1, trivial⟩)
          refine rx_aload_n C dL_loads_133 1 rfl ?_
          refine rx_iload C dL_loads_134 0 rfl ?_
          refine rx_iconst C dL_loads_136 (4 : Int32) (by decide) ?_
          refine rx_idiv C dL_loads_137 (by decide) ?_
          refine rx_iconst C dL_loads_138 (3 : Int32) (by decide) ?_
          refine rx_irem C dL_loads_139 (by decide) ?_
          refine rx_if_ne C dL_loads_140 148 (by decide) (fun c30 => ?_) (fun c30 => ?_)
          · rw [if_neg c30] at hF
            refine rx_ldcS (t := 9) C (List.mem_of_getElem? (i := 5) rfl) dL_loads_148 ?_
            replace hF := rx_biE hF; obtain ⟨y31, e_y31, hF⟩ := hF
            refine rx_cv (rx_rV C (w_L_writes e_y31 b_m (by decide)) Y_L_writes V_L_writes m_L_53 (Or.inl ⟨_, _, _, _, b_m.1, rfl⟩) ⟨⟨rfl, rfl⟩, ⟨(Nat.le_of_ble_eq_true rfl), (Nat.le_of_ble_eq_true rfl)⟩, ⟨(Nat.le_of_ble_eq_true rfl), (Nat.le_of_ble_eq_true rfl)⟩⟩ rfl rfl (Nat.le_of_ble_eq_true rfl) dL_loads_150) (fun hh n1 hpp => ?_)
            obtain ⟨hn, c_m, ff⟩ := hpp
            replace hn : n = n1 := Eq.symm hn
            subst hn
            replace b_m : bM k m y31 hh := c_m
            clear c_m
            replace ff : rx_fr [(m, 3)] _ hh := ff
            replace b_B := b_B.keep ff ⟨s_B_m, trivial⟩
            replace b_t := b_t.keep ff ⟨s_t_m, trivial⟩
            replace b_d := b_d.keep ff ⟨s_d_m, trivial⟩
            replace b_s := b_s.keep ff ⟨s_s_m, trivial⟩
            replace b_p := b_p.keep ff ⟨s_p_m, trivial⟩
            replace b_w := b_w.keep ff ⟨s_w_m, trivial⟩
            replace b_e := b_e.keep ff ⟨s_e_m, trivial⟩
            replace b_H := b_H.keep ff ⟨s_H_m, trivial⟩
            replace fr := rx_frt fr ff (fun a ha => ⟨ha.1, trivial⟩)
            refine rx_aload_n C dL_loads_153 1 rfl ?_
            refine rx_iload C dL_loads_154 0 rfl ?_
            refine rx_bipush C dL_loads_156 (16 : Int32) (by decide) ?_
            refine rx_idiv C dL_loads_158 (by decide) ?_
            refine rx_bipush C dL_loads_159 (60 : Int32) (by decide) ?_
            refine rx_irem C dL_loads_161 (by decide) ?_
            replace hF := rx_biE hF; obtain ⟨y32, e_y32, hF⟩ := hF
            refine rx_cv (rx_rV C (w_L_number e_y32 b_m) Y_L_number V_L_number m_L_57 (Or.inl ⟨_, _, _, _, b_m.1, rfl⟩) ⟨⟨rfl, rfl⟩, ⟨(Nat.le_of_ble_eq_true rfl), (Nat.le_of_ble_eq_true rfl)⟩, ⟨(Nat.le_of_ble_eq_true rfl), (Nat.le_of_ble_eq_true rfl)⟩⟩ rfl rfl (Nat.le_of_ble_eq_true rfl) dL_loads_162) (fun hh n1 hpp => ?_)
            obtain ⟨hn, c_m, ff⟩ := hpp
            replace hn : n = n1 := Eq.symm hn
            subst hn
            replace b_m : bM k m y32 hh := c_m
            clear c_m
            replace ff : rx_fr [(m, 3)] _ hh := ff
            replace b_B := b_B.keep ff ⟨s_B_m, trivial⟩
            replace b_t := b_t.keep ff ⟨s_t_m, trivial⟩
            replace b_d := b_d.keep ff ⟨s_d_m, trivial⟩
            replace b_s := b_s.keep ff ⟨s_s_m, trivial⟩
            replace b_p := b_p.keep ff ⟨s_p_m, trivial⟩
            replace b_w := b_w.keep ff ⟨s_w_m, trivial⟩
            replace b_e := b_e.keep ff ⟨s_e_m, trivial⟩
            replace b_H := b_H.keep ff ⟨s_H_m, trivial⟩
            replace fr := rx_frt fr ff (fun a ha => ⟨ha.1, trivial⟩)
            refine rx_aload_n C dL_loads_165 1 rfl ?_
            refine rx_iload C dL_loads_166 0 rfl ?_
            refine rx_bipush C dL_loads_168 (64 : Int32) (by decide) ?_
            refine rx_idiv C dL_loads_170 (by decide) ?_
            refine rx_bipush C dL_loads_171 (41 : Int32) (by decide) ?_
            refine rx_irem C dL_loads_173 (by decide) ?_
            replace hF := rx_biE hF; obtain ⟨y33, e_y33, hF⟩ := hF
            refine rx_cv (rx_rV C (w_L_number e_y33 b_m) Y_L_number V_L_number m_L_57 (Or.inl ⟨_, _, _, _, b_m.1, rfl⟩) ⟨⟨rfl, rfl⟩, ⟨(Nat.le_of_ble_eq_true rfl), (Nat.le_of_ble_eq_true rfl)⟩, ⟨(Nat.le_of_ble_eq_true rfl), (Nat.le_of_ble_eq_true rfl)⟩⟩ rfl rfl (Nat.le_of_ble_eq_true rfl) dL_loads_174) (fun hh n1 hpp => ?_)
            obtain ⟨hn, c_m, ff⟩ := hpp
            replace hn : n = n1 := Eq.symm hn
            subst hn
            replace b_m : bM k m y33 hh := c_m
            clear c_m
            replace ff : rx_fr [(m, 3)] _ hh := ff
            replace b_B := b_B.keep ff ⟨s_B_m, trivial⟩
            replace b_t := b_t.keep ff ⟨s_t_m, trivial⟩
            replace b_d := b_d.keep ff ⟨s_d_m, trivial⟩
            replace b_s := b_s.keep ff ⟨s_s_m, trivial⟩
            replace b_p := b_p.keep ff ⟨s_p_m, trivial⟩
            replace b_w := b_w.keep ff ⟨s_w_m, trivial⟩
            replace b_e := b_e.keep ff ⟨s_e_m, trivial⟩
            replace b_H := b_H.keep ff ⟨s_H_m, trivial⟩
            replace fr := rx_frt fr ff (fun a ha => ⟨ha.1, trivial⟩)
            refine rx_aload_n C dL_loads_177 1 rfl ?_
            refine rx_iload C dL_loads_178 0 rfl ?_
            refine rx_sipush C dL_loads_180 (256 : Int32) (by decide) ?_
            refine rx_idiv C dL_loads_183 (by decide) ?_
            refine rx_bipush C dL_loads_184 (51 : Int32) (by decide) ?_
            refine rx_irem C dL_loads_186 (by decide) ?_
            replace hF := rx_biE hF; obtain ⟨y34, e_y34, hF⟩ := hF
            refine rx_cv (rx_rV C (w_L_number e_y34 b_m) Y_L_number V_L_number m_L_57 (Or.inl ⟨_, _, _, _, b_m.1, rfl⟩) ⟨⟨rfl, rfl⟩, ⟨(Nat.le_of_ble_eq_true rfl), (Nat.le_of_ble_eq_true rfl)⟩, ⟨(Nat.le_of_ble_eq_true rfl), (Nat.le_of_ble_eq_true rfl)⟩⟩ rfl rfl (Nat.le_of_ble_eq_true rfl) dL_loads_187) (fun hh n1 hpp => ?_)
            obtain ⟨hn, c_m, ff⟩ := hpp
            replace hn : n = n1 := Eq.symm hn
            subst hn
            replace b_m : bM k m y34 hh := c_m
            clear c_m
            replace ff : rx_fr [(m, 3)] _ hh := ff
            replace b_B := b_B.keep ff ⟨s_B_m, trivial⟩
            replace b_t := b_t.keep ff ⟨s_t_m, trivial⟩
            replace b_d := b_d.keep ff ⟨s_d_m, trivial⟩
            replace b_s := b_s.keep ff ⟨s_s_m, trivial⟩
            replace b_p := b_p.keep ff ⟨s_p_m, trivial⟩
            replace b_w := b_w.keep ff ⟨s_w_m, trivial⟩
            replace b_e := b_e.keep ff ⟨s_e_m, trivial⟩
            replace b_H := b_H.keep ff ⟨s_H_m, trivial⟩
            replace fr := rx_frt fr ff (fun a ha => ⟨ha.1, trivial⟩)
            refine rx_aload_n C dL_loads_190 1 rfl ?_
            refine rx_ldcS (t := 7) C (List.mem_of_getElem? (i := 1) rfl) dL_loads_191 ?_
            replace hF := rx_biE hF; obtain ⟨y35, e_y35, hF⟩ := hF
            refine rx_cv (rx_rV C (w_L_writes e_y35 b_m (by decide)) Y_L_writes V_L_writes m_L_53 (Or.inl ⟨_, _, _, _, b_m.1, rfl⟩) ⟨⟨rfl, rfl⟩, ⟨(Nat.le_of_ble_eq_true rfl), (Nat.le_of_ble_eq_true rfl)⟩, ⟨(Nat.le_of_ble_eq_true rfl), (Nat.le_of_ble_eq_true rfl)⟩⟩ rfl rfl (Nat.le_of_ble_eq_true rfl) dL_loads_193) (fun hh n1 hpp => ?_)
            obtain ⟨hn, c_m, ff⟩ := hpp
            replace hn : n = n1 := Eq.symm hn
            subst hn
            replace b_m : bM k m y35 hh := c_m
            clear c_m
            replace ff : rx_fr [(m, 3)] _ hh := ff
            replace b_B := b_B.keep ff ⟨s_B_m, trivial⟩
            replace b_t := b_t.keep ff ⟨s_t_m, trivial⟩
            replace b_d := b_d.keep ff ⟨s_d_m, trivial⟩
            replace b_s := b_s.keep ff ⟨s_s_m, trivial⟩
            replace b_p := b_p.keep ff ⟨s_p_m, trivial⟩
            replace b_w := b_w.keep ff ⟨s_w_m, trivial⟩
            replace b_e := b_e.keep ff ⟨s_e_m, trivial⟩
            replace b_H := b_H.keep ff ⟨s_H_m, trivial⟩
            replace fr := rx_frt fr ff (fun a ha => ⟨ha.1, trivial⟩)
            refine rx_iinc C dL_loads_196 5 rfl (x4 + 1) rfl (by decide) [(4, .int ((x4 + 1))), (5, .int v15), (0, .ref m), (1, .ref b), (2, .ref (k 7)), (3, .int y1)] rfl ?_
            refine rx_goto C dL_loads_199 86 (by decide) ?_
            refine rx_sub [2, 3, 4, 5, 0] rfl ?_
            exact ih_loop11 _ _ _ _ _ _ _ _ _ _ _ _ hF b_m b_B b_t b_d b_s b_p b_w b_e b_H fr KK
          · rw [if_pos c30] at hF
            refine rx_ldcS (t := 8) C (List.mem_of_getElem? (i := 4) rfl) dL_loads_143 ?_
            refine rx_goto C dL_loads_145 150 (by decide) ?_
            replace hF := rx_biE hF; obtain ⟨y36, e_y36, hF⟩ := hF
            refine rx_cv (rx_rV C (w_L_writes e_y36 b_m (by decide)) Y_L_writes V_L_writes m_L_53 (Or.inl ⟨_, _, _, _, b_m.1, rfl⟩) ⟨⟨rfl, rfl⟩, ⟨(Nat.le_of_ble_eq_true rfl), (Nat.le_of_ble_eq_true rfl)⟩, ⟨(Nat.le_of_ble_eq_true rfl), (Nat.le_of_ble_eq_true rfl)⟩⟩ rfl rfl (Nat.le_of_ble_eq_true rfl) dL_loads_150) (fun hh n1 hpp => ?_)
            obtain ⟨hn, c_m, ff⟩ := hpp
            replace hn : n = n1 := Eq.symm hn
            subst hn
            replace b_m : bM k m y36 hh := c_m
            clear c_m
            replace ff : rx_fr [(m, 3)] _ hh := ff
            replace b_B := b_B.keep ff ⟨s_B_m, trivial⟩
            replace b_t := b_t.keep ff ⟨s_t_m, trivial⟩
            replace b_d := b_d.keep ff ⟨s_d_m, trivial⟩
            replace b_s := b_s.keep ff ⟨s_s_m, trivial⟩
            replace b_p := b_p.keep ff ⟨s_p_m, trivial⟩
            replace b_w := b_w.keep ff ⟨s_w_m, trivial⟩
            replace b_e := b_e.keep ff ⟨s_e_m, trivial⟩
            replace b_H := b_H.keep ff ⟨s_H_m, trivial⟩
            replace fr := rx_frt fr ff (fun a ha => ⟨ha.1, trivial⟩)
            refine rx_aload_n C dL_loads_153 1 rfl ?_
            refine rx_iload C dL_loads_154 0 rfl ?_
            refine rx_bipush C dL_loads_156 (16 : Int32) (by decide) ?_
            refine rx_idiv C dL_loads_158 (by decide) ?_
            refine rx_bipush C dL_loads_159 (60 : Int32) (by decide) ?_
            refine rx_irem C dL_loads_161 (by decide) ?_
            replace hF := rx_biE hF; obtain ⟨y37, e_y37, hF⟩ := hF
            refine rx_cv (rx_rV C (w_L_number e_y37 b_m) Y_L_number V_L_number m_L_57 (Or.inl ⟨_, _, _, _, b_m.1, rfl⟩) ⟨⟨rfl, rfl⟩, ⟨(Nat.le_of_ble_eq_true rfl), (Nat.le_of_ble_eq_true rfl)⟩, ⟨(Nat.le_of_ble_eq_true rfl), (Nat.le_of_ble_eq_true rfl)⟩⟩ rfl rfl (Nat.le_of_ble_eq_true rfl) dL_loads_162) (fun hh n1 hpp => ?_)
            obtain ⟨hn, c_m, ff⟩ := hpp
            replace hn : n = n1 := Eq.symm hn
            subst hn
            replace b_m : bM k m y37 hh := c_m
            clear c_m
            replace ff : rx_fr [(m, 3)] _ hh := ff
            replace b_B := b_B.keep ff ⟨s_B_m, trivial⟩
            replace b_t := b_t.keep ff ⟨s_t_m, trivial⟩
            replace b_d := b_d.keep ff ⟨s_d_m, trivial⟩
            replace b_s := b_s.keep ff ⟨s_s_m, trivial⟩
            replace b_p := b_p.keep ff ⟨s_p_m, trivial⟩
            replace b_w := b_w.keep ff ⟨s_w_m, trivial⟩
            replace b_e := b_e.keep ff ⟨s_e_m, trivial⟩
            replace b_H := b_H.keep ff ⟨s_H_m, trivial⟩
            replace fr := rx_frt fr ff (fun a ha => ⟨ha.1, trivial⟩)
            refine rx_aload_n C dL_loads_165 1 rfl ?_
            refine rx_iload C dL_loads_166 0 rfl ?_
            refine rx_bipush C dL_loads_168 (64 : Int32) (by decide) ?_
            refine rx_idiv C dL_loads_170 (by decide) ?_
            refine rx_bipush C dL_loads_171 (41 : Int32) (by decide) ?_
            refine rx_irem C dL_loads_173 (by decide) ?_
            replace hF := rx_biE hF; obtain ⟨y38, e_y38, hF⟩ := hF
            refine rx_cv (rx_rV C (w_L_number e_y38 b_m) Y_L_number V_L_number m_L_57 (Or.inl ⟨_, _, _, _, b_m.1, rfl⟩) ⟨⟨rfl, rfl⟩, ⟨(Nat.le_of_ble_eq_true rfl), (Nat.le_of_ble_eq_true rfl)⟩, ⟨(Nat.le_of_ble_eq_true rfl), (Nat.le_of_ble_eq_true rfl)⟩⟩ rfl rfl (Nat.le_of_ble_eq_true rfl) dL_loads_174) (fun hh n1 hpp => ?_)
            obtain ⟨hn, c_m, ff⟩ := hpp
            replace hn : n = n1 := Eq.symm hn
            subst hn
            replace b_m : bM k m y38 hh := c_m
            clear c_m
            replace ff : rx_fr [(m, 3)] _ hh := ff
            replace b_B := b_B.keep ff ⟨s_B_m, trivial⟩
            replace b_t := b_t.keep ff ⟨s_t_m, trivial⟩
            replace b_d := b_d.keep ff ⟨s_d_m, trivial⟩
            replace b_s := b_s.keep ff ⟨s_s_m, trivial⟩
            replace b_p := b_p.keep ff ⟨s_p_m, trivial⟩
            replace b_w := b_w.keep ff ⟨s_w_m, trivial⟩
            replace b_e := b_e.keep ff ⟨s_e_m, trivial⟩
            replace b_H := b_H.keep ff ⟨s_H_m, trivial⟩
            replace fr := rx_frt fr ff (fun a ha => ⟨ha.1, trivial⟩)
            refine rx_aload_n C dL_loads_177 1 rfl ?_
            refine rx_iload C dL_loads_178 0 rfl ?_
            refine rx_sipush C dL_loads_180 (256 : Int32) (by decide) ?_
            refine rx_idiv C dL_loads_183 (by decide) ?_
            refine rx_bipush C dL_loads_184 (51 : Int32) (by decide) ?_
            refine rx_irem C dL_loads_186 (by decide) ?_
            replace hF := rx_biE hF; obtain ⟨y39, e_y39, hF⟩ := hF
            refine rx_cv (rx_rV C (w_L_number e_y39 b_m) Y_L_number V_L_number m_L_57 (Or.inl ⟨_, _, _, _, b_m.1, rfl⟩) ⟨⟨rfl, rfl⟩, ⟨(Nat.le_of_ble_eq_true rfl), (Nat.le_of_ble_eq_true rfl)⟩, ⟨(Nat.le_of_ble_eq_true rfl), (Nat.le_of_ble_eq_true rfl)⟩⟩ rfl rfl (Nat.le_of_ble_eq_true rfl) dL_loads_187) (fun hh n1 hpp => ?_)
            obtain ⟨hn, c_m, ff⟩ := hpp
            replace hn : n = n1 := Eq.symm hn
            subst hn
            replace b_m : bM k m y39 hh := c_m
            clear c_m
            replace ff : rx_fr [(m, 3)] _ hh := ff
            replace b_B := b_B.keep ff ⟨s_B_m, trivial⟩
            replace b_t := b_t.keep ff ⟨s_t_m, trivial⟩
            replace b_d := b_d.keep ff ⟨s_d_m, trivial⟩
            replace b_s := b_s.keep ff ⟨s_s_m, trivial⟩
            replace b_p := b_p.keep ff ⟨s_p_m, trivial⟩
            replace b_w := b_w.keep ff ⟨s_w_m, trivial⟩
            replace b_e := b_e.keep ff ⟨s_e_m, trivial⟩
            replace b_H := b_H.keep ff ⟨s_H_m, trivial⟩
            replace fr := rx_frt fr ff (fun a ha => ⟨ha.1, trivial⟩)
            refine rx_aload_n C dL_loads_190 1 rfl ?_
            refine rx_ldcS (t := 7) C (List.mem_of_getElem? (i := 1) rfl) dL_loads_191 ?_
            replace hF := rx_biE hF; obtain ⟨y40, e_y40, hF⟩ := hF
            refine rx_cv (rx_rV C (w_L_writes e_y40 b_m (by decide)) Y_L_writes V_L_writes m_L_53 (Or.inl ⟨_, _, _, _, b_m.1, rfl⟩) ⟨⟨rfl, rfl⟩, ⟨(Nat.le_of_ble_eq_true rfl), (Nat.le_of_ble_eq_true rfl)⟩, ⟨(Nat.le_of_ble_eq_true rfl), (Nat.le_of_ble_eq_true rfl)⟩⟩ rfl rfl (Nat.le_of_ble_eq_true rfl) dL_loads_193) (fun hh n1 hpp => ?_)
            obtain ⟨hn, c_m, ff⟩ := hpp
            replace hn : n = n1 := Eq.symm hn
            subst hn
            replace b_m : bM k m y40 hh := c_m
            clear c_m
            replace ff : rx_fr [(m, 3)] _ hh := ff
            replace b_B := b_B.keep ff ⟨s_B_m, trivial⟩
            replace b_t := b_t.keep ff ⟨s_t_m, trivial⟩
            replace b_d := b_d.keep ff ⟨s_d_m, trivial⟩
            replace b_s := b_s.keep ff ⟨s_s_m, trivial⟩
            replace b_p := b_p.keep ff ⟨s_p_m, trivial⟩
            replace b_w := b_w.keep ff ⟨s_w_m, trivial⟩
            replace b_e := b_e.keep ff ⟨s_e_m, trivial⟩
            replace b_H := b_H.keep ff ⟨s_H_m, trivial⟩
            replace fr := rx_frt fr ff (fun a ha => ⟨ha.1, trivial⟩)
            refine rx_iinc C dL_loads_196 5 rfl (x4 + 1) rfl (by decide) [(4, .int ((x4 + 1))), (5, .int v15), (0, .ref m), (1, .ref b), (2, .ref (k 7)), (3, .int y1)] rfl ?_
            refine rx_goto C dL_loads_199 86 (by decide) ?_
            refine rx_sub [2, 3, 4, 5, 0] rfl ?_
            exact ih_loop11 _ _ _ _ _ _ _ _ _ _ _ _ hF b_m b_B b_t b_d b_s b_p b_w b_e b_H fr KK
  refine rx_sub [2, 3, 4, 1, 0] rfl ?_
  replace hF := rx_biE hF; obtain ⟨zl41, e_zl41, hF⟩ := hF
  refine loop11 _ zl41 _ _ _ _ _ _ _ _ _ _ _ e_zl41 b_m b_B b_t b_d b_s b_p b_w b_e b_H fr (fun hh b_m b_B b_t b_d b_s b_p b_w b_e b_H fr => ?_)
  refine rx_iconst C dL_loads_202 (0 : Int32) (by decide) ?_
  refine rx_istore C dL_loads_203 (by decide) [(4, .int ((0 : Int32))), (0, .ref m), (1, .ref b), (2, .ref (k 7)), (3, .int y1)] rfl ?_
  have loop43 : ∀ (fu : Nat) (zz : Int32 × ob × ob × ob × ob × ob × ob × ob × ob × hst) (om : ob) (oB : ob) (ot : ob) (od : ob) (os : ob) (op : ob) (ow : ob) (oe : ob) (oH : hst) (x4 : Int32) (hh : hp), F_L_loads_205 k y1 fu om oB ot od os op ow oe oH x4 = some zz → bM k m om hh → bB k b oB hh → bT k (b + 1) ot hh → bS k (b + 3) od hh → bS k (b + 12) os hh → bP k (b + 21) (b + 12) op hh → bQ k (b + 21 + 10) ow hh → bQ k (b + 21 + 13) oe hh → bHH k (b + 69) (b + 12) oH hh → rx_fr [(m, 3), (b, 1), (b + 1, 2), (b + 3, 9), (b + 12, 9), (b + 21, 10), (b + 21 + 10, 3), (b + 21 + 13, 3), (b + 69, 130)] h hh → (∀ hh : hp, bM k m zz.2.1 hh → bB k b zz.2.2.1 hh → bT k (b + 1) zz.2.2.2.1 hh → bS k (b + 3) zz.2.2.2.2.1 hh → bS k (b + 12) zz.2.2.2.2.2.1 hh → bP k (b + 21) (b + 12) zz.2.2.2.2.2.2.1 hh → bQ k (b + 21 + 10) zz.2.2.2.2.2.2.2.1 hh → bQ k (b + 21 + 13) zz.2.2.2.2.2.2.2.2.1 hh → bHH k (b + 69) (b + 12) zz.2.2.2.2.2.2.2.2.2 hh → rx_fr [(m, 3), (b, 1), (b + 1, 2), (b + 3, 9), (b + 12, 9), (b + 21, 10), (b + 21 + 10, 3), (b + 21 + 13, 3), (b + 69, 130)] h hh → rx_W P9 l E9 (rx_rm 9 199) S9 M9 A9 B9 me9 c9 (MQ B9 (va_Qi (fun r u => y.1 = r ∧ (y.1 = 0 ∨ y.1 = 1) ∧ u.2 = n ∧ bM k m y.2.1 u.1 ∧ bB k b y.2.2.1 u.1 ∧ bT k (b + 1) y.2.2.2.1 u.1 ∧ bS k (b + 3) y.2.2.2.2.1 u.1 ∧ bS k (b + 12) y.2.2.2.2.2.1 u.1 ∧ bP k (b + 21) (b + 12) y.2.2.2.2.2.2.1 u.1 ∧ bQ k (b + 21 + 10) y.2.2.2.2.2.2.2.1 u.1 ∧ bQ k (b + 21 + 13) y.2.2.2.2.2.2.2.2.1 u.1 ∧ bHH k (b + 69) (b + 12) y.2.2.2.2.2.2.2.2.2 u.1 ∧ rx_fr [(m, 3), (b, 1), (b + 1, 2), (b + 3, 9), (b + 12, 9), (b + 21, 10), (b + 21 + 10, 3), (b + 21 + 13, 3), (b + 69, 130)] h u.1) (rx_B G k) (rx_A k)) A9 S9 0 0 (rx_A k)) G k 7 0 0 hh n 282 [(0, .ref m), (1, .ref b), (2, .ref (k 7)), (3, .int y1), (4, .int zz.1)] []) → rx_W P9 l E9 (rx_rm 9 199) S9 M9 A9 B9 me9 c9 (MQ B9 (va_Qi (fun r u => y.1 = r ∧ (y.1 = 0 ∨ y.1 = 1) ∧ u.2 = n ∧ bM k m y.2.1 u.1 ∧ bB k b y.2.2.1 u.1 ∧ bT k (b + 1) y.2.2.2.1 u.1 ∧ bS k (b + 3) y.2.2.2.2.1 u.1 ∧ bS k (b + 12) y.2.2.2.2.2.1 u.1 ∧ bP k (b + 21) (b + 12) y.2.2.2.2.2.2.1 u.1 ∧ bQ k (b + 21 + 10) y.2.2.2.2.2.2.2.1 u.1 ∧ bQ k (b + 21 + 13) y.2.2.2.2.2.2.2.2.1 u.1 ∧ bHH k (b + 69) (b + 12) y.2.2.2.2.2.2.2.2.2 u.1 ∧ rx_fr [(m, 3), (b, 1), (b + 1, 2), (b + 3, 9), (b + 12, 9), (b + 21, 10), (b + 21 + 10, 3), (b + 21 + 13, 3), (b + 69, 130)] h u.1) (rx_B G k) (rx_A k)) A9 S9 0 0 (rx_A k)) G k 7 0 0 hh n 205 [(0, .ref m), (1, .ref b), (2, .ref (k 7)), (3, .int y1), (4, .int x4)] [] := by
    intro fu
    induction fu with
    | zero => intro zz om oB ot od os op ow oe oH x4 hh hF b_m b_B b_t b_d b_s b_p b_w b_e b_H fr KK; exact absurd hF (by simp [F_L_loads_205])
    | succ fu ih_loop43 =>
      intro zz om oB ot od os op ow oe oH x4 hh hF b_m b_B b_t b_d b_s b_p b_w b_e b_H fr KK
      unfold F_L_loads_205 at hF
      refine rx_iload C dL_loads_205 4 rfl ?_
      refine rx_aload_n C dL_loads_207 0 rfl ?_
      refine rx_getf C f_L_48 dL_loads_208 b_m.1 rfl ?_
      refine rx_icmp_ge C dL_loads_211 282 (by decide) (fun c44 => ?_) (fun c44 => ?_)
      · rw [if_pos c44] at hF
        obtain rfl := Option.some.inj hF
        refine rx_sub [0, 1, 2, 3, 4] rfl ?_
        exact KK _ b_m b_B b_t b_d b_s b_p b_w b_e b_H fr
      · rw [if_neg c44] at hF
        refine rx_aload_n C dL_loads_214 2 rfl ?_
        refine rx_iconst C dL_loads_215 (2 : Int32) (by decide) ?_
        replace hF := rx_biE hF; obtain ⟨y45, e_y45, hF⟩ := hF
        refine rx_ci (rx_rS C (w_L_cell e_y45 ) Y_L_cell S_L_cell m_L_41 ⟨⟨rfl, rfl⟩, ⟨(Nat.le_of_ble_eq_true rfl), (Nat.le_of_ble_eq_true rfl)⟩, ⟨(Nat.le_of_ble_eq_true rfl), (Nat.le_of_ble_eq_true rfl)⟩⟩ rfl rfl (Nat.le_of_ble_eq_true rfl) dL_loads_216) (fun r hh n1 hpp => ?_)
        obtain ⟨rfl, hu⟩ := hpp
        cases hu
        refine rx_iload C dL_loads_219 4 rfl ?_
        refine rx_iconst C dL_loads_221 (1 : Int32) (by decide) ?_
        refine rx_iadd C dL_loads_222 ?_
        replace hF := rx_biE hF; obtain ⟨v46, e_v46, hF⟩ := hF
        refine rx_idivF C dL_loads_223 e_v46 ?_
        refine rx_istore C dL_loads_224 (by decide) [(5, .int v46), (0, .ref m), (1, .ref b), (2, .ref (k 7)), (3, .int y1), (4, .int x4)] rfl ?_
        refine rx_iconst C dL_loads_226 (1 : Int32) (by decide) ?_
        refine rx_iload C dL_loads_227 0 rfl ?_
        refine rx_iconst C dL_loads_229 (3 : Int32) (by decide) ?_
        refine rx_irem C dL_loads_230 (by decide) ?_
        refine rx_iadd C dL_loads_231 ?_
        replace hF := rx_leE hF; obtain ⟨v47, e_v47, hF⟩ := hF
        rw [e_v47]
        refine rx_istore C dL_loads_232 (by decide) [(6, .int v47), (5, .int v46), (0, .ref m), (1, .ref b), (2, .ref (k 7)), (3, .int y1), (4, .int x4)] rfl ?_
        refine rx_aload_n C dL_loads_234 2 rfl ?_
        refine rx_ldcS (t := 6) C (List.mem_of_getElem? (i := 6) rfl) dL_loads_235 ?_
        replace hF := rx_biE hF; obtain ⟨y48, e_y48, hF⟩ := hF
        refine rx_cv (rx_rV C (w_L_writes e_y48 b_m (by decide)) Y_L_writes V_L_writes m_L_53 (Or.inl ⟨_, _, _, _, b_m.1, rfl⟩) ⟨⟨rfl, rfl⟩, ⟨(Nat.le_of_ble_eq_true rfl), (Nat.le_of_ble_eq_true rfl)⟩, ⟨(Nat.le_of_ble_eq_true rfl), (Nat.le_of_ble_eq_true rfl)⟩⟩ rfl rfl (Nat.le_of_ble_eq_true rfl) dL_loads_237) (fun hh n1 hpp => ?_)
        obtain ⟨hn, c_m, ff⟩ := hpp
        replace hn : n = n1 := Eq.symm hn
        subst hn
        replace b_m : bM k m y48 hh := c_m
        clear c_m
        replace ff : rx_fr [(m, 3)] _ hh := ff
        replace b_B := b_B.keep ff ⟨s_B_m, trivial⟩
        replace b_t := b_t.keep ff ⟨s_t_m, trivial⟩
        replace b_d := b_d.keep ff ⟨s_d_m, trivial⟩
        replace b_s := b_s.keep ff ⟨s_s_m, trivial⟩
        replace b_p := b_p.keep ff ⟨s_p_m, trivial⟩
        replace b_w := b_w.keep ff ⟨s_w_m, trivial⟩
        replace b_e := b_e.keep ff ⟨s_e_m, trivial⟩
        replace b_H := b_H.keep ff ⟨s_H_m, trivial⟩
        replace fr := rx_frt fr ff (fun a ha => ⟨ha.1, trivial⟩)
        refine rx_aload_n C dL_loads_240 2 rfl ?_
        refine rx_iload C dL_loads_241 0 rfl ?_
        replace hF := rx_biE hF; obtain ⟨y49, e_y49, hF⟩ := hF
        refine rx_cv (rx_rV C (w_L_number e_y49 b_m) Y_L_number V_L_number m_L_57 (Or.inl ⟨_, _, _, _, b_m.1, rfl⟩) ⟨⟨rfl, rfl⟩, ⟨(Nat.le_of_ble_eq_true rfl), (Nat.le_of_ble_eq_true rfl)⟩, ⟨(Nat.le_of_ble_eq_true rfl), (Nat.le_of_ble_eq_true rfl)⟩⟩ rfl rfl (Nat.le_of_ble_eq_true rfl) dL_loads_243) (fun hh n1 hpp => ?_)
        obtain ⟨hn, c_m, ff⟩ := hpp
        replace hn : n = n1 := Eq.symm hn
        subst hn
        replace b_m : bM k m y49 hh := c_m
        clear c_m
        replace ff : rx_fr [(m, 3)] _ hh := ff
        replace b_B := b_B.keep ff ⟨s_B_m, trivial⟩
        replace b_t := b_t.keep ff ⟨s_t_m, trivial⟩
        replace b_d := b_d.keep ff ⟨s_d_m, trivial⟩
        replace b_s := b_s.keep ff ⟨s_s_m, trivial⟩
        replace b_p := b_p.keep ff ⟨s_p_m, trivial⟩
        replace b_w := b_w.keep ff ⟨s_w_m, trivial⟩
        replace b_e := b_e.keep ff ⟨s_e_m, trivial⟩
        replace b_H := b_H.keep ff ⟨s_H_m, trivial⟩
        replace fr := rx_frt fr ff (fun a ha => ⟨ha.1, trivial⟩)
        refine rx_aload_n C dL_loads_246 2 rfl ?_
        refine rx_iload C dL_loads_247 1 rfl ?_
        refine rx_iconst C dL_loads_249 (4 : Int32) (by decide) ?_
        refine rx_idiv C dL_loads_250 (by decide) ?_
        refine rx_iload C dL_loads_251 0 rfl ?_
        replace hF := rx_biE hF; obtain ⟨v50, e_v50, hF⟩ := hF
        refine rx_iremF C dL_loads_253 e_v50 ?_
        replace hF := rx_biE hF; obtain ⟨y51, e_y51, hF⟩ := hF
        refine rx_cv (rx_rV C (w_L_number e_y51 b_m) Y_L_number V_L_number m_L_57 (Or.inl ⟨_, _, _, _, b_m.1, rfl⟩) ⟨⟨rfl, rfl⟩, ⟨(Nat.le_of_ble_eq_true rfl), (Nat.le_of_ble_eq_true rfl)⟩, ⟨(Nat.le_of_ble_eq_true rfl), (Nat.le_of_ble_eq_true rfl)⟩⟩ rfl rfl (Nat.le_of_ble_eq_true rfl) dL_loads_254) (fun hh n1 hpp => ?_)
        obtain ⟨hn, c_m, ff⟩ := hpp
        replace hn : n = n1 := Eq.symm hn
        subst hn
        replace b_m : bM k m y51 hh := c_m
        clear c_m
        replace ff : rx_fr [(m, 3)] _ hh := ff
        replace b_B := b_B.keep ff ⟨s_B_m, trivial⟩
        replace b_t := b_t.keep ff ⟨s_t_m, trivial⟩
        replace b_d := b_d.keep ff ⟨s_d_m, trivial⟩
        replace b_s := b_s.keep ff ⟨s_s_m, trivial⟩
        replace b_p := b_p.keep ff ⟨s_p_m, trivial⟩
        replace b_w := b_w.keep ff ⟨s_w_m, trivial⟩
        replace b_e := b_e.keep ff ⟨s_e_m, trivial⟩
        replace b_H := b_H.keep ff ⟨s_H_m, trivial⟩
        replace fr := rx_frt fr ff (fun a ha => ⟨ha.1, trivial⟩)
        refine rx_aload_n C dL_loads_257 2 rfl ?_
        refine rx_iconst C dL_loads_258 (1 : Int32) (by decide) ?_
        refine rx_iload C dL_loads_259 1 rfl ?_
        refine rx_bipush C dL_loads_261 (16 : Int32) (by decide) ?_
        refine rx_idiv C dL_loads_263 (by decide) ?_
        refine rx_iconst C dL_loads_264 (3 : Int32) (by decide) ?_
        refine rx_irem C dL_loads_265 (by decide) ?_
        refine rx_iadd C dL_loads_266 ?_
        replace hF := rx_biE hF; obtain ⟨y52, e_y52, hF⟩ := hF
        refine rx_cv (rx_rV C (w_L_number e_y52 b_m) Y_L_number V_L_number m_L_57 (Or.inl ⟨_, _, _, _, b_m.1, rfl⟩) ⟨⟨rfl, rfl⟩, ⟨(Nat.le_of_ble_eq_true rfl), (Nat.le_of_ble_eq_true rfl)⟩, ⟨(Nat.le_of_ble_eq_true rfl), (Nat.le_of_ble_eq_true rfl)⟩⟩ rfl rfl (Nat.le_of_ble_eq_true rfl) dL_loads_267) (fun hh n1 hpp => ?_)
        obtain ⟨hn, c_m, ff⟩ := hpp
        replace hn : n = n1 := Eq.symm hn
        subst hn
        replace b_m : bM k m y52 hh := c_m
        clear c_m
        replace ff : rx_fr [(m, 3)] _ hh := ff
        replace b_B := b_B.keep ff ⟨s_B_m, trivial⟩
        replace b_t := b_t.keep ff ⟨s_t_m, trivial⟩
        replace b_d := b_d.keep ff ⟨s_d_m, trivial⟩
        replace b_s := b_s.keep ff ⟨s_s_m, trivial⟩
        replace b_p := b_p.keep ff ⟨s_p_m, trivial⟩
        replace b_w := b_w.keep ff ⟨s_w_m, trivial⟩
        replace b_e := b_e.keep ff ⟨s_e_m, trivial⟩
        replace b_H := b_H.keep ff ⟨s_H_m, trivial⟩
        replace fr := rx_frt fr ff (fun a ha => ⟨ha.1, trivial⟩)
        refine rx_aload_n C dL_loads_270 2 rfl ?_
        refine rx_ldcS (t := 7) C (List.mem_of_getElem? (i := 1) rfl) dL_loads_271 ?_
        replace hF := rx_biE hF; obtain ⟨y53, e_y53, hF⟩ := hF
        refine rx_cv (rx_rV C (w_L_writes e_y53 b_m (by decide)) Y_L_writes V_L_writes m_L_53 (Or.inl ⟨_, _, _, _, b_m.1, rfl⟩) ⟨⟨rfl, rfl⟩, ⟨(Nat.le_of_ble_eq_true rfl), (Nat.le_of_ble_eq_true rfl)⟩, ⟨(Nat.le_of_ble_eq_true rfl), (Nat.le_of_ble_eq_true rfl)⟩⟩ rfl rfl (Nat.le_of_ble_eq_true rfl) dL_loads_273) (fun hh n1 hpp => ?_)
        obtain ⟨hn, c_m, ff⟩ := hpp
        replace hn : n = n1 := Eq.symm hn
        subst hn
        replace b_m : bM k m y53 hh := c_m
        clear c_m
        replace ff : rx_fr [(m, 3)] _ hh := ff
        replace b_B := b_B.keep ff ⟨s_B_m, trivial⟩
        replace b_t := b_t.keep ff ⟨s_t_m, trivial⟩
        replace b_d := b_d.keep ff ⟨s_d_m, trivial⟩
        replace b_s := b_s.keep ff ⟨s_s_m, trivial⟩
        replace b_p := b_p.keep ff ⟨s_p_m, trivial⟩
        replace b_w := b_w.keep ff ⟨s_w_m, trivial⟩
        replace b_e := b_e.keep ff ⟨s_e_m, trivial⟩
        replace b_H := b_H.keep ff ⟨s_H_m, trivial⟩
        replace fr := rx_frt fr ff (fun a ha => ⟨ha.1, trivial⟩)
        refine rx_iinc C dL_loads_276 6 rfl (x4 + 1) rfl (by decide) [(4, .int ((x4 + 1))), (6, .int v47), (5, .int v46), (0, .ref m), (1, .ref b), (2, .ref (k 7)), (3, .int y1)] rfl ?_
        refine rx_goto C dL_loads_279 205 (by decide) ?_
        refine rx_sub [3, 4, 5, 6, 0] rfl ?_
        exact ih_loop43 _ _ _ _ _ _ _ _ _ _ _ _ hF b_m b_B b_t b_d b_s b_p b_w b_e b_H fr KK
  refine rx_sub [1, 2, 3, 4, 0] rfl ?_
  replace hF := rx_biE hF; obtain ⟨zl54, e_zl54, hF⟩ := hF
  refine loop43 _ zl54 _ _ _ _ _ _ _ _ _ _ _ e_zl54 b_m b_B b_t b_d b_s b_p b_w b_e b_H fr (fun hh b_m b_B b_t b_d b_s b_p b_w b_e b_H fr => ?_)
  refine rx_aload_n C dL_loads_282 1 rfl ?_
  refine rx_aload_n C dL_loads_283 0 rfl ?_
  refine rx_aload_n C dL_loads_284 1 rfl ?_
  replace hF := rx_biE hF; obtain ⟨y55, e_y55, hF⟩ := hF
  refine rx_ci (rx_rV C (w_L_feeds e_y55 b_m b_B b_t (by omega)) Y_L_feeds V_L_feeds m_L_74 (Or.inl ⟨_, _, _, _, b_m.1, rfl⟩) ⟨⟨rfl, rfl⟩, ⟨(Nat.le_of_ble_eq_true rfl), (Nat.le_of_ble_eq_true rfl)⟩, ⟨(Nat.le_of_ble_eq_true rfl), (Nat.le_of_ble_eq_true rfl)⟩⟩ rfl rfl (Nat.le_of_ble_eq_true rfl) dL_loads_285) (fun r hh n1 hpp => ?_)
  obtain ⟨rfl, hn, c_m, c_t, ff⟩ := hpp
  replace hn : n = n1 := Eq.symm hn
  subst hn
  replace b_m : bM k m y55.2.1 hh := c_m
  clear c_m
  replace b_t : bT k (b + 1) y55.2.2 hh := c_t
  clear c_t
  replace ff : rx_fr [(m, 3), (b + 1, 2)] _ hh := ff
  replace b_B := b_B.keep ff ⟨s_B_m, s_B_t, trivial⟩
  replace b_d := b_d.keep ff ⟨s_d_m, s_d_t, trivial⟩
  replace b_s := b_s.keep ff ⟨s_s_m, s_s_t, trivial⟩
  replace b_p := b_p.keep ff ⟨s_p_m, s_p_t, trivial⟩
  replace b_w := b_w.keep ff ⟨s_w_m, s_w_t, trivial⟩
  replace b_e := b_e.keep ff ⟨s_e_m, s_e_t, trivial⟩
  replace b_H := b_H.keep ff ⟨s_H_m, s_H_t, trivial⟩
  replace fr := rx_frt fr ff (fun a ha => ⟨ha.1, ha.2.2.1, trivial⟩)
  replace hF := rx_biE hF; obtain ⟨y56, e_y56, hF⟩ := hF
  refine rx_ci (rx_rV C (w_X8_loadGame e_y56 b_B b_t b_d b_s b_p b_w b_e b_H) Y_X8_loadGame V_X8_loadGame m_L_78 (Or.inl ⟨_, _, _, _, b_B, rfl⟩) ⟨⟨rfl, rfl⟩, ⟨(Nat.le_of_ble_eq_true rfl), (Nat.le_of_ble_eq_true rfl)⟩, ⟨(Nat.le_of_ble_eq_true rfl), (Nat.le_of_ble_eq_true rfl)⟩⟩ rfl rfl (Nat.le_of_ble_eq_true rfl) dL_loads_288) (fun r hh n1 hpp => ?_)
  obtain ⟨rfl, hn, c_B, c_t, c_d, c_s, c_p, c_w, c_e, c_H, ff⟩ := hpp
  replace hn : n = n1 := Eq.symm hn
  subst hn
  replace b_B : bB k b y56.2.1 hh := c_B
  clear c_B
  replace b_t : bT k (b + 1) y56.2.2.1 hh := c_t
  clear c_t
  replace b_d : bS k (b + 3) y56.2.2.2.1 hh := c_d
  clear c_d
  replace b_s : bS k (b + 12) y56.2.2.2.2.1 hh := c_s
  clear c_s
  replace b_p : bP k (b + 21) (b + 12) y56.2.2.2.2.2.1 hh := c_p
  clear c_p
  replace b_w : bQ k (b + 21 + 10) y56.2.2.2.2.2.2.1 hh := c_w
  clear c_w
  replace b_e : bQ k (b + 21 + 13) y56.2.2.2.2.2.2.2.1 hh := c_e
  clear c_e
  replace b_H : bHH k (b + 69) (b + 12) y56.2.2.2.2.2.2.2.2 hh := c_H
  clear c_H
  replace ff : rx_fr [(b, 1), (b + 1, 2), (b + 3, 9), (b + 12, 9), (b + 21, 10), (b + 21 + 10, 3), (b + 21 + 13, 3), (b + 69, 130)] _ hh := ff
  replace b_m := b_m.keep ff ⟨s_m_B, s_m_t, s_m_d, s_m_s, s_m_p, s_m_w, s_m_e, s_m_H, trivial⟩
  replace fr := rx_frt fr ff (fun a ha => ⟨ha.2.1, ha.2.2.1, ha.2.2.2.1, ha.2.2.2.2.1, ha.2.2.2.2.2.1, ha.2.2.2.2.2.2.1, ha.2.2.2.2.2.2.2.1, ha.2.2.2.2.2.2.2.2.1, trivial⟩)
  refine rx_aload_n C dL_loads_291 0 rfl ?_
  refine rx_getf C f_L_45 dL_loads_292 b_m.1 rfl ?_
  refine rx_icmp_ne C dL_loads_295 331 (by decide) (fun c57 => ?_) (fun c57 => ?_)
  · rw [if_neg c57] at hF
    refine rx_iconst C dL_loads_331 (0 : Int32) (by decide) ?_
    obtain rfl := Option.some.inj hF
    exact rx_zret C (rx_nz (Or.inl rfl)) dL_loads_332 (Nat.le_refl _) (Nat.le_refl _) ⟨rfl, (Or.inl rfl), rfl, b_m, b_B, b_t, b_d, b_s, b_p, b_w, b_e, b_H, fr⟩
  · rw [if_pos c57] at hF
    refine rx_aload_n C dL_loads_298 1 rfl ?_
    replace hF := rx_biE hF; obtain ⟨y58, e_y58, hF⟩ := hF
    refine rx_ci (rx_rV C (w_X8_errorCode e_y58 b_B b_t) Y_X8_errorCode V_X8_errorCode m_L_82 (Or.inl ⟨_, _, _, _, b_B, rfl⟩) ⟨⟨rfl, rfl⟩, ⟨(Nat.le_of_ble_eq_true rfl), (Nat.le_of_ble_eq_true rfl)⟩, ⟨(Nat.le_of_ble_eq_true rfl), (Nat.le_of_ble_eq_true rfl)⟩⟩ rfl rfl (Nat.le_of_ble_eq_true rfl) dL_loads_299) (fun r hh n1 hpp => ?_)
    obtain ⟨rfl, hu⟩ := hpp
    cases hu
    refine rx_if_ne C dL_loads_302 331 (by decide) (fun c59 => ?_) (fun c59 => ?_)
    · rw [if_neg c59] at hF
      refine rx_iconst C dL_loads_331 (0 : Int32) (by decide) ?_
      obtain rfl := Option.some.inj hF
      exact rx_zret C (rx_nz (Or.inl rfl)) dL_loads_332 (Nat.le_refl _) (Nat.le_refl _) ⟨rfl, (Or.inl rfl), rfl, b_m, b_B, b_t, b_d, b_s, b_p, b_w, b_e, b_H, fr⟩
    · rw [if_pos c59] at hF
      refine rx_aload_n C dL_loads_305 1 rfl ?_
      replace hF := rx_biE hF; obtain ⟨y60, e_y60, hF⟩ := hF
      refine rx_ci (rx_rV C (w_X8_errorOffset e_y60 b_B b_t) Y_X8_errorOffset V_X8_errorOffset m_L_85 (Or.inl ⟨_, _, _, _, b_B, rfl⟩) ⟨⟨rfl, rfl⟩, ⟨(Nat.le_of_ble_eq_true rfl), (Nat.le_of_ble_eq_true rfl)⟩, ⟨(Nat.le_of_ble_eq_true rfl), (Nat.le_of_ble_eq_true rfl)⟩⟩ rfl rfl (Nat.le_of_ble_eq_true rfl) dL_loads_306) (fun r hh n1 hpp => ?_)
      obtain ⟨rfl, hu⟩ := hpp
      cases hu
      refine rx_iconst C dL_loads_309 (-1 : Int32) (by decide) ?_
      refine rx_icmp_ne C dL_loads_310 331 (by decide) (fun c61 => ?_) (fun c61 => ?_)
      · rw [if_neg c61] at hF
        refine rx_iconst C dL_loads_331 (0 : Int32) (by decide) ?_
        obtain rfl := Option.some.inj hF
        exact rx_zret C (rx_nz (Or.inl rfl)) dL_loads_332 (Nat.le_refl _) (Nat.le_refl _) ⟨rfl, (Or.inl rfl), rfl, b_m, b_B, b_t, b_d, b_s, b_p, b_w, b_e, b_H, fr⟩
      · rw [if_pos c61] at hF
        refine rx_aload_n C dL_loads_313 1 rfl ?_
        replace hF := rx_biE hF; obtain ⟨y62, e_y62, hF⟩ := hF
        refine rx_ci (rx_rV C (w_X8_turn e_y62 b_B b_p) Y_X8_turn V_X8_turn m_L_88 (Or.inl ⟨_, _, _, _, b_B, rfl⟩) ⟨⟨rfl, rfl⟩, ⟨(Nat.le_of_ble_eq_true rfl), (Nat.le_of_ble_eq_true rfl)⟩, ⟨(Nat.le_of_ble_eq_true rfl), (Nat.le_of_ble_eq_true rfl)⟩⟩ rfl rfl (Nat.le_of_ble_eq_true rfl) dL_loads_314) (fun r hh n1 hpp => ?_)
        obtain ⟨rfl, hu⟩ := hpp
        cases hu
        refine rx_if_ne C dL_loads_317 331 (by decide) (fun c63 => ?_) (fun c63 => ?_)
        · rw [if_neg c63] at hF
          refine rx_iconst C dL_loads_331 (0 : Int32) (by decide) ?_
          obtain rfl := Option.some.inj hF
          exact rx_zret C (rx_nz (Or.inl rfl)) dL_loads_332 (Nat.le_refl _) (Nat.le_refl _) ⟨rfl, (Or.inl rfl), rfl, b_m, b_B, b_t, b_d, b_s, b_p, b_w, b_e, b_H, fr⟩
        · rw [if_pos c63] at hF
          refine rx_aload_n C dL_loads_320 1 rfl ?_
          replace hF := rx_biE hF; obtain ⟨y64, e_y64, hF⟩ := hF
          refine rx_ci (rx_rV C (w_X8_tollBox e_y64 b_B b_p) Y_X8_tollBox V_X8_tollBox m_L_91 (Or.inl ⟨_, _, _, _, b_B, rfl⟩) ⟨⟨rfl, rfl⟩, ⟨(Nat.le_of_ble_eq_true rfl), (Nat.le_of_ble_eq_true rfl)⟩, ⟨(Nat.le_of_ble_eq_true rfl), (Nat.le_of_ble_eq_true rfl)⟩⟩ rfl rfl (Nat.le_of_ble_eq_true rfl) dL_loads_321) (fun r hh n1 hpp => ?_)
          obtain ⟨rfl, hu⟩ := hpp
          cases hu
          refine rx_if_ne C dL_loads_324 331 (by decide) (fun c65 => ?_) (fun c65 => ?_)
          · rw [if_neg c65] at hF
            refine rx_iconst C dL_loads_331 (0 : Int32) (by decide) ?_
            obtain rfl := Option.some.inj hF
            exact rx_zret C (rx_nz (Or.inl rfl)) dL_loads_332 (Nat.le_refl _) (Nat.le_refl _) ⟨rfl, (Or.inl rfl), rfl, b_m, b_B, b_t, b_d, b_s, b_p, b_w, b_e, b_H, fr⟩
          · rw [if_pos c65] at hF
            refine rx_iconst C dL_loads_327 (1 : Int32) (by decide) ?_
            refine rx_goto C dL_loads_328 332 (by decide) ?_
            obtain rfl := Option.some.inj hF
            exact rx_zret C (rx_nz (Or.inr rfl)) dL_loads_332 (Nat.le_refl _) (Nat.le_refl _) ⟨rfl, (Or.inr rfl), rfl, b_m, b_B, b_t, b_d, b_s, b_p, b_w, b_e, b_H, fr⟩
def F_L_king_2 (om : ob) (oB : ob) (os : ob) (x2 : Int32) : Nat → Int32 → Option (Int32)
  | 0, _ => none
  | fu + 1, x3 => if (om.1 3) ≤ x3 then (some x2) else ((rx_rem ((x2 + x3)) ((om.1 3))).bind fun v4 => (F_X8_isKing oB os v4).bind fun y5 => if y5 = (0 : Int32) then (F_L_king_2 om oB os x2 fu ((x3 + 1))) else ((rx_rem ((x2 + x3)) ((om.1 3))).bind fun v7 => some v7))
def F_L_king (om : ob) (oB : ob) (os : ob) (x2 : Int32) : Option (Int32) := F_L_king_2 om oB os x2 100000 ((0 : Int32))
set_option maxRecDepth 100000 in
set_option maxHeartbeats 4000000 in
theorem w_L_king {m b : Nat} {om : ob} {oB : ob} {os : ob} {x2 : Int32} {y : Int32} (hF : F_L_king om oB os x2 = some y) (b_m : bM k m om h) (b_B : bB k b oB h) (b_s : bS k (b + 12) os h) (hd0 : m + 3 ≤ b ∨ b + 204 ≤ m) : Met l yL_king (rx_ws yL_king cL_king 4 (some .int)) (rx_rm 3 63) (va_Pc [.ref m, .ref b, .int x2] (rx_G G k h n)) (va_Qi (fun r u => y = r ∧ u = (h, n)) (rx_B G k) (rx_A k)) 0 0 (rx_A k) := by
  refine rx_start [(0, .ref m), (1, .ref b), (2, .int x2)] rfl (Nat.le_of_ble_eq_true rfl) (by decide) rfl (fun P9 E9 S9 M9 A9 B9 me9 c9 C hname => ?_)
  unfold F_L_king at hF
  refine rx_iconst C dL_king_0 (0 : Int32) (by decide) ?_
  refine rx_istore_n C dL_king_1 (by decide) [(3, .int ((0 : Int32))), (0, .ref m), (1, .ref b), (2, .int x2)] rfl ?_
  have loop2 : ∀ (fu : Nat)  (x3 : Int32), F_L_king_2 om oB os x2 fu x3 = some y → bM k m om h → bB k b oB h → bS k (b + 12) os h → rx_W P9 l E9 (rx_rm 3 63) S9 M9 A9 B9 me9 c9 (MQ B9 (va_Qi (fun r u => y = r ∧ u = (h, n)) (rx_B G k) (rx_A k)) A9 S9 0 0 (rx_A k)) G k 4 0 0 h n 2 [(0, .ref m), (1, .ref b), (2, .int x2), (3, .int x3)] [] := by
    intro fu
    induction fu with
    | zero => intro x3 hF b_m b_B b_s; exact absurd hF (by simp [F_L_king_2])
    | succ fu ih_loop2 =>
      intro x3 hF b_m b_B b_s
      unfold F_L_king_2 at hF
      refine rx_iload_n C dL_king_2 3 rfl ?_
      refine rx_aload_n C dL_king_3 0 rfl ?_
      refine rx_getf C f_L_45 dL_king_4 b_m.1 rfl ?_
      refine rx_icmp_ge C dL_king_7 40 (by decide) (fun c3 => ?_) (fun c3 => ?_)
      · rw [if_pos c3] at hF
        refine rx_iload_n C dL_king_40 2 rfl ?_
        obtain rfl := Option.some.inj hF
        exact rx_iret C dL_king_41 (Nat.le_refl _) (Nat.le_refl _) ⟨rfl, rfl⟩
      · rw [if_neg c3] at hF
        refine rx_aload_n C dL_king_10 1 rfl ?_
        refine rx_iload_n C dL_king_11 2 rfl ?_
        refine rx_iload_n C dL_king_12 3 rfl ?_
        refine rx_iadd C dL_king_13 ?_
        refine rx_aload_n C dL_king_14 0 rfl ?_
        refine rx_getf C f_L_45 dL_king_15 b_m.1 rfl ?_
        replace hF := rx_biE hF; obtain ⟨v4, e_v4, hF⟩ := hF
        refine rx_iremF C dL_king_18 e_v4 ?_
        replace hF := rx_biE hF; obtain ⟨y5, e_y5, hF⟩ := hF
        refine rx_ci (rx_rV C (w_X8_isKing e_y5 b_B b_s) Y_X8_isKing V_X8_isKing m_L_94 (Or.inl ⟨_, _, _, _, b_B, rfl⟩) ⟨⟨rfl, rfl⟩, ⟨(Nat.le_of_ble_eq_true rfl), (Nat.le_of_ble_eq_true rfl)⟩, ⟨(Nat.le_of_ble_eq_true rfl), (Nat.le_of_ble_eq_true rfl)⟩⟩ rfl rfl (Nat.le_of_ble_eq_true rfl) dL_king_19) (fun r hh n1 hpp => ?_)
        obtain ⟨rfl, bo_y5, hu⟩ := hpp
        cases hu
        refine rx_if_eq C dL_king_22 34 (by decide) (fun c6 => ?_) (fun c6 => ?_)
        · rw [if_pos c6] at hF
          refine rx_iinc C dL_king_34 3 rfl (x3 + 1) rfl (by decide) [(3, .int ((x3 + 1))), (0, .ref m), (1, .ref b), (2, .int x2)] rfl ?_
          refine rx_goto C dL_king_37 2 (by decide) ?_
          refine rx_sub [1, 2, 3, 0] rfl ?_
          exact ih_loop2 _ hF b_m b_B b_s
        · rw [if_neg c6] at hF
          refine rx_iload_n C dL_king_25 2 rfl ?_
          refine rx_iload_n C dL_king_26 3 rfl ?_
          refine rx_iadd C dL_king_27 ?_
          refine rx_aload_n C dL_king_28 0 rfl ?_
          refine rx_getf C f_L_45 dL_king_29 b_m.1 rfl ?_
          replace hF := rx_biE hF; obtain ⟨v7, e_v7, hF⟩ := hF
          refine rx_iremF C dL_king_32 e_v7 ?_
          obtain rfl := Option.some.inj hF
          exact rx_iret C dL_king_33 (Nat.le_refl _) (Nat.le_refl _) ⟨rfl, rfl⟩
  refine rx_sub [1, 2, 3, 0] rfl ?_
  exact loop2 _ _ hF b_m b_B b_s
def F_L_acts (om : ob) (oB : ob) (os : ob) (op : ob) (ow : ob) (oe : ob) (oH : hst) (x2 : Int32) : Option (Int32 × ob × ob × ob × hst) := rx_le ((x2 / (16 : Int32))) fun v1 => (rx_rem v1 ((om.1 3))).bind fun v2 => (rx_rem ((v1 / (8 : Int32))) (((om.1 3) - (1 : Int32)))).bind fun v3 => (rx_rem (((v2 + (1 : Int32)) + v3)) ((om.1 3))).bind fun v4 => (F_L_king om oB os v4).bind fun y5 => if (x2 - x2 / (13 : Int32) * (13 : Int32)) = (0 : Int32) then ((F_X8_coins oB os op v2).bind fun y7 => if y7 ≤ (0 : Int32) then (some ((0 : Int32), op, ow, oe, oH)) else ((F_X8_coins oB os op v2).bind fun y9 => (rx_rem ((v1 / (64 : Int32))) y9).bind fun v10 => (F_X8_dropCoins oB os op ow oe oH v2 (((1 : Int32) + v10))).bind fun y11 => if y11.1 ≤ (0 : Int32) then (some ((0 : Int32), y11.2.1, ow, oe, y11.2.2)) else (some ((1 : Int32), y11.2.1, ow, oe, y11.2.2)))) else if (x2 - x2 / (13 : Int32) * (13 : Int32)) = (1 : Int32) then ((F_X8_isEast oB os op v2).bind fun y14 => (F_X8_groundCoins oB op y14).bind fun y15 => if y15 ≤ (0 : Int32) then (some ((0 : Int32), op, ow, oe, oH)) else ((F_X8_isEast oB os op v2).bind fun y17 => (F_X8_groundCoins oB op y17).bind fun y18 => (rx_rem ((v1 / (64 : Int32))) y18).bind fun v19 => (F_X8_pickCoins oB os op ow oe oH v2 (((1 : Int32) + v19))).bind fun y20 => if y20.1 ≤ (0 : Int32) then (some ((0 : Int32), y20.2.1, ow, oe, y20.2.2)) else (some ((1 : Int32), y20.2.1, ow, oe, y20.2.2)))) else if (x2 - x2 / (13 : Int32) * (13 : Int32)) = (2 : Int32) then ((F_X8_isKing oB os y5).bind fun y23 => if y23 = (0 : Int32) then (some ((0 : Int32), op, ow, oe, oH)) else ((F_X8_royalHolder oB os op y5).bind fun y25 => if y25 = v2 then ((F_X8_layRoyalCoin oB os op ow oe oH v2 y5).bind fun y27 => if y27.1 < (0 : Int32) then (some ((0 : Int32), y27.2.1, ow, oe, y27.2.2)) else (some ((1 : Int32), y27.2.1, ow, oe, y27.2.2))) else (some ((0 : Int32), op, ow, oe, oH)))) else if (x2 - x2 / (13 : Int32) * (13 : Int32)) = (3 : Int32) then ((F_X8_isKing oB os y5).bind fun y30 => if y30 = (0 : Int32) then (some ((0 : Int32), op, ow, oe, oH)) else ((F_X8_royalHolder oB os op y5).bind fun y32 => if y32 = (-1 : Int32) then ((F_X8_isRoyalCoinEast oB os op y5).bind fun y34 => (F_X8_isEast oB os op v2).bind fun y35 => if y34 = y35 then ((F_X8_liftRoyalCoin oB os op ow oe oH v2 y5).bind fun y37 => if y37.1 ≤ (0 : Int32) then (some ((0 : Int32), y37.2.1, ow, oe, y37.2.2)) else (some ((1 : Int32), y37.2.1, ow, oe, y37.2.2))) else (some ((0 : Int32), op, ow, oe, oH))) else (some ((0 : Int32), op, ow, oe, oH)))) else if (x2 - x2 / (13 : Int32) * (13 : Int32)) = (4 : Int32) then ((F_X8_isEast oB os op v2).bind fun y40 => (F_X8_isEast oB os op v4).bind fun y41 => if y40 = y41 then ((F_X8_swapRags oB os op ow oe oH v2 v4).bind fun y43 => if y43.1 < (0 : Int32) then (some ((0 : Int32), y43.2.1, ow, oe, y43.2.2)) else (some ((1 : Int32), y43.2.1, ow, oe, y43.2.2))) else (some ((0 : Int32), op, ow, oe, oH))) else if (x2 - x2 / (13 : Int32) * (13 : Int32)) = (5 : Int32) then ((F_X8_offer oB os op ow oe v2).bind fun y46 => if y46 = (-1 : Int32) then ((F_X8_joinQueue oB os op ow oe oH v2 (((v1 / (64 : Int32)) - (v1 / (64 : Int32)) / (6 : Int32) * (6 : Int32)))).bind fun y48 => if y48.1 < (0 : Int32) then (some ((0 : Int32), op, y48.2.1, y48.2.2.1, y48.2.2.2)) else (some ((1 : Int32), op, y48.2.1, y48.2.2.1, y48.2.2.2))) else (some ((0 : Int32), op, ow, oe, oH))) else if (x2 - x2 / (13 : Int32) * (13 : Int32)) = (6 : Int32) then ((F_X8_offer oB os op ow oe v2).bind fun y51 => if y51 = (-1 : Int32) then ((F_X8_joinQueue oB os op ow oe oH v2 (((v1 / (64 : Int32)) - (v1 / (64 : Int32)) / (6 : Int32) * (6 : Int32)))).bind fun y53 => if y53.1 < (0 : Int32) then (some ((0 : Int32), op, y53.2.1, y53.2.2.1, y53.2.2.2)) else (some ((1 : Int32), op, y53.2.1, y53.2.2.1, y53.2.2.2))) else (some ((0 : Int32), op, ow, oe, oH))) else if (x2 - x2 / (13 : Int32) * (13 : Int32)) = (7 : Int32) then ((F_X8_offer oB os op ow oe v2).bind fun y56 => if y56 = (-1 : Int32) then ((F_X8_joinQueue oB os op ow oe oH v2 (((v1 / (64 : Int32)) - (v1 / (64 : Int32)) / (6 : Int32) * (6 : Int32)))).bind fun y58 => if y58.1 < (0 : Int32) then (some ((0 : Int32), op, y58.2.1, y58.2.2.1, y58.2.2.2)) else (some ((1 : Int32), op, y58.2.1, y58.2.2.1, y58.2.2.2))) else (some ((0 : Int32), op, ow, oe, oH))) else if (x2 - x2 / (13 : Int32) * (13 : Int32)) = (8 : Int32) then ((F_X8_offer oB os op ow oe v2).bind fun y61 => if y61 < (0 : Int32) then (some ((0 : Int32), op, ow, oe, oH)) else ((F_X8_quitQueue oB os op ow oe oH v2).bind fun y63 => if y63.1 < (0 : Int32) then (some ((0 : Int32), op, y63.2.1, y63.2.2.1, y63.2.2.2)) else (some ((1 : Int32), op, y63.2.1, y63.2.2.1, y63.2.2.2)))) else if (x2 - x2 / (13 : Int32) * (13 : Int32)) = (9 : Int32) then ((F_X8_setPride oB os op ow oe oH v2 (((v1 / (64 : Int32)) - (v1 / (64 : Int32)) / (41 : Int32) * (41 : Int32)))).bind fun y66 => if y66.1 < (0 : Int32) then (some ((0 : Int32), y66.2.1, ow, oe, y66.2.2)) else (some ((1 : Int32), y66.2.1, ow, oe, y66.2.2))) else ((F_X8_passTurns oB os op ow oe oH (((1 : Int32) + (v1 - v1 / (3 : Int32) * (3 : Int32))))).bind fun y68 => if y68.1 < (0 : Int32) then (some ((0 : Int32), y68.2.1, y68.2.2.1, y68.2.2.2.1, y68.2.2.2.2)) else (some ((1 : Int32), y68.2.1, y68.2.2.1, y68.2.2.2.1, y68.2.2.2.2)))
set_option maxRecDepth 100000 in
set_option maxHeartbeats 4000000 in
theorem w_L_acts {m b : Nat} {om : ob} {oB : ob} {os : ob} {op : ob} {ow : ob} {oe : ob} {oH : hst} {x2 : Int32} {y : Int32 × ob × ob × ob × hst} (hF : F_L_acts om oB os op ow oe oH x2 = some y) (b_m : bM k m om h) (b_B : bB k b oB h) (b_s : bS k (b + 12) os h) (b_p : bP k (b + 21) (b + 12) op h) (b_w : bQ k (b + 21 + 10) ow h) (b_e : bQ k (b + 21 + 13) oe h) (b_H : bHH k (b + 69) (b + 12) oH h) (hd0 : m + 3 ≤ b ∨ b + 204 ≤ m) : Met l yL_acts (rx_ws yL_acts cL_acts 7 (some .boolean)) (rx_rm 7 171) (va_Pc [.ref m, .ref b, .int x2] (rx_G G k h n)) (va_Qi (fun r u => y.1 = r ∧ (y.1 = 0 ∨ y.1 = 1) ∧ u.2 = n ∧ bP k (b + 21) (b + 12) y.2.1 u.1 ∧ bQ k (b + 21 + 10) y.2.2.1 u.1 ∧ bQ k (b + 21 + 13) y.2.2.2.1 u.1 ∧ bHH k (b + 69) (b + 12) y.2.2.2.2 u.1 ∧ rx_fr [(b + 21, 10), (b + 21 + 10, 3), (b + 21 + 13, 3), (b + 69, 130)] h u.1) (rx_B G k) (rx_A k)) 0 0 (rx_A k) := by
  have s_m_p : m + 3 ≤ b + 21 ∨ b + 21 + 10 ≤ m := by omega
  have s_m_H : m + 3 ≤ b + 69 ∨ b + 69 + 130 ≤ m := by omega
  have s_B_p : b + 1 ≤ b + 21 ∨ b + 21 + 10 ≤ b := by omega
  have s_B_H : b + 1 ≤ b + 69 ∨ b + 69 + 130 ≤ b := by omega
  have s_s_p : b + 12 + 9 ≤ b + 21 ∨ b + 21 + 10 ≤ b + 12 := by omega
  have s_s_H : b + 12 + 9 ≤ b + 69 ∨ b + 69 + 130 ≤ b + 12 := by omega
  have s_w_p : b + 21 + 10 + 3 ≤ b + 21 ∨ b + 21 + 10 ≤ b + 21 + 10 := by omega
  have s_w_H : b + 21 + 10 + 3 ≤ b + 69 ∨ b + 69 + 130 ≤ b + 21 + 10 := by omega
  have s_e_p : b + 21 + 13 + 3 ≤ b + 21 ∨ b + 21 + 10 ≤ b + 21 + 13 := by omega
  have s_e_H : b + 21 + 13 + 3 ≤ b + 69 ∨ b + 69 + 130 ≤ b + 21 + 13 := by omega
  have s_m_w : m + 3 ≤ b + 21 + 10 ∨ b + 21 + 10 + 3 ≤ m := by omega
  have s_m_e : m + 3 ≤ b + 21 + 13 ∨ b + 21 + 13 + 3 ≤ m := by omega
  have s_B_w : b + 1 ≤ b + 21 + 10 ∨ b + 21 + 10 + 3 ≤ b := by omega
  have s_B_e : b + 1 ≤ b + 21 + 13 ∨ b + 21 + 13 + 3 ≤ b := by omega
  have s_s_w : b + 12 + 9 ≤ b + 21 + 10 ∨ b + 21 + 10 + 3 ≤ b + 12 := by omega
  have s_s_e : b + 12 + 9 ≤ b + 21 + 13 ∨ b + 21 + 13 + 3 ≤ b + 12 := by omega
  have s_p_w : b + 21 + 10 ≤ b + 21 + 10 ∨ b + 21 + 10 + 3 ≤ b + 21 := by omega
  have s_p_e : b + 21 + 10 ≤ b + 21 + 13 ∨ b + 21 + 13 + 3 ≤ b + 21 := by omega
  have s_p_H : b + 21 + 10 ≤ b + 69 ∨ b + 69 + 130 ≤ b + 21 := by omega
  refine rx_start [(0, .ref m), (1, .ref b), (2, .int x2)] rfl (Nat.le_of_ble_eq_true rfl) (by decide) rfl (fun P9 E9 S9 M9 A9 B9 me9 c9 C hname => ?_)
  unfold F_L_acts at hF
  have fr : rx_fr [(b + 21, 10), (b + 21 + 10, 3), (b + 21 + 13, 3), (b + 69, 130)] h h := rx_fr0
  refine rx_iload_n C dL_acts_0 2 rfl ?_
  refine rx_bipush C dL_acts_1 (16 : Int32) (by decide) ?_
  refine rx_idiv C dL_acts_3 (by decide) ?_
  replace hF := rx_leE hF; obtain ⟨v1, e_v1, hF⟩ := hF
  rw [e_v1]
  refine rx_istore_n C dL_acts_4 (by decide) [(3, .int v1), (0, .ref m), (1, .ref b), (2, .int x2)] rfl ?_
  refine rx_iload_n C dL_acts_5 0 rfl ?_
  refine rx_aload_n C dL_acts_6 1 rfl ?_
  refine rx_getf C f_L_45 dL_acts_7 b_m.1 rfl ?_
  replace hF := rx_biE hF; obtain ⟨v2, e_v2, hF⟩ := hF
  refine rx_iremF C dL_acts_10 e_v2 ?_
  refine rx_istore C dL_acts_11 (by decide) [(4, .int v2), (3, .int v1), (0, .ref m), (1, .ref b), (2, .int x2)] rfl ?_
  refine rx_iload C dL_acts_13 0 rfl ?_
  refine rx_iconst C dL_acts_15 (1 : Int32) (by decide) ?_
  refine rx_iadd C dL_acts_16 ?_
  refine rx_iload_n C dL_acts_17 1 rfl ?_
  refine rx_bipush C dL_acts_18 (8 : Int32) (by decide) ?_
  refine rx_idiv C dL_acts_20 (by decide) ?_
  refine rx_aload_n C dL_acts_21 2 rfl ?_
  refine rx_getf C f_L_45 dL_acts_22 b_m.1 rfl ?_
  refine rx_iconst C dL_acts_25 (1 : Int32) (by decide) ?_
  refine rx_isub C dL_acts_26 ?_
  replace hF := rx_biE hF; obtain ⟨v3, e_v3, hF⟩ := hF
  refine rx_iremF C dL_acts_27 e_v3 ?_
  refine rx_iadd C dL_acts_28 ?_
  refine rx_aload_n C dL_acts_29 2 rfl ?_
  refine rx_getf C f_L_45 dL_acts_30 b_m.1 rfl ?_
  replace hF := rx_biE hF; obtain ⟨v4, e_v4, hF⟩ := hF
  refine rx_iremF C dL_acts_33 e_v4 ?_
  refine rx_istore C dL_acts_34 (by decide) [(5, .int v4), (4, .int v2), (3, .int v1), (0, .ref m), (1, .ref b), (2, .int x2)] rfl ?_
  refine rx_aload_n C dL_acts_36 3 rfl ?_
  refine rx_aload_n C dL_acts_37 4 rfl ?_
  refine rx_iload C dL_acts_38 0 rfl ?_
  replace hF := rx_biE hF; obtain ⟨y5, e_y5, hF⟩ := hF
  refine rx_ci (rx_rV C (w_L_king e_y5 b_m b_B b_s (by omega)) Y_L_king V_L_king m_L_98 (Or.inl ⟨_, _, _, _, b_m.1, rfl⟩) ⟨⟨rfl, rfl⟩, ⟨(Nat.le_of_ble_eq_true rfl), (Nat.le_of_ble_eq_true rfl)⟩, ⟨(Nat.le_of_ble_eq_true rfl), (Nat.le_of_ble_eq_true rfl)⟩⟩ rfl rfl (Nat.le_of_ble_eq_true rfl) dL_acts_40) (fun r hh n1 hpp => ?_)
  obtain ⟨rfl, hu⟩ := hpp
  cases hu
  refine rx_istore C dL_acts_43 (by decide) [(6, .int y5), (5, .int v4), (4, .int v2), (3, .int v1), (0, .ref m), (1, .ref b), (2, .int x2)] rfl ?_
  refine rx_iload_n C dL_acts_45 6 rfl ?_
  refine rx_bipush C dL_acts_46 (13 : Int32) (by decide) ?_
  refine rx_irem C dL_acts_48 (by decide) ?_
  by_cases c6 : (x2 - x2 / (13 : Int32) * (13 : Int32)) = (0 : Int32)
  · rw [if_pos c6] at hF
    refine rx_tableIn C dL_acts_49 (by rw [c6]; decide) (by rw [c6]; decide) (by rw [c6]; rfl) 104 (by decide) ?_
    refine rx_aload_n C dL_acts_104 5 rfl ?_
    refine rx_iload C dL_acts_105 2 rfl ?_
    replace hF := rx_biE hF; obtain ⟨y7, e_y7, hF⟩ := hF
    refine rx_ci (rx_rV C (w_X8_coins e_y7 b_B b_s b_p) Y_X8_coins V_X8_coins m_L_101 (Or.inl ⟨_, _, _, _, b_B, rfl⟩) ⟨⟨rfl, rfl⟩, ⟨(Nat.le_of_ble_eq_true rfl), (Nat.le_of_ble_eq_true rfl)⟩, ⟨(Nat.le_of_ble_eq_true rfl), (Nat.le_of_ble_eq_true rfl)⟩⟩ rfl rfl (Nat.le_of_ble_eq_true rfl) dL_acts_107) (fun r hh n1 hpp => ?_)
    obtain ⟨rfl, hu⟩ := hpp
    cases hu
    refine rx_if_le C dL_acts_110 139 (by decide) (fun c8 => ?_) (fun c8 => ?_)
    · rw [if_pos c8] at hF
      refine rx_iconst C dL_acts_139 (0 : Int32) (by decide) ?_
      obtain rfl := Option.some.inj hF
      exact rx_zret C (rx_nz (Or.inl rfl)) dL_acts_140 (Nat.le_refl _) (Nat.le_refl _) ⟨rfl, (Or.inl rfl), rfl, b_p, b_w, b_e, b_H, fr⟩
    · rw [if_neg c8] at hF
      refine rx_aload_n C dL_acts_113 5 rfl ?_
      refine rx_iload C dL_acts_114 2 rfl ?_
      refine rx_iconst C dL_acts_116 (1 : Int32) (by decide) ?_
      refine rx_iload_n C dL_acts_117 3 rfl ?_
      refine rx_bipush C dL_acts_118 (64 : Int32) (by decide) ?_
      refine rx_idiv C dL_acts_120 (by decide) ?_
      refine rx_aload_n C dL_acts_121 5 rfl ?_
      refine rx_iload C dL_acts_122 2 rfl ?_
      replace hF := rx_biE hF; obtain ⟨y9, e_y9, hF⟩ := hF
      refine rx_ci (rx_rV C (w_X8_coins e_y9 b_B b_s b_p) Y_X8_coins V_X8_coins m_L_101 (Or.inl ⟨_, _, _, _, b_B, rfl⟩) ⟨⟨rfl, rfl⟩, ⟨(Nat.le_of_ble_eq_true rfl), (Nat.le_of_ble_eq_true rfl)⟩, ⟨(Nat.le_of_ble_eq_true rfl), (Nat.le_of_ble_eq_true rfl)⟩⟩ rfl rfl (Nat.le_of_ble_eq_true rfl) dL_acts_124) (fun r hh n1 hpp => ?_)
      obtain ⟨rfl, hu⟩ := hpp
      cases hu
      replace hF := rx_biE hF; obtain ⟨v10, e_v10, hF⟩ := hF
      refine rx_iremF C dL_acts_127 e_v10 ?_
      refine rx_iadd C dL_acts_128 ?_
      replace hF := rx_biE hF; obtain ⟨y11, e_y11, hF⟩ := hF
      refine rx_ci (rx_rV C (w_X8_dropCoins e_y11 b_B b_s b_p b_w b_e b_H) Y_X8_dropCoins V_X8_dropCoins m_L_104 (Or.inl ⟨_, _, _, _, b_B, rfl⟩) ⟨⟨rfl, rfl⟩, ⟨(Nat.le_of_ble_eq_true rfl), (Nat.le_of_ble_eq_true rfl)⟩, ⟨(Nat.le_of_ble_eq_true rfl), (Nat.le_of_ble_eq_true rfl)⟩⟩ rfl rfl (Nat.le_of_ble_eq_true rfl) dL_acts_129) (fun r hh n1 hpp => ?_)
      obtain ⟨rfl, hn, c_p, c_H, ff⟩ := hpp
      replace hn : n = n1 := Eq.symm hn
      subst hn
      replace b_p : bP k (b + 21) (b + 12) y11.2.1 hh := c_p
      clear c_p
      replace b_H : bHH k (b + 69) (b + 12) y11.2.2 hh := c_H
      clear c_H
      replace ff : rx_fr [(b + 21, 10), (b + 69, 130)] _ hh := ff
      replace b_m := b_m.keep ff ⟨s_m_p, s_m_H, trivial⟩
      replace b_B := b_B.keep ff ⟨s_B_p, s_B_H, trivial⟩
      replace b_s := b_s.keep ff ⟨s_s_p, s_s_H, trivial⟩
      replace b_w := b_w.keep ff ⟨s_w_p, s_w_H, trivial⟩
      replace b_e := b_e.keep ff ⟨s_e_p, s_e_H, trivial⟩
      replace fr := rx_frt fr ff (fun a ha => ⟨ha.1, ha.2.2.2.1, trivial⟩)
      refine rx_if_le C dL_acts_132 139 (by decide) (fun c12 => ?_) (fun c12 => ?_)
      · rw [if_pos c12] at hF
        refine rx_iconst C dL_acts_139 (0 : Int32) (by decide) ?_
        obtain rfl := Option.some.inj hF
        exact rx_zret C (rx_nz (Or.inl rfl)) dL_acts_140 (Nat.le_refl _) (Nat.le_refl _) ⟨rfl, (Or.inl rfl), rfl, b_p, b_w, b_e, b_H, fr⟩
      · rw [if_neg c12] at hF
        refine rx_iconst C dL_acts_135 (1 : Int32) (by decide) ?_
        refine rx_goto C dL_acts_136 140 (by decide) ?_
        obtain rfl := Option.some.inj hF
        exact rx_zret C (rx_nz (Or.inr rfl)) dL_acts_140 (Nat.le_refl _) (Nat.le_refl _) ⟨rfl, (Or.inr rfl), rfl, b_p, b_w, b_e, b_H, fr⟩
  rw [if_neg c6] at hF
  by_cases c13 : (x2 - x2 / (13 : Int32) * (13 : Int32)) = (1 : Int32)
  · rw [if_pos c13] at hF
    refine rx_tableIn C dL_acts_49 (by rw [c13]; decide) (by rw [c13]; decide) (by rw [c13]; rfl) 141 (by decide) ?_
    refine rx_aload_n C dL_acts_141 5 rfl ?_
    refine rx_aload_n C dL_acts_142 5 rfl ?_
    refine rx_iload C dL_acts_143 2 rfl ?_
    replace hF := rx_biE hF; obtain ⟨y14, e_y14, hF⟩ := hF
    refine rx_ci (rx_rV C (w_X8_isEast e_y14 b_B b_s b_p) Y_X8_isEast V_X8_isEast m_L_108 (Or.inl ⟨_, _, _, _, b_B, rfl⟩) ⟨⟨rfl, rfl⟩, ⟨(Nat.le_of_ble_eq_true rfl), (Nat.le_of_ble_eq_true rfl)⟩, ⟨(Nat.le_of_ble_eq_true rfl), (Nat.le_of_ble_eq_true rfl)⟩⟩ rfl rfl (Nat.le_of_ble_eq_true rfl) dL_acts_145) (fun r hh n1 hpp => ?_)
    obtain ⟨rfl, bo_y14, hu⟩ := hpp
    cases hu
    replace hF := rx_biE hF; obtain ⟨y15, e_y15, hF⟩ := hF
    refine rx_ci (rx_rV C (w_X8_groundCoins e_y15 b_B b_p) Y_X8_groundCoins V_X8_groundCoins m_L_111 (Or.inl ⟨_, _, _, _, b_B, rfl⟩) ⟨⟨rfl, rfl⟩, ⟨(Nat.le_of_ble_eq_true rfl), (Nat.le_of_ble_eq_true rfl)⟩, ⟨(Nat.le_of_ble_eq_true rfl), (Nat.le_of_ble_eq_true rfl)⟩⟩ rfl rfl (Nat.le_of_ble_eq_true rfl) dL_acts_148) (fun r hh n1 hpp => ?_)
    obtain ⟨rfl, hu⟩ := hpp
    cases hu
    refine rx_if_le C dL_acts_151 184 (by decide) (fun c16 => ?_) (fun c16 => ?_)
    · rw [if_pos c16] at hF
      refine rx_iconst C dL_acts_184 (0 : Int32) (by decide) ?_
      obtain rfl := Option.some.inj hF
      exact rx_zret C (rx_nz (Or.inl rfl)) dL_acts_185 (Nat.le_refl _) (Nat.le_refl _) ⟨rfl, (Or.inl rfl), rfl, b_p, b_w, b_e, b_H, fr⟩
    · rw [if_neg c16] at hF
      refine rx_aload_n C dL_acts_154 5 rfl ?_
      refine rx_iload C dL_acts_155 2 rfl ?_
      refine rx_iconst C dL_acts_157 (1 : Int32) (by decide) ?_
      refine rx_iload_n C dL_acts_158 3 rfl ?_
      refine rx_bipush C dL_acts_159 (64 : Int32) (by decide) ?_
      refine rx_idiv C dL_acts_161 (by decide) ?_
      refine rx_aload_n C dL_acts_162 5 rfl ?_
      refine rx_aload_n C dL_acts_163 5 rfl ?_
      refine rx_iload C dL_acts_164 2 rfl ?_
      replace hF := rx_biE hF; obtain ⟨y17, e_y17, hF⟩ := hF
      refine rx_ci (rx_rV C (w_X8_isEast e_y17 b_B b_s b_p) Y_X8_isEast V_X8_isEast m_L_108 (Or.inl ⟨_, _, _, _, b_B, rfl⟩) ⟨⟨rfl, rfl⟩, ⟨(Nat.le_of_ble_eq_true rfl), (Nat.le_of_ble_eq_true rfl)⟩, ⟨(Nat.le_of_ble_eq_true rfl), (Nat.le_of_ble_eq_true rfl)⟩⟩ rfl rfl (Nat.le_of_ble_eq_true rfl) dL_acts_166) (fun r hh n1 hpp => ?_)
      obtain ⟨rfl, bo_y17, hu⟩ := hpp
      cases hu
      replace hF := rx_biE hF; obtain ⟨y18, e_y18, hF⟩ := hF
      refine rx_ci (rx_rV C (w_X8_groundCoins e_y18 b_B b_p) Y_X8_groundCoins V_X8_groundCoins m_L_111 (Or.inl ⟨_, _, _, _, b_B, rfl⟩) ⟨⟨rfl, rfl⟩, ⟨(Nat.le_of_ble_eq_true rfl), (Nat.le_of_ble_eq_true rfl)⟩, ⟨(Nat.le_of_ble_eq_true rfl), (Nat.le_of_ble_eq_true rfl)⟩⟩ rfl rfl (Nat.le_of_ble_eq_true rfl) dL_acts_169) (fun r hh n1 hpp => ?_)
      obtain ⟨rfl, hu⟩ := hpp
      cases hu
      replace hF := rx_biE hF; obtain ⟨v19, e_v19, hF⟩ := hF
      refine rx_iremF C dL_acts_172 e_v19 ?_
      refine rx_iadd C dL_acts_173 ?_
      replace hF := rx_biE hF; obtain ⟨y20, e_y20, hF⟩ := hF
      refine rx_ci (rx_rV C (w_X8_pickCoins e_y20 b_B b_s b_p b_w b_e b_H) Y_X8_pickCoins V_X8_pickCoins m_L_115 (Or.inl ⟨_, _, _, _, b_B, rfl⟩) ⟨⟨rfl, rfl⟩, ⟨(Nat.le_of_ble_eq_true rfl), (Nat.le_of_ble_eq_true rfl)⟩, ⟨(Nat.le_of_ble_eq_true rfl), (Nat.le_of_ble_eq_true rfl)⟩⟩ rfl rfl (Nat.le_of_ble_eq_true rfl) dL_acts_174) (fun r hh n1 hpp => ?_)
      obtain ⟨rfl, hn, c_p, c_H, ff⟩ := hpp
      replace hn : n = n1 := Eq.symm hn
      subst hn
      replace b_p : bP k (b + 21) (b + 12) y20.2.1 hh := c_p
      clear c_p
      replace b_H : bHH k (b + 69) (b + 12) y20.2.2 hh := c_H
      clear c_H
      replace ff : rx_fr [(b + 21, 10), (b + 69, 130)] _ hh := ff
      replace b_m := b_m.keep ff ⟨s_m_p, s_m_H, trivial⟩
      replace b_B := b_B.keep ff ⟨s_B_p, s_B_H, trivial⟩
      replace b_s := b_s.keep ff ⟨s_s_p, s_s_H, trivial⟩
      replace b_w := b_w.keep ff ⟨s_w_p, s_w_H, trivial⟩
      replace b_e := b_e.keep ff ⟨s_e_p, s_e_H, trivial⟩
      replace fr := rx_frt fr ff (fun a ha => ⟨ha.1, ha.2.2.2.1, trivial⟩)
      refine rx_if_le C dL_acts_177 184 (by decide) (fun c21 => ?_) (fun c21 => ?_)
      · rw [if_pos c21] at hF
        refine rx_iconst C dL_acts_184 (0 : Int32) (by decide) ?_
        obtain rfl := Option.some.inj hF
        exact rx_zret C (rx_nz (Or.inl rfl)) dL_acts_185 (Nat.le_refl _) (Nat.le_refl _) ⟨rfl, (Or.inl rfl), rfl, b_p, b_w, b_e, b_H, fr⟩
      · rw [if_neg c21] at hF
        refine rx_iconst C dL_acts_180 (1 : Int32) (by decide) ?_
        refine rx_goto C dL_acts_181 185 (by decide) ?_
        obtain rfl := Option.some.inj hF
        exact rx_zret C (rx_nz (Or.inr rfl)) dL_acts_185 (Nat.le_refl _) (Nat.le_refl _) ⟨rfl, (Or.inr rfl), rfl, b_p, b_w, b_e, b_H, fr⟩
  rw [if_neg c13] at hF
  by_cases c22 : (x2 - x2 / (13 : Int32) * (13 : Int32)) = (2 : Int32)
  · rw [if_pos c22] at hF
    refine rx_tableIn C dL_acts_49 (by rw [c22]; decide) (by rw [c22]; decide) (by rw [c22]; rfl) 186 (by decide) ?_
    refine rx_aload_n C dL_acts_186 5 rfl ?_
    refine rx_iload C dL_acts_187 0 rfl ?_
    replace hF := rx_biE hF; obtain ⟨y23, e_y23, hF⟩ := hF
    refine rx_ci (rx_rV C (w_X8_isKing e_y23 b_B b_s) Y_X8_isKing V_X8_isKing m_L_94 (Or.inl ⟨_, _, _, _, b_B, rfl⟩) ⟨⟨rfl, rfl⟩, ⟨(Nat.le_of_ble_eq_true rfl), (Nat.le_of_ble_eq_true rfl)⟩, ⟨(Nat.le_of_ble_eq_true rfl), (Nat.le_of_ble_eq_true rfl)⟩⟩ rfl rfl (Nat.le_of_ble_eq_true rfl) dL_acts_189) (fun r hh n1 hpp => ?_)
    obtain ⟨rfl, bo_y23, hu⟩ := hpp
    cases hu
    refine rx_if_eq C dL_acts_192 221 (by decide) (fun c24 => ?_) (fun c24 => ?_)
    · rw [if_pos c24] at hF
      refine rx_iconst C dL_acts_221 (0 : Int32) (by decide) ?_
      obtain rfl := Option.some.inj hF
      exact rx_zret C (rx_nz (Or.inl rfl)) dL_acts_222 (Nat.le_refl _) (Nat.le_refl _) ⟨rfl, (Or.inl rfl), rfl, b_p, b_w, b_e, b_H, fr⟩
    · rw [if_neg c24] at hF
      refine rx_aload_n C dL_acts_195 5 rfl ?_
      refine rx_iload C dL_acts_196 0 rfl ?_
      replace hF := rx_biE hF; obtain ⟨y25, e_y25, hF⟩ := hF
      refine rx_ci (rx_rV C (w_X8_royalHolder e_y25 b_B b_s b_p) Y_X8_royalHolder V_X8_royalHolder m_L_118 (Or.inl ⟨_, _, _, _, b_B, rfl⟩) ⟨⟨rfl, rfl⟩, ⟨(Nat.le_of_ble_eq_true rfl), (Nat.le_of_ble_eq_true rfl)⟩, ⟨(Nat.le_of_ble_eq_true rfl), (Nat.le_of_ble_eq_true rfl)⟩⟩ rfl rfl (Nat.le_of_ble_eq_true rfl) dL_acts_198) (fun r hh n1 hpp => ?_)
      obtain ⟨rfl, hu⟩ := hpp
      cases hu
      refine rx_iload C dL_acts_201 2 rfl ?_
      refine rx_icmp_ne C dL_acts_203 221 (by decide) (fun c26 => ?_) (fun c26 => ?_)
      · rw [if_neg c26] at hF
        refine rx_iconst C dL_acts_221 (0 : Int32) (by decide) ?_
        obtain rfl := Option.some.inj hF
        exact rx_zret C (rx_nz (Or.inl rfl)) dL_acts_222 (Nat.le_refl _) (Nat.le_refl _) ⟨rfl, (Or.inl rfl), rfl, b_p, b_w, b_e, b_H, fr⟩
      · rw [if_pos c26] at hF
        refine rx_aload_n C dL_acts_206 5 rfl ?_
        refine rx_iload C dL_acts_207 2 rfl ?_
        refine rx_iload C dL_acts_209 0 rfl ?_
        replace hF := rx_biE hF; obtain ⟨y27, e_y27, hF⟩ := hF
        refine rx_ci (rx_rV C (w_X8_layRoyalCoin e_y27 b_B b_s b_p b_w b_e b_H) Y_X8_layRoyalCoin V_X8_layRoyalCoin m_L_121 (Or.inl ⟨_, _, _, _, b_B, rfl⟩) ⟨⟨rfl, rfl⟩, ⟨(Nat.le_of_ble_eq_true rfl), (Nat.le_of_ble_eq_true rfl)⟩, ⟨(Nat.le_of_ble_eq_true rfl), (Nat.le_of_ble_eq_true rfl)⟩⟩ rfl rfl (Nat.le_of_ble_eq_true rfl) dL_acts_211) (fun r hh n1 hpp => ?_)
        obtain ⟨rfl, hn, c_p, c_H, ff⟩ := hpp
        replace hn : n = n1 := Eq.symm hn
        subst hn
        replace b_p : bP k (b + 21) (b + 12) y27.2.1 hh := c_p
        clear c_p
        replace b_H : bHH k (b + 69) (b + 12) y27.2.2 hh := c_H
        clear c_H
        replace ff : rx_fr [(b + 21, 10), (b + 69, 130)] _ hh := ff
        replace b_m := b_m.keep ff ⟨s_m_p, s_m_H, trivial⟩
        replace b_B := b_B.keep ff ⟨s_B_p, s_B_H, trivial⟩
        replace b_s := b_s.keep ff ⟨s_s_p, s_s_H, trivial⟩
        replace b_w := b_w.keep ff ⟨s_w_p, s_w_H, trivial⟩
        replace b_e := b_e.keep ff ⟨s_e_p, s_e_H, trivial⟩
        replace fr := rx_frt fr ff (fun a ha => ⟨ha.1, ha.2.2.2.1, trivial⟩)
        refine rx_if_lt C dL_acts_214 221 (by decide) (fun c28 => ?_) (fun c28 => ?_)
        · rw [if_pos c28] at hF
          refine rx_iconst C dL_acts_221 (0 : Int32) (by decide) ?_
          obtain rfl := Option.some.inj hF
          exact rx_zret C (rx_nz (Or.inl rfl)) dL_acts_222 (Nat.le_refl _) (Nat.le_refl _) ⟨rfl, (Or.inl rfl), rfl, b_p, b_w, b_e, b_H, fr⟩
        · rw [if_neg c28] at hF
          refine rx_iconst C dL_acts_217 (1 : Int32) (by decide) ?_
          refine rx_goto C dL_acts_218 222 (by decide) ?_
          obtain rfl := Option.some.inj hF
          exact rx_zret C (rx_nz (Or.inr rfl)) dL_acts_222 (Nat.le_refl _) (Nat.le_refl _) ⟨rfl, (Or.inr rfl), rfl, b_p, b_w, b_e, b_H, fr⟩
  rw [if_neg c22] at hF
  by_cases c29 : (x2 - x2 / (13 : Int32) * (13 : Int32)) = (3 : Int32)
  · rw [if_pos c29] at hF
    refine rx_tableIn C dL_acts_49 (by rw [c29]; decide) (by rw [c29]; decide) (by rw [c29]; rfl) 223 (by decide) ?_
    refine rx_aload_n C dL_acts_223 5 rfl ?_
    refine rx_iload C dL_acts_224 0 rfl ?_
    replace hF := rx_biE hF; obtain ⟨y30, e_y30, hF⟩ := hF
    refine rx_ci (rx_rV C (w_X8_isKing e_y30 b_B b_s) Y_X8_isKing V_X8_isKing m_L_94 (Or.inl ⟨_, _, _, _, b_B, rfl⟩) ⟨⟨rfl, rfl⟩, ⟨(Nat.le_of_ble_eq_true rfl), (Nat.le_of_ble_eq_true rfl)⟩, ⟨(Nat.le_of_ble_eq_true rfl), (Nat.le_of_ble_eq_true rfl)⟩⟩ rfl rfl (Nat.le_of_ble_eq_true rfl) dL_acts_226) (fun r hh n1 hpp => ?_)
    obtain ⟨rfl, bo_y30, hu⟩ := hpp
    cases hu
    refine rx_if_eq C dL_acts_229 272 (by decide) (fun c31 => ?_) (fun c31 => ?_)
    · rw [if_pos c31] at hF
      refine rx_iconst C dL_acts_272 (0 : Int32) (by decide) ?_
      obtain rfl := Option.some.inj hF
      exact rx_zret C (rx_nz (Or.inl rfl)) dL_acts_273 (Nat.le_refl _) (Nat.le_refl _) ⟨rfl, (Or.inl rfl), rfl, b_p, b_w, b_e, b_H, fr⟩
    · rw [if_neg c31] at hF
      refine rx_aload_n C dL_acts_232 5 rfl ?_
      refine rx_iload C dL_acts_233 0 rfl ?_
      replace hF := rx_biE hF; obtain ⟨y32, e_y32, hF⟩ := hF
      refine rx_ci (rx_rV C (w_X8_royalHolder e_y32 b_B b_s b_p) Y_X8_royalHolder V_X8_royalHolder m_L_118 (Or.inl ⟨_, _, _, _, b_B, rfl⟩) ⟨⟨rfl, rfl⟩, ⟨(Nat.le_of_ble_eq_true rfl), (Nat.le_of_ble_eq_true rfl)⟩, ⟨(Nat.le_of_ble_eq_true rfl), (Nat.le_of_ble_eq_true rfl)⟩⟩ rfl rfl (Nat.le_of_ble_eq_true rfl) dL_acts_235) (fun r hh n1 hpp => ?_)
      obtain ⟨rfl, hu⟩ := hpp
      cases hu
      refine rx_iconst C dL_acts_238 (-1 : Int32) (by decide) ?_
      refine rx_icmp_ne C dL_acts_239 272 (by decide) (fun c33 => ?_) (fun c33 => ?_)
      · rw [if_neg c33] at hF
        refine rx_iconst C dL_acts_272 (0 : Int32) (by decide) ?_
        obtain rfl := Option.some.inj hF
        exact rx_zret C (rx_nz (Or.inl rfl)) dL_acts_273 (Nat.le_refl _) (Nat.le_refl _) ⟨rfl, (Or.inl rfl), rfl, b_p, b_w, b_e, b_H, fr⟩
      · rw [if_pos c33] at hF
        refine rx_aload_n C dL_acts_242 5 rfl ?_
        refine rx_iload C dL_acts_243 0 rfl ?_
        replace hF := rx_biE hF; obtain ⟨y34, e_y34, hF⟩ := hF
        refine rx_ci (rx_rV C (w_X8_isRoyalCoinEast e_y34 b_B b_s b_p) Y_X8_isRoyalCoinEast V_X8_isRoyalCoinEast m_L_124 (Or.inl ⟨_, _, _, _, b_B, rfl⟩) ⟨⟨rfl, rfl⟩, ⟨(Nat.le_of_ble_eq_true rfl), (Nat.le_of_ble_eq_true rfl)⟩, ⟨(Nat.le_of_ble_eq_true rfl), (Nat.le_of_ble_eq_true rfl)⟩⟩ rfl rfl (Nat.le_of_ble_eq_true rfl) dL_acts_245) (fun r hh n1 hpp => ?_)
        obtain ⟨rfl, bo_y34, hu⟩ := hpp
        cases hu
        refine rx_aload_n C dL_acts_248 5 rfl ?_
        refine rx_iload C dL_acts_249 2 rfl ?_
        replace hF := rx_biE hF; obtain ⟨y35, e_y35, hF⟩ := hF
        refine rx_ci (rx_rV C (w_X8_isEast e_y35 b_B b_s b_p) Y_X8_isEast V_X8_isEast m_L_108 (Or.inl ⟨_, _, _, _, b_B, rfl⟩) ⟨⟨rfl, rfl⟩, ⟨(Nat.le_of_ble_eq_true rfl), (Nat.le_of_ble_eq_true rfl)⟩, ⟨(Nat.le_of_ble_eq_true rfl), (Nat.le_of_ble_eq_true rfl)⟩⟩ rfl rfl (Nat.le_of_ble_eq_true rfl) dL_acts_251) (fun r hh n1 hpp => ?_)
        obtain ⟨rfl, bo_y35, hu⟩ := hpp
        cases hu
        refine rx_icmp_ne C dL_acts_254 272 (by decide) (fun c36 => ?_) (fun c36 => ?_)
        · rw [if_neg c36] at hF
          refine rx_iconst C dL_acts_272 (0 : Int32) (by decide) ?_
          obtain rfl := Option.some.inj hF
          exact rx_zret C (rx_nz (Or.inl rfl)) dL_acts_273 (Nat.le_refl _) (Nat.le_refl _) ⟨rfl, (Or.inl rfl), rfl, b_p, b_w, b_e, b_H, fr⟩
        · rw [if_pos c36] at hF
          refine rx_aload_n C dL_acts_257 5 rfl ?_
          refine rx_iload C dL_acts_258 2 rfl ?_
          refine rx_iload C dL_acts_260 0 rfl ?_
          replace hF := rx_biE hF; obtain ⟨y37, e_y37, hF⟩ := hF
          refine rx_ci (rx_rV C (w_X8_liftRoyalCoin e_y37 b_B b_s b_p b_w b_e b_H) Y_X8_liftRoyalCoin V_X8_liftRoyalCoin m_L_127 (Or.inl ⟨_, _, _, _, b_B, rfl⟩) ⟨⟨rfl, rfl⟩, ⟨(Nat.le_of_ble_eq_true rfl), (Nat.le_of_ble_eq_true rfl)⟩, ⟨(Nat.le_of_ble_eq_true rfl), (Nat.le_of_ble_eq_true rfl)⟩⟩ rfl rfl (Nat.le_of_ble_eq_true rfl) dL_acts_262) (fun r hh n1 hpp => ?_)
          obtain ⟨rfl, hn, c_p, c_H, ff⟩ := hpp
          replace hn : n = n1 := Eq.symm hn
          subst hn
          replace b_p : bP k (b + 21) (b + 12) y37.2.1 hh := c_p
          clear c_p
          replace b_H : bHH k (b + 69) (b + 12) y37.2.2 hh := c_H
          clear c_H
          replace ff : rx_fr [(b + 21, 10), (b + 69, 130)] _ hh := ff
          replace b_m := b_m.keep ff ⟨s_m_p, s_m_H, trivial⟩
          replace b_B := b_B.keep ff ⟨s_B_p, s_B_H, trivial⟩
          replace b_s := b_s.keep ff ⟨s_s_p, s_s_H, trivial⟩
          replace b_w := b_w.keep ff ⟨s_w_p, s_w_H, trivial⟩
          replace b_e := b_e.keep ff ⟨s_e_p, s_e_H, trivial⟩
          replace fr := rx_frt fr ff (fun a ha => ⟨ha.1, ha.2.2.2.1, trivial⟩)
          refine rx_if_le C dL_acts_265 272 (by decide) (fun c38 => ?_) (fun c38 => ?_)
          · rw [if_pos c38] at hF
            refine rx_iconst C dL_acts_272 (0 : Int32) (by decide) ?_
            obtain rfl := Option.some.inj hF
            exact rx_zret C (rx_nz (Or.inl rfl)) dL_acts_273 (Nat.le_refl _) (Nat.le_refl _) ⟨rfl, (Or.inl rfl), rfl, b_p, b_w, b_e, b_H, fr⟩
          · rw [if_neg c38] at hF
            refine rx_iconst C dL_acts_268 (1 : Int32) (by decide) ?_
            refine rx_goto C dL_acts_269 273 (by decide) ?_
            obtain rfl := Option.some.inj hF
            exact rx_zret C (rx_nz (Or.inr rfl)) dL_acts_273 (Nat.le_refl _) (Nat.le_refl _) ⟨rfl, (Or.inr rfl), rfl, b_p, b_w, b_e, b_H, fr⟩
  rw [if_neg c29] at hF
  by_cases c39 : (x2 - x2 / (13 : Int32) * (13 : Int32)) = (4 : Int32)
  · rw [if_pos c39] at hF
    refine rx_tableIn C dL_acts_49 (by rw [c39]; decide) (by rw [c39]; decide) (by rw [c39]; rfl) 274 (by decide) ?_
    refine rx_aload_n C dL_acts_274 5 rfl ?_
    refine rx_iload C dL_acts_275 2 rfl ?_
    replace hF := rx_biE hF; obtain ⟨y40, e_y40, hF⟩ := hF
    refine rx_ci (rx_rV C (w_X8_isEast e_y40 b_B b_s b_p) Y_X8_isEast V_X8_isEast m_L_108 (Or.inl ⟨_, _, _, _, b_B, rfl⟩) ⟨⟨rfl, rfl⟩, ⟨(Nat.le_of_ble_eq_true rfl), (Nat.le_of_ble_eq_true rfl)⟩, ⟨(Nat.le_of_ble_eq_true rfl), (Nat.le_of_ble_eq_true rfl)⟩⟩ rfl rfl (Nat.le_of_ble_eq_true rfl) dL_acts_277) (fun r hh n1 hpp => ?_)
    obtain ⟨rfl, bo_y40, hu⟩ := hpp
    cases hu
    refine rx_aload_n C dL_acts_280 5 rfl ?_
    refine rx_iload C dL_acts_281 1 rfl ?_
    replace hF := rx_biE hF; obtain ⟨y41, e_y41, hF⟩ := hF
    refine rx_ci (rx_rV C (w_X8_isEast e_y41 b_B b_s b_p) Y_X8_isEast V_X8_isEast m_L_108 (Or.inl ⟨_, _, _, _, b_B, rfl⟩) ⟨⟨rfl, rfl⟩, ⟨(Nat.le_of_ble_eq_true rfl), (Nat.le_of_ble_eq_true rfl)⟩, ⟨(Nat.le_of_ble_eq_true rfl), (Nat.le_of_ble_eq_true rfl)⟩⟩ rfl rfl (Nat.le_of_ble_eq_true rfl) dL_acts_283) (fun r hh n1 hpp => ?_)
    obtain ⟨rfl, bo_y41, hu⟩ := hpp
    cases hu
    refine rx_icmp_ne C dL_acts_286 304 (by decide) (fun c42 => ?_) (fun c42 => ?_)
    · rw [if_neg c42] at hF
      refine rx_iconst C dL_acts_304 (0 : Int32) (by decide) ?_
      obtain rfl := Option.some.inj hF
      exact rx_zret C (rx_nz (Or.inl rfl)) dL_acts_305 (Nat.le_refl _) (Nat.le_refl _) ⟨rfl, (Or.inl rfl), rfl, b_p, b_w, b_e, b_H, fr⟩
    · rw [if_pos c42] at hF
      refine rx_aload_n C dL_acts_289 5 rfl ?_
      refine rx_iload C dL_acts_290 2 rfl ?_
      refine rx_iload C dL_acts_292 1 rfl ?_
      replace hF := rx_biE hF; obtain ⟨y43, e_y43, hF⟩ := hF
      refine rx_ci (rx_rV C (w_X8_swapRags e_y43 b_B b_s b_p b_w b_e b_H) Y_X8_swapRags V_X8_swapRags m_L_130 (Or.inl ⟨_, _, _, _, b_B, rfl⟩) ⟨⟨rfl, rfl⟩, ⟨(Nat.le_of_ble_eq_true rfl), (Nat.le_of_ble_eq_true rfl)⟩, ⟨(Nat.le_of_ble_eq_true rfl), (Nat.le_of_ble_eq_true rfl)⟩⟩ rfl rfl (Nat.le_of_ble_eq_true rfl) dL_acts_294) (fun r hh n1 hpp => ?_)
      obtain ⟨rfl, hn, c_p, c_H, ff⟩ := hpp
      replace hn : n = n1 := Eq.symm hn
      subst hn
      replace b_p : bP k (b + 21) (b + 12) y43.2.1 hh := c_p
      clear c_p
      replace b_H : bHH k (b + 69) (b + 12) y43.2.2 hh := c_H
      clear c_H
      replace ff : rx_fr [(b + 21, 10), (b + 69, 130)] _ hh := ff
      replace b_m := b_m.keep ff ⟨s_m_p, s_m_H, trivial⟩
      replace b_B := b_B.keep ff ⟨s_B_p, s_B_H, trivial⟩
      replace b_s := b_s.keep ff ⟨s_s_p, s_s_H, trivial⟩
      replace b_w := b_w.keep ff ⟨s_w_p, s_w_H, trivial⟩
      replace b_e := b_e.keep ff ⟨s_e_p, s_e_H, trivial⟩
      replace fr := rx_frt fr ff (fun a ha => ⟨ha.1, ha.2.2.2.1, trivial⟩)
      refine rx_if_lt C dL_acts_297 304 (by decide) (fun c44 => ?_) (fun c44 => ?_)
      · rw [if_pos c44] at hF
        refine rx_iconst C dL_acts_304 (0 : Int32) (by decide) ?_
        obtain rfl := Option.some.inj hF
        exact rx_zret C (rx_nz (Or.inl rfl)) dL_acts_305 (Nat.le_refl _) (Nat.le_refl _) ⟨rfl, (Or.inl rfl), rfl, b_p, b_w, b_e, b_H, fr⟩
      · rw [if_neg c44] at hF
        refine rx_iconst C dL_acts_300 (1 : Int32) (by decide) ?_
        refine rx_goto C dL_acts_301 305 (by decide) ?_
        obtain rfl := Option.some.inj hF
        exact rx_zret C (rx_nz (Or.inr rfl)) dL_acts_305 (Nat.le_refl _) (Nat.le_refl _) ⟨rfl, (Or.inr rfl), rfl, b_p, b_w, b_e, b_H, fr⟩
  rw [if_neg c39] at hF
  by_cases c45 : (x2 - x2 / (13 : Int32) * (13 : Int32)) = (5 : Int32)
  · rw [if_pos c45] at hF
    refine rx_tableIn C dL_acts_49 (by rw [c45]; decide) (by rw [c45]; decide) (by rw [c45]; rfl) 306 (by decide) ?_
    refine rx_aload_n C dL_acts_306 5 rfl ?_
    refine rx_iload C dL_acts_307 2 rfl ?_
    replace hF := rx_biE hF; obtain ⟨y46, e_y46, hF⟩ := hF
    refine rx_ci (rx_rV C (w_X8_offer e_y46 b_B b_s b_p b_w b_e) Y_X8_offer V_X8_offer m_L_133 (Or.inl ⟨_, _, _, _, b_B, rfl⟩) ⟨⟨rfl, rfl⟩, ⟨(Nat.le_of_ble_eq_true rfl), (Nat.le_of_ble_eq_true rfl)⟩, ⟨(Nat.le_of_ble_eq_true rfl), (Nat.le_of_ble_eq_true rfl)⟩⟩ rfl rfl (Nat.le_of_ble_eq_true rfl) dL_acts_309) (fun r hh n1 hpp => ?_)
    obtain ⟨rfl, hu⟩ := hpp
    cases hu
    refine rx_iconst C dL_acts_312 (-1 : Int32) (by decide) ?_
    refine rx_icmp_ne C dL_acts_313 336 (by decide) (fun c47 => ?_) (fun c47 => ?_)
    · rw [if_neg c47] at hF
      refine rx_iconst C dL_acts_336 (0 : Int32) (by decide) ?_
      obtain rfl := Option.some.inj hF
      exact rx_zret C (rx_nz (Or.inl rfl)) dL_acts_337 (Nat.le_refl _) (Nat.le_refl _) ⟨rfl, (Or.inl rfl), rfl, b_p, b_w, b_e, b_H, fr⟩
    · rw [if_pos c47] at hF
      refine rx_aload_n C dL_acts_316 5 rfl ?_
      refine rx_iload C dL_acts_317 2 rfl ?_
      refine rx_iload_n C dL_acts_319 3 rfl ?_
      refine rx_bipush C dL_acts_320 (64 : Int32) (by decide) ?_
      refine rx_idiv C dL_acts_322 (by decide) ?_
      refine rx_bipush C dL_acts_323 (6 : Int32) (by decide) ?_
      refine rx_irem C dL_acts_325 (by decide) ?_
      replace hF := rx_biE hF; obtain ⟨y48, e_y48, hF⟩ := hF
      refine rx_ci (rx_rV C (w_X8_joinQueue e_y48 b_B b_s b_p b_w b_e b_H) Y_X8_joinQueue V_X8_joinQueue m_L_136 (Or.inl ⟨_, _, _, _, b_B, rfl⟩) ⟨⟨rfl, rfl⟩, ⟨(Nat.le_of_ble_eq_true rfl), (Nat.le_of_ble_eq_true rfl)⟩, ⟨(Nat.le_of_ble_eq_true rfl), (Nat.le_of_ble_eq_true rfl)⟩⟩ rfl rfl (Nat.le_of_ble_eq_true rfl) dL_acts_326) (fun r hh n1 hpp => ?_)
      obtain ⟨rfl, hn, c_w, c_e, c_H, ff⟩ := hpp
      replace hn : n = n1 := Eq.symm hn
      subst hn
      replace b_w : bQ k (b + 21 + 10) y48.2.1 hh := c_w
      clear c_w
      replace b_e : bQ k (b + 21 + 13) y48.2.2.1 hh := c_e
      clear c_e
      replace b_H : bHH k (b + 69) (b + 12) y48.2.2.2 hh := c_H
      clear c_H
      replace ff : rx_fr [(b + 21 + 10, 3), (b + 21 + 13, 3), (b + 69, 130)] _ hh := ff
      replace b_m := b_m.keep ff ⟨s_m_w, s_m_e, s_m_H, trivial⟩
      replace b_B := b_B.keep ff ⟨s_B_w, s_B_e, s_B_H, trivial⟩
      replace b_s := b_s.keep ff ⟨s_s_w, s_s_e, s_s_H, trivial⟩
      replace b_p := b_p.keep ff ⟨s_p_w, s_p_e, s_p_H, trivial⟩
      replace fr := rx_frt fr ff (fun a ha => ⟨ha.2.1, ha.2.2.1, ha.2.2.2.1, trivial⟩)
      refine rx_if_lt C dL_acts_329 336 (by decide) (fun c49 => ?_) (fun c49 => ?_)
      · rw [if_pos c49] at hF
        refine rx_iconst C dL_acts_336 (0 : Int32) (by decide) ?_
        obtain rfl := Option.some.inj hF
        exact rx_zret C (rx_nz (Or.inl rfl)) dL_acts_337 (Nat.le_refl _) (Nat.le_refl _) ⟨rfl, (Or.inl rfl), rfl, b_p, b_w, b_e, b_H, fr⟩
      · rw [if_neg c49] at hF
        refine rx_iconst C dL_acts_332 (1 : Int32) (by decide) ?_
        refine rx_goto C dL_acts_333 337 (by decide) ?_
        obtain rfl := Option.some.inj hF
        exact rx_zret C (rx_nz (Or.inr rfl)) dL_acts_337 (Nat.le_refl _) (Nat.le_refl _) ⟨rfl, (Or.inr rfl), rfl, b_p, b_w, b_e, b_H, fr⟩
  rw [if_neg c45] at hF
  by_cases c50 : (x2 - x2 / (13 : Int32) * (13 : Int32)) = (6 : Int32)
  · rw [if_pos c50] at hF
    refine rx_tableIn C dL_acts_49 (by rw [c50]; decide) (by rw [c50]; decide) (by rw [c50]; rfl) 306 (by decide) ?_
    refine rx_aload_n C dL_acts_306 5 rfl ?_
    refine rx_iload C dL_acts_307 2 rfl ?_
    replace hF := rx_biE hF; obtain ⟨y51, e_y51, hF⟩ := hF
    refine rx_ci (rx_rV C (w_X8_offer e_y51 b_B b_s b_p b_w b_e) Y_X8_offer V_X8_offer m_L_133 (Or.inl ⟨_, _, _, _, b_B, rfl⟩) ⟨⟨rfl, rfl⟩, ⟨(Nat.le_of_ble_eq_true rfl), (Nat.le_of_ble_eq_true rfl)⟩, ⟨(Nat.le_of_ble_eq_true rfl), (Nat.le_of_ble_eq_true rfl)⟩⟩ rfl rfl (Nat.le_of_ble_eq_true rfl) dL_acts_309) (fun r hh n1 hpp => ?_)
    obtain ⟨rfl, hu⟩ := hpp
    cases hu
    refine rx_iconst C dL_acts_312 (-1 : Int32) (by decide) ?_
    refine rx_icmp_ne C dL_acts_313 336 (by decide) (fun c52 => ?_) (fun c52 => ?_)
    · rw [if_neg c52] at hF
      refine rx_iconst C dL_acts_336 (0 : Int32) (by decide) ?_
      obtain rfl := Option.some.inj hF
      exact rx_zret C (rx_nz (Or.inl rfl)) dL_acts_337 (Nat.le_refl _) (Nat.le_refl _) ⟨rfl, (Or.inl rfl), rfl, b_p, b_w, b_e, b_H, fr⟩
    · rw [if_pos c52] at hF
      refine rx_aload_n C dL_acts_316 5 rfl ?_
      refine rx_iload C dL_acts_317 2 rfl ?_
      refine rx_iload_n C dL_acts_319 3 rfl ?_
      refine rx_bipush C dL_acts_320 (64 : Int32) (by decide) ?_
      refine rx_idiv C dL_acts_322 (by decide) ?_
      refine rx_bipush C dL_acts_323 (6 : Int32) (by decide) ?_
      refine rx_irem C dL_acts_325 (by decide) ?_
      replace hF := rx_biE hF; obtain ⟨y53, e_y53, hF⟩ := hF
      refine rx_ci (rx_rV C (w_X8_joinQueue e_y53 b_B b_s b_p b_w b_e b_H) Y_X8_joinQueue V_X8_joinQueue m_L_136 (Or.inl ⟨_, _, _, _, b_B, rfl⟩) ⟨⟨rfl, rfl⟩, ⟨(Nat.le_of_ble_eq_true rfl), (Nat.le_of_ble_eq_true rfl)⟩, ⟨(Nat.le_of_ble_eq_true rfl), (Nat.le_of_ble_eq_true rfl)⟩⟩ rfl rfl (Nat.le_of_ble_eq_true rfl) dL_acts_326) (fun r hh n1 hpp => ?_)
      obtain ⟨rfl, hn, c_w, c_e, c_H, ff⟩ := hpp
      replace hn : n = n1 := Eq.symm hn
      subst hn
      replace b_w : bQ k (b + 21 + 10) y53.2.1 hh := c_w
      clear c_w
      replace b_e : bQ k (b + 21 + 13) y53.2.2.1 hh := c_e
      clear c_e
      replace b_H : bHH k (b + 69) (b + 12) y53.2.2.2 hh := c_H
      clear c_H
      replace ff : rx_fr [(b + 21 + 10, 3), (b + 21 + 13, 3), (b + 69, 130)] _ hh := ff
      replace b_m := b_m.keep ff ⟨s_m_w, s_m_e, s_m_H, trivial⟩
      replace b_B := b_B.keep ff ⟨s_B_w, s_B_e, s_B_H, trivial⟩
      replace b_s := b_s.keep ff ⟨s_s_w, s_s_e, s_s_H, trivial⟩
      replace b_p := b_p.keep ff ⟨s_p_w, s_p_e, s_p_H, trivial⟩
      replace fr := rx_frt fr ff (fun a ha => ⟨ha.2.1, ha.2.2.1, ha.2.2.2.1, trivial⟩)
      refine rx_if_lt C dL_acts_329 336 (by decide) (fun c54 => ?_) (fun c54 => ?_)
      · rw [if_pos c54] at hF
        refine rx_iconst C dL_acts_336 (0 : Int32) (by decide) ?_
        obtain rfl := Option.some.inj hF
        exact rx_zret C (rx_nz (Or.inl rfl)) dL_acts_337 (Nat.le_refl _) (Nat.le_refl _) ⟨rfl, (Or.inl rfl), rfl, b_p, b_w, b_e, b_H, fr⟩
      · rw [if_neg c54] at hF
        refine rx_iconst C dL_acts_332 (1 : Int32) (by decide) ?_
        refine rx_goto C dL_acts_333 337 (by decide) ?_
        obtain rfl := Option.some.inj hF
        exact rx_zret C (rx_nz (Or.inr rfl)) dL_acts_337 (Nat.le_refl _) (Nat.le_refl _) ⟨rfl, (Or.inr rfl), rfl, b_p, b_w, b_e, b_H, fr⟩
  rw [if_neg c50] at hF
  by_cases c55 : (x2 - x2 / (13 : Int32) * (13 : Int32)) = (7 : Int32)
  · rw [if_pos c55] at hF
    refine rx_tableIn C dL_acts_49 (by rw [c55]; decide) (by rw [c55]; decide) (by rw [c55]; rfl) 306 (by decide) ?_
    refine rx_aload_n C dL_acts_306 5 rfl ?_
    refine rx_iload C dL_acts_307 2 rfl ?_
    replace hF := rx_biE hF; obtain ⟨y56, e_y56, hF⟩ := hF
    refine rx_ci (rx_rV C (w_X8_offer e_y56 b_B b_s b_p b_w b_e) Y_X8_offer V_X8_offer m_L_133 (Or.inl ⟨_, _, _, _, b_B, rfl⟩) ⟨⟨rfl, rfl⟩, ⟨(Nat.le_of_ble_eq_true rfl), (Nat.le_of_ble_eq_true rfl)⟩, ⟨(Nat.le_of_ble_eq_true rfl), (Nat.le_of_ble_eq_true rfl)⟩⟩ rfl rfl (Nat.le_of_ble_eq_true rfl) dL_acts_309) (fun r hh n1 hpp => ?_)
    obtain ⟨rfl, hu⟩ := hpp
    cases hu
    refine rx_iconst C dL_acts_312 (-1 : Int32) (by decide) ?_
    refine rx_icmp_ne C dL_acts_313 336 (by decide) (fun c57 => ?_) (fun c57 => ?_)
    · rw [if_neg c57] at hF
      refine rx_iconst C dL_acts_336 (0 : Int32) (by decide) ?_
      obtain rfl := Option.some.inj hF
      exact rx_zret C (rx_nz (Or.inl rfl)) dL_acts_337 (Nat.le_refl _) (Nat.le_refl _) ⟨rfl, (Or.inl rfl), rfl, b_p, b_w, b_e, b_H, fr⟩
    · rw [if_pos c57] at hF
      refine rx_aload_n C dL_acts_316 5 rfl ?_
      refine rx_iload C dL_acts_317 2 rfl ?_
      refine rx_iload_n C dL_acts_319 3 rfl ?_
      refine rx_bipush C dL_acts_320 (64 : Int32) (by decide) ?_
      refine rx_idiv C dL_acts_322 (by decide) ?_
      refine rx_bipush C dL_acts_323 (6 : Int32) (by decide) ?_
      refine rx_irem C dL_acts_325 (by decide) ?_
      replace hF := rx_biE hF; obtain ⟨y58, e_y58, hF⟩ := hF
      refine rx_ci (rx_rV C (w_X8_joinQueue e_y58 b_B b_s b_p b_w b_e b_H) Y_X8_joinQueue V_X8_joinQueue m_L_136 (Or.inl ⟨_, _, _, _, b_B, rfl⟩) ⟨⟨rfl, rfl⟩, ⟨(Nat.le_of_ble_eq_true rfl), (Nat.le_of_ble_eq_true rfl)⟩, ⟨(Nat.le_of_ble_eq_true rfl), (Nat.le_of_ble_eq_true rfl)⟩⟩ rfl rfl (Nat.le_of_ble_eq_true rfl) dL_acts_326) (fun r hh n1 hpp => ?_)
      obtain ⟨rfl, hn, c_w, c_e, c_H, ff⟩ := hpp
      replace hn : n = n1 := Eq.symm hn
      subst hn
      replace b_w : bQ k (b + 21 + 10) y58.2.1 hh := c_w
      clear c_w
      replace b_e : bQ k (b + 21 + 13) y58.2.2.1 hh := c_e
      clear c_e
      replace b_H : bHH k (b + 69) (b + 12) y58.2.2.2 hh := c_H
      clear c_H
      replace ff : rx_fr [(b + 21 + 10, 3), (b + 21 + 13, 3), (b + 69, 130)] _ hh := ff
      replace b_m := b_m.keep ff ⟨s_m_w, s_m_e, s_m_H, trivial⟩
      replace b_B := b_B.keep ff ⟨s_B_w, s_B_e, s_B_H, trivial⟩
      replace b_s := b_s.keep ff ⟨s_s_w, s_s_e, s_s_H, trivial⟩
      replace b_p := b_p.keep ff ⟨s_p_w, s_p_e, s_p_H, trivial⟩
      replace fr := rx_frt fr ff (fun a ha => ⟨ha.2.1, ha.2.2.1, ha.2.2.2.1, trivial⟩)
      refine rx_if_lt C dL_acts_329 336 (by decide) (fun c59 => ?_) (fun c59 => ?_)
      · rw [if_pos c59] at hF
        refine rx_iconst C dL_acts_336 (0 : Int32) (by decide) ?_
        obtain rfl := Option.some.inj hF
        exact rx_zret C (rx_nz (Or.inl rfl)) dL_acts_337 (Nat.le_refl _) (Nat.le_refl _) ⟨rfl, (Or.inl rfl), rfl, b_p, b_w, b_e, b_H, fr⟩
      · rw [if_neg c59] at hF
        refine rx_iconst C dL_acts_332 (1 : Int32) (by decide) ?_
        refine rx_goto C dL_acts_333 337 (by decide) ?_
        obtain rfl := Option.some.inj hF
        exact rx_zret C (rx_nz (Or.inr rfl)) dL_acts_337 (Nat.le_refl _) (Nat.le_refl _) ⟨rfl, (Or.inr rfl), rfl, b_p, b_w, b_e, b_H, fr⟩
  rw [if_neg c55] at hF
  by_cases c60 : (x2 - x2 / (13 : Int32) * (13 : Int32)) = (8 : Int32)
  · rw [if_pos c60] at hF
    refine rx_tableIn C dL_acts_49 (by rw [c60]; decide) (by rw [c60]; decide) (by rw [c60]; rfl) 338 (by decide) ?_
    refine rx_aload_n C dL_acts_338 5 rfl ?_
    refine rx_iload C dL_acts_339 2 rfl ?_
    replace hF := rx_biE hF; obtain ⟨y61, e_y61, hF⟩ := hF
    refine rx_ci (rx_rV C (w_X8_offer e_y61 b_B b_s b_p b_w b_e) Y_X8_offer V_X8_offer m_L_133 (Or.inl ⟨_, _, _, _, b_B, rfl⟩) ⟨⟨rfl, rfl⟩, ⟨(Nat.le_of_ble_eq_true rfl), (Nat.le_of_ble_eq_true rfl)⟩, ⟨(Nat.le_of_ble_eq_true rfl), (Nat.le_of_ble_eq_true rfl)⟩⟩ rfl rfl (Nat.le_of_ble_eq_true rfl) dL_acts_341) (fun r hh n1 hpp => ?_)
    obtain ⟨rfl, hu⟩ := hpp
    cases hu
    refine rx_if_lt C dL_acts_344 360 (by decide) (fun c62 => ?_) (fun c62 => ?_)
    · rw [if_pos c62] at hF
      refine rx_iconst C dL_acts_360 (0 : Int32) (by decide) ?_
      obtain rfl := Option.some.inj hF
      exact rx_zret C (rx_nz (Or.inl rfl)) dL_acts_361 (Nat.le_refl _) (Nat.le_refl _) ⟨rfl, (Or.inl rfl), rfl, b_p, b_w, b_e, b_H, fr⟩
    · rw [if_neg c62] at hF
      refine rx_aload_n C dL_acts_347 5 rfl ?_
      refine rx_iload C dL_acts_348 2 rfl ?_
      replace hF := rx_biE hF; obtain ⟨y63, e_y63, hF⟩ := hF
      refine rx_ci (rx_rV C (w_X8_quitQueue e_y63 b_B b_s b_p b_w b_e b_H) Y_X8_quitQueue V_X8_quitQueue m_L_139 (Or.inl ⟨_, _, _, _, b_B, rfl⟩) ⟨⟨rfl, rfl⟩, ⟨(Nat.le_of_ble_eq_true rfl), (Nat.le_of_ble_eq_true rfl)⟩, ⟨(Nat.le_of_ble_eq_true rfl), (Nat.le_of_ble_eq_true rfl)⟩⟩ rfl rfl (Nat.le_of_ble_eq_true rfl) dL_acts_350) (fun r hh n1 hpp => ?_)
      obtain ⟨rfl, hn, c_w, c_e, c_H, ff⟩ := hpp
      replace hn : n = n1 := Eq.symm hn
      subst hn
      replace b_w : bQ k (b + 21 + 10) y63.2.1 hh := c_w
      clear c_w
      replace b_e : bQ k (b + 21 + 13) y63.2.2.1 hh := c_e
      clear c_e
      replace b_H : bHH k (b + 69) (b + 12) y63.2.2.2 hh := c_H
      clear c_H
      replace ff : rx_fr [(b + 21 + 10, 3), (b + 21 + 13, 3), (b + 69, 130)] _ hh := ff
      replace b_m := b_m.keep ff ⟨s_m_w, s_m_e, s_m_H, trivial⟩
      replace b_B := b_B.keep ff ⟨s_B_w, s_B_e, s_B_H, trivial⟩
      replace b_s := b_s.keep ff ⟨s_s_w, s_s_e, s_s_H, trivial⟩
      replace b_p := b_p.keep ff ⟨s_p_w, s_p_e, s_p_H, trivial⟩
      replace fr := rx_frt fr ff (fun a ha => ⟨ha.2.1, ha.2.2.1, ha.2.2.2.1, trivial⟩)
      refine rx_if_lt C dL_acts_353 360 (by decide) (fun c64 => ?_) (fun c64 => ?_)
      · rw [if_pos c64] at hF
        refine rx_iconst C dL_acts_360 (0 : Int32) (by decide) ?_
        obtain rfl := Option.some.inj hF
        exact rx_zret C (rx_nz (Or.inl rfl)) dL_acts_361 (Nat.le_refl _) (Nat.le_refl _) ⟨rfl, (Or.inl rfl), rfl, b_p, b_w, b_e, b_H, fr⟩
      · rw [if_neg c64] at hF
        refine rx_iconst C dL_acts_356 (1 : Int32) (by decide) ?_
        refine rx_goto C dL_acts_357 361 (by decide) ?_
        obtain rfl := Option.some.inj hF
        exact rx_zret C (rx_nz (Or.inr rfl)) dL_acts_361 (Nat.le_refl _) (Nat.le_refl _) ⟨rfl, (Or.inr rfl), rfl, b_p, b_w, b_e, b_H, fr⟩
  rw [if_neg c60] at hF
  by_cases c65 : (x2 - x2 / (13 : Int32) * (13 : Int32)) = (9 : Int32)
  · rw [if_pos c65] at hF
    refine rx_tableIn C dL_acts_49 (by rw [c65]; decide) (by rw [c65]; decide) (by rw [c65]; rfl) 362 (by decide) ?_
    refine rx_aload_n C dL_acts_362 5 rfl ?_
    refine rx_iload C dL_acts_363 2 rfl ?_
    refine rx_iload_n C dL_acts_365 3 rfl ?_
    refine rx_bipush C dL_acts_366 (64 : Int32) (by decide) ?_
    refine rx_idiv C dL_acts_368 (by decide) ?_
    refine rx_bipush C dL_acts_369 (41 : Int32) (by decide) ?_
    refine rx_irem C dL_acts_371 (by decide) ?_
    replace hF := rx_biE hF; obtain ⟨y66, e_y66, hF⟩ := hF
    refine rx_ci (rx_rV C (w_X8_setPride e_y66 b_B b_s b_p b_w b_e b_H) Y_X8_setPride V_X8_setPride m_L_142 (Or.inl ⟨_, _, _, _, b_B, rfl⟩) ⟨⟨rfl, rfl⟩, ⟨(Nat.le_of_ble_eq_true rfl), (Nat.le_of_ble_eq_true rfl)⟩, ⟨(Nat.le_of_ble_eq_true rfl), (Nat.le_of_ble_eq_true rfl)⟩⟩ rfl rfl (Nat.le_of_ble_eq_true rfl) dL_acts_372) (fun r hh n1 hpp => ?_)
    obtain ⟨rfl, hn, c_p, c_H, ff⟩ := hpp
    replace hn : n = n1 := Eq.symm hn
    subst hn
    replace b_p : bP k (b + 21) (b + 12) y66.2.1 hh := c_p
    clear c_p
    replace b_H : bHH k (b + 69) (b + 12) y66.2.2 hh := c_H
    clear c_H
    replace ff : rx_fr [(b + 21, 10), (b + 69, 130)] _ hh := ff
    replace b_m := b_m.keep ff ⟨s_m_p, s_m_H, trivial⟩
    replace b_B := b_B.keep ff ⟨s_B_p, s_B_H, trivial⟩
    replace b_s := b_s.keep ff ⟨s_s_p, s_s_H, trivial⟩
    replace b_w := b_w.keep ff ⟨s_w_p, s_w_H, trivial⟩
    replace b_e := b_e.keep ff ⟨s_e_p, s_e_H, trivial⟩
    replace fr := rx_frt fr ff (fun a ha => ⟨ha.1, ha.2.2.2.1, trivial⟩)
    refine rx_if_lt C dL_acts_375 382 (by decide) (fun c67 => ?_) (fun c67 => ?_)
    · rw [if_pos c67] at hF
      refine rx_iconst C dL_acts_382 (0 : Int32) (by decide) ?_
      obtain rfl := Option.some.inj hF
      exact rx_zret C (rx_nz (Or.inl rfl)) dL_acts_383 (Nat.le_refl _) (Nat.le_refl _) ⟨rfl, (Or.inl rfl), rfl, b_p, b_w, b_e, b_H, fr⟩
    · rw [if_neg c67] at hF
      refine rx_iconst C dL_acts_378 (1 : Int32) (by decide) ?_
      refine rx_goto C dL_acts_379 383 (by decide) ?_
      obtain rfl := Option.some.inj hF
      exact rx_zret C (rx_nz (Or.inr rfl)) dL_acts_383 (Nat.le_refl _) (Nat.le_refl _) ⟨rfl, (Or.inr rfl), rfl, b_p, b_w, b_e, b_H, fr⟩
  rw [if_neg c65] at hF
  refine rx_tableOut C dL_acts_49 (by have q0 := rx_neI c6; have q1 := rx_neI c13; have q2 := rx_neI c22; have q3 := rx_neI c29; have q4 := rx_neI c39; have q5 := rx_neI c45; have q6 := rx_neI c50; have q7 := rx_neI c55; have q8 := rx_neI c60; have q9 := rx_neI c65; have r0 : (0 : Int32).toInt = 0 := rfl; have r1 : (1 : Int32).toInt = 1 := rfl; have r2 : (2 : Int32).toInt = 2 := rfl; have r3 : (3 : Int32).toInt = 3 := rfl; have r4 : (4 : Int32).toInt = 4 := rfl; have r5 : (5 : Int32).toInt = 5 := rfl; have r6 : (6 : Int32).toInt = 6 := rfl; have r7 : (7 : Int32).toInt = 7 := rfl; have r8 : (8 : Int32).toInt = 8 := rfl; have r9 : (9 : Int32).toInt = 9 := rfl; omega) 384 (by decide) ?_
  refine rx_aload_n C dL_acts_384 5 rfl ?_
  refine rx_iconst C dL_acts_385 (1 : Int32) (by decide) ?_
  refine rx_iload_n C dL_acts_386 3 rfl ?_
  refine rx_iconst C dL_acts_387 (3 : Int32) (by decide) ?_
  refine rx_irem C dL_acts_388 (by decide) ?_
  refine rx_iadd C dL_acts_389 ?_
  replace hF := rx_biE hF; obtain ⟨y68, e_y68, hF⟩ := hF
  refine rx_ci (rx_rV C (w_X8_passTurns e_y68 b_B b_s b_p b_w b_e b_H) Y_X8_passTurns V_X8_passTurns m_L_145 (Or.inl ⟨_, _, _, _, b_B, rfl⟩) ⟨⟨rfl, rfl⟩, ⟨(Nat.le_of_ble_eq_true rfl), (Nat.le_of_ble_eq_true rfl)⟩, ⟨(Nat.le_of_ble_eq_true rfl), (Nat.le_of_ble_eq_true rfl)⟩⟩ rfl rfl (Nat.le_of_ble_eq_true rfl) dL_acts_390) (fun r hh n1 hpp => ?_)
  obtain ⟨rfl, hn, c_p, c_w, c_e, c_H, ff⟩ := hpp
  replace hn : n = n1 := Eq.symm hn
  subst hn
  replace b_p : bP k (b + 21) (b + 12) y68.2.1 hh := c_p
  clear c_p
  replace b_w : bQ k (b + 21 + 10) y68.2.2.1 hh := c_w
  clear c_w
  replace b_e : bQ k (b + 21 + 13) y68.2.2.2.1 hh := c_e
  clear c_e
  replace b_H : bHH k (b + 69) (b + 12) y68.2.2.2.2 hh := c_H
  clear c_H
  replace ff : rx_fr [(b + 21, 10), (b + 21 + 10, 3), (b + 21 + 13, 3), (b + 69, 130)] _ hh := ff
  replace b_m := b_m.keep ff ⟨s_m_p, s_m_w, s_m_e, s_m_H, trivial⟩
  replace b_B := b_B.keep ff ⟨s_B_p, s_B_w, s_B_e, s_B_H, trivial⟩
  replace b_s := b_s.keep ff ⟨s_s_p, s_s_w, s_s_e, s_s_H, trivial⟩
  replace fr := rx_frt fr ff (fun a ha => ⟨ha.1, ha.2.1, ha.2.2.1, ha.2.2.2.1, trivial⟩)
  refine rx_if_lt C dL_acts_393 400 (by decide) (fun c69 => ?_) (fun c69 => ?_)
  · rw [if_pos c69] at hF
    refine rx_iconst C dL_acts_400 (0 : Int32) (by decide) ?_
    obtain rfl := Option.some.inj hF
    exact rx_zret C (rx_nz (Or.inl rfl)) dL_acts_401 (Nat.le_refl _) (Nat.le_refl _) ⟨rfl, (Or.inl rfl), rfl, b_p, b_w, b_e, b_H, fr⟩
  · rw [if_neg c69] at hF
    refine rx_iconst C dL_acts_396 (1 : Int32) (by decide) ?_
    refine rx_goto C dL_acts_397 401 (by decide) ?_
    obtain rfl := Option.some.inj hF
    exact rx_zret C (rx_nz (Or.inr rfl)) dL_acts_401 (Nat.le_refl _) (Nat.le_refl _) ⟨rfl, (Or.inr rfl), rfl, b_p, b_w, b_e, b_H, fr⟩
def F_L_coins_19 (om : ob) (oB : ob) (os : ob) (op : ob) : Nat → Int32 → Int32 → Option (Int32 × Int32)
  | 0, _, _ => none
  | fu + 1, x2, x3 => if (om.1 3) ≤ x3 then (some (x2, x3)) else ((F_X8_coins oB os op x3).bind fun y8 => rx_le ((x2 + y8)) fun v9 => F_L_coins_19 om oB os op fu v9 ((x3 + 1)))
def F_L_coins (om : ob) (oB : ob) (os : ob) (op : ob) : Option (Int32) := (F_X8_tollBox oB op).bind fun y1 => (F_X8_groundCoins oB op ((0 : Int32))).bind fun y2 => (F_X8_groundCoins oB op ((1 : Int32))).bind fun y3 => rx_le (((y1 + y2) + y3)) fun v4 => (F_L_coins_19 om oB os op 100000 v4 ((0 : Int32))).bind fun zl10 => some zl10.1
set_option maxRecDepth 100000 in
set_option maxHeartbeats 4000000 in
theorem w_L_coins {m b : Nat} {om : ob} {oB : ob} {os : ob} {op : ob} {y : Int32} (hF : F_L_coins om oB os op = some y) (b_m : bM k m om h) (b_B : bB k b oB h) (b_s : bS k (b + 12) os h) (b_p : bP k (b + 21) (b + 12) op h) (hd0 : m + 3 ≤ b ∨ b + 204 ≤ m) : Met l yL_coins (rx_ws yL_coins cL_coins 4 (some .int)) (rx_rm 3 63) (va_Pc [.ref m, .ref b] (rx_G G k h n)) (va_Qi (fun r u => y = r ∧ u = (h, n)) (rx_B G k) (rx_A k)) 0 0 (rx_A k) := by
  refine rx_start [(0, .ref m), (1, .ref b)] rfl (Nat.le_of_ble_eq_true rfl) (by decide) rfl (fun P9 E9 S9 M9 A9 B9 me9 c9 C hname => ?_)
  unfold F_L_coins at hF
  refine rx_aload_n C dL_coins_0 1 rfl ?_
  replace hF := rx_biE hF; obtain ⟨y1, e_y1, hF⟩ := hF
  refine rx_ci (rx_rV C (w_X8_tollBox e_y1 b_B b_p) Y_X8_tollBox V_X8_tollBox m_L_91 (Or.inl ⟨_, _, _, _, b_B, rfl⟩) ⟨⟨rfl, rfl⟩, ⟨(Nat.le_of_ble_eq_true rfl), (Nat.le_of_ble_eq_true rfl)⟩, ⟨(Nat.le_of_ble_eq_true rfl), (Nat.le_of_ble_eq_true rfl)⟩⟩ rfl rfl (Nat.le_of_ble_eq_true rfl) dL_coins_1) (fun r hh n1 hpp => ?_)
  obtain ⟨rfl, hu⟩ := hpp
  cases hu
  refine rx_aload_n C dL_coins_4 1 rfl ?_
  refine rx_iconst C dL_coins_5 (0 : Int32) (by decide) ?_
  replace hF := rx_biE hF; obtain ⟨y2, e_y2, hF⟩ := hF
  refine rx_ci (rx_rV C (w_X8_groundCoins e_y2 b_B b_p) Y_X8_groundCoins V_X8_groundCoins m_L_111 (Or.inl ⟨_, _, _, _, b_B, rfl⟩) ⟨⟨rfl, rfl⟩, ⟨(Nat.le_of_ble_eq_true rfl), (Nat.le_of_ble_eq_true rfl)⟩, ⟨(Nat.le_of_ble_eq_true rfl), (Nat.le_of_ble_eq_true rfl)⟩⟩ rfl rfl (Nat.le_of_ble_eq_true rfl) dL_coins_6) (fun r hh n1 hpp => ?_)
  obtain ⟨rfl, hu⟩ := hpp
  cases hu
  refine rx_iadd C dL_coins_9 ?_
  refine rx_aload_n C dL_coins_10 1 rfl ?_
  refine rx_iconst C dL_coins_11 (1 : Int32) (by decide) ?_
  replace hF := rx_biE hF; obtain ⟨y3, e_y3, hF⟩ := hF
  refine rx_ci (rx_rV C (w_X8_groundCoins e_y3 b_B b_p) Y_X8_groundCoins V_X8_groundCoins m_L_111 (Or.inl ⟨_, _, _, _, b_B, rfl⟩) ⟨⟨rfl, rfl⟩, ⟨(Nat.le_of_ble_eq_true rfl), (Nat.le_of_ble_eq_true rfl)⟩, ⟨(Nat.le_of_ble_eq_true rfl), (Nat.le_of_ble_eq_true rfl)⟩⟩ rfl rfl (Nat.le_of_ble_eq_true rfl) dL_coins_12) (fun r hh n1 hpp => ?_)
  obtain ⟨rfl, hu⟩ := hpp
  cases hu
  refine rx_iadd C dL_coins_15 ?_
  replace hF := rx_leE hF; obtain ⟨v4, e_v4, hF⟩ := hF
  rw [e_v4]
  refine rx_istore_n C dL_coins_16 (by decide) [(2, .int v4), (0, .ref m), (1, .ref b)] rfl ?_
  refine rx_iconst C dL_coins_17 (0 : Int32) (by decide) ?_
  refine rx_istore_n C dL_coins_18 (by decide) [(3, .int ((0 : Int32))), (2, .int v4), (0, .ref m), (1, .ref b)] rfl ?_
  have loop6 : ∀ (fu : Nat) (zz : Int32 × Int32)  (x2 : Int32) (x3 : Int32), F_L_coins_19 om oB os op fu x2 x3 = some zz → bM k m om h → bB k b oB h → bS k (b + 12) os h → bP k (b + 21) (b + 12) op h → (rx_W P9 l E9 (rx_rm 3 63) S9 M9 A9 B9 me9 c9 (MQ B9 (va_Qi (fun r u => y = r ∧ u = (h, n)) (rx_B G k) (rx_A k)) A9 S9 0 0 (rx_A k)) G k 4 0 0 h n 41 [(0, .ref m), (1, .ref b), (2, .int zz.1), (3, .int zz.2)] []) → rx_W P9 l E9 (rx_rm 3 63) S9 M9 A9 B9 me9 c9 (MQ B9 (va_Qi (fun r u => y = r ∧ u = (h, n)) (rx_B G k) (rx_A k)) A9 S9 0 0 (rx_A k)) G k 4 0 0 h n 19 [(0, .ref m), (1, .ref b), (2, .int x2), (3, .int x3)] [] := by
    intro fu
    induction fu with
    | zero => intro zz x2 x3 hF b_m b_B b_s b_p KK; exact absurd hF (by simp [F_L_coins_19])
    | succ fu ih_loop6 =>
      intro zz x2 x3 hF b_m b_B b_s b_p KK
      unfold F_L_coins_19 at hF
      refine rx_iload_n C dL_coins_19 3 rfl ?_
      refine rx_aload_n C dL_coins_20 0 rfl ?_
      refine rx_getf C f_L_45 dL_coins_21 b_m.1 rfl ?_
      refine rx_icmp_ge C dL_coins_24 41 (by decide) (fun c7 => ?_) (fun c7 => ?_)
      · rw [if_pos c7] at hF
        obtain rfl := Option.some.inj hF
        refine rx_sub [0, 1, 2, 3] rfl ?_
        exact KK
      · rw [if_neg c7] at hF
        refine rx_iload_n C dL_coins_27 2 rfl ?_
        refine rx_aload_n C dL_coins_28 1 rfl ?_
        refine rx_iload_n C dL_coins_29 3 rfl ?_
        replace hF := rx_biE hF; obtain ⟨y8, e_y8, hF⟩ := hF
        refine rx_ci (rx_rV C (w_X8_coins e_y8 b_B b_s b_p) Y_X8_coins V_X8_coins m_L_101 (Or.inl ⟨_, _, _, _, b_B, rfl⟩) ⟨⟨rfl, rfl⟩, ⟨(Nat.le_of_ble_eq_true rfl), (Nat.le_of_ble_eq_true rfl)⟩, ⟨(Nat.le_of_ble_eq_true rfl), (Nat.le_of_ble_eq_true rfl)⟩⟩ rfl rfl (Nat.le_of_ble_eq_true rfl) dL_coins_30) (fun r hh n1 hpp => ?_)
        obtain ⟨rfl, hu⟩ := hpp
        cases hu
        refine rx_iadd C dL_coins_33 ?_
        replace hF := rx_leE hF; obtain ⟨v9, e_v9, hF⟩ := hF
        rw [e_v9]
        refine rx_istore_n C dL_coins_34 (by decide) [(2, .int v9), (0, .ref m), (1, .ref b), (3, .int x3)] rfl ?_
        refine rx_iinc C dL_coins_35 3 rfl (x3 + 1) rfl (by decide) [(3, .int ((x3 + 1))), (2, .int v9), (0, .ref m), (1, .ref b)] rfl ?_
        refine rx_goto C dL_coins_38 19 (by decide) ?_
        refine rx_sub [2, 3, 1, 0] rfl ?_
        exact ih_loop6 _ _ _ hF b_m b_B b_s b_p KK
  refine rx_sub [2, 3, 1, 0] rfl ?_
  replace hF := rx_biE hF; obtain ⟨zl10, e_zl10, hF⟩ := hF
  refine loop6 _ zl10 _ _ e_zl10 b_m b_B b_s b_p ?_
  refine rx_iload_n C dL_coins_41 2 rfl ?_
  obtain rfl := Option.some.inj hF
  exact rx_iret C dL_coins_42 (Nat.le_refl _) (Nat.le_refl _) ⟨rfl, rfl⟩
def F_L_crossed_4 (om : ob) (oB : ob) (os : ob) (op : ob) : Nat → Int32 → Int32 → Option (Int32 × Int32)
  | 0, _, _ => none
  | fu + 1, x2, x3 => if (om.1 3) ≤ x3 then (some (x2, x3)) else ((F_X8_crossings oB os op x3).bind fun y4 => rx_le ((x2 + y4)) fun v5 => F_L_crossed_4 om oB os op fu v5 ((x3 + 1)))
def F_L_crossed (om : ob) (oB : ob) (os : ob) (op : ob) : Option (Int32) := (F_L_crossed_4 om oB os op 100000 ((0 : Int32)) ((0 : Int32))).bind fun zl6 => some zl6.1
set_option maxRecDepth 100000 in
set_option maxHeartbeats 4000000 in
theorem w_L_crossed {m b : Nat} {om : ob} {oB : ob} {os : ob} {op : ob} {y : Int32} (hF : F_L_crossed om oB os op = some y) (b_m : bM k m om h) (b_B : bB k b oB h) (b_s : bS k (b + 12) os h) (b_p : bP k (b + 21) (b + 12) op h) (hd0 : m + 3 ≤ b ∨ b + 204 ≤ m) : Met l yL_crossed (rx_ws yL_crossed cL_crossed 4 (some .int)) (rx_rm 3 63) (va_Pc [.ref m, .ref b] (rx_G G k h n)) (va_Qi (fun r u => y = r ∧ u = (h, n)) (rx_B G k) (rx_A k)) 0 0 (rx_A k) := by
  refine rx_start [(0, .ref m), (1, .ref b)] rfl (Nat.le_of_ble_eq_true rfl) (by decide) rfl (fun P9 E9 S9 M9 A9 B9 me9 c9 C hname => ?_)
  unfold F_L_crossed at hF
  refine rx_iconst C dL_crossed_0 (0 : Int32) (by decide) ?_
  refine rx_istore_n C dL_crossed_1 (by decide) [(2, .int ((0 : Int32))), (0, .ref m), (1, .ref b)] rfl ?_
  refine rx_iconst C dL_crossed_2 (0 : Int32) (by decide) ?_
  refine rx_istore_n C dL_crossed_3 (by decide) [(3, .int ((0 : Int32))), (2, .int ((0 : Int32))), (0, .ref m), (1, .ref b)] rfl ?_
  have loop2 : ∀ (fu : Nat) (zz : Int32 × Int32)  (x2 : Int32) (x3 : Int32), F_L_crossed_4 om oB os op fu x2 x3 = some zz → bM k m om h → bB k b oB h → bS k (b + 12) os h → bP k (b + 21) (b + 12) op h → (rx_W P9 l E9 (rx_rm 3 63) S9 M9 A9 B9 me9 c9 (MQ B9 (va_Qi (fun r u => y = r ∧ u = (h, n)) (rx_B G k) (rx_A k)) A9 S9 0 0 (rx_A k)) G k 4 0 0 h n 26 [(0, .ref m), (1, .ref b), (2, .int zz.1), (3, .int zz.2)] []) → rx_W P9 l E9 (rx_rm 3 63) S9 M9 A9 B9 me9 c9 (MQ B9 (va_Qi (fun r u => y = r ∧ u = (h, n)) (rx_B G k) (rx_A k)) A9 S9 0 0 (rx_A k)) G k 4 0 0 h n 4 [(0, .ref m), (1, .ref b), (2, .int x2), (3, .int x3)] [] := by
    intro fu
    induction fu with
    | zero => intro zz x2 x3 hF b_m b_B b_s b_p KK; exact absurd hF (by simp [F_L_crossed_4])
    | succ fu ih_loop2 =>
      intro zz x2 x3 hF b_m b_B b_s b_p KK
      unfold F_L_crossed_4 at hF
      refine rx_iload_n C dL_crossed_4 3 rfl ?_
      refine rx_aload_n C dL_crossed_5 0 rfl ?_
      refine rx_getf C f_L_45 dL_crossed_6 b_m.1 rfl ?_
      refine rx_icmp_ge C dL_crossed_9 26 (by decide) (fun c3 => ?_) (fun c3 => ?_)
      · rw [if_pos c3] at hF
        obtain rfl := Option.some.inj hF
        refine rx_sub [0, 1, 2, 3] rfl ?_
        exact KK
      · rw [if_neg c3] at hF
        refine rx_iload_n C dL_crossed_12 2 rfl ?_
        refine rx_aload_n C dL_crossed_13 1 rfl ?_
        refine rx_iload_n C dL_crossed_14 3 rfl ?_
        replace hF := rx_biE hF; obtain ⟨y4, e_y4, hF⟩ := hF
        refine rx_ci (rx_rV C (w_X8_crossings e_y4 b_B b_s b_p) Y_X8_crossings V_X8_crossings m_L_173 (Or.inl ⟨_, _, _, _, b_B, rfl⟩) ⟨⟨rfl, rfl⟩, ⟨(Nat.le_of_ble_eq_true rfl), (Nat.le_of_ble_eq_true rfl)⟩, ⟨(Nat.le_of_ble_eq_true rfl), (Nat.le_of_ble_eq_true rfl)⟩⟩ rfl rfl (Nat.le_of_ble_eq_true rfl) dL_crossed_15) (fun r hh n1 hpp => ?_)
        obtain ⟨rfl, hu⟩ := hpp
        cases hu
        refine rx_iadd C dL_crossed_18 ?_
        replace hF := rx_leE hF; obtain ⟨v5, e_v5, hF⟩ := hF
        rw [e_v5]
        refine rx_istore_n C dL_crossed_19 (by decide) [(2, .int v5), (0, .ref m), (1, .ref b), (3, .int x3)] rfl ?_
        refine rx_iinc C dL_crossed_20 3 rfl (x3 + 1) rfl (by decide) [(3, .int ((x3 + 1))), (2, .int v5), (0, .ref m), (1, .ref b)] rfl ?_
        refine rx_goto C dL_crossed_23 4 (by decide) ?_
        refine rx_sub [2, 3, 1, 0] rfl ?_
        exact ih_loop2 _ _ _ hF b_m b_B b_s b_p KK
  refine rx_sub [2, 3, 1, 0] rfl ?_
  replace hF := rx_biE hF; obtain ⟨zl6, e_zl6, hF⟩ := hF
  refine loop2 _ zl6 _ _ e_zl6 b_m b_B b_s b_p ?_
  refine rx_iload_n C dL_crossed_26 2 rfl ?_
  obtain rfl := Option.some.inj hF
  exact rx_iret C dL_crossed_27 (Nat.le_refl _) (Nat.le_refl _) ⟨rfl, rfl⟩
end GEN
