section GEN
variable {l : Launch} {G : va_G} {k : Nat → Nat} {h : hp} {n : Nat}
def F_X9_bytes_3 (x1 : Int32) : Nat → ob → Int32 → Option (Int32 × ob)
  | 0, _, _ => none
  | fu + 1, om, x2 => if x2 < (0 : Int32) then (some (x2, om)) else ((rx_ast 500 (om.2 8) ((om.1 9)) (((x1 >>> (x2 &&& 31)) &&& (255 : Int32)))).bind fun f4 => rx_le (om.1, va_up om.2 8 f4) fun o_m_5 => rx_le (upd o_m_5.1 9 (((o_m_5.1 9) + (1 : Int32))), o_m_5.2) fun o_m_6 => F_X9_bytes_3 x1 fu o_m_6 ((x2 + (-8))))
def F_X9_bytes (om : ob) (x1 : Int32) : Option (ob) := (F_X9_bytes_3 x1 100000 om ((24 : Int32))).bind fun zl7 => some zl7.2
set_option maxRecDepth 100000 in
set_option maxHeartbeats 4000000 in
theorem w_X9_bytes {m : Nat} {om : ob} {x1 : Int32} {y : ob} (hF : F_X9_bytes om x1 = some y) (b_m : bM k m om h) : Met l yX9_bytes (rx_ws yX9_bytes cX9_bytes 3 none) (rx_rm 0 0) (va_Pc [.ref m, .int x1] (rx_G G k h n)) (va_Qv (fun u => u.2 = n ∧ bM k m y u.1 ∧ rx_fr [(m, 9)] h u.1) (rx_B G k) (rx_A k)) 0 0 (rx_A k) := by
  refine rx_start [(0, .ref m), (1, .int x1)] rfl (Nat.le_of_ble_eq_true rfl) (by decide) rfl (fun P9 E9 S9 M9 A9 B9 me9 c9 C hname => ?_)
  unfold F_X9_bytes at hF
  have fr : rx_fr [(m, 9)] h h := rx_fr0
  refine rx_bipush C dX9_bytes_0 (24 : Int32) (by decide) ?_
  refine rx_istore_n C dX9_bytes_2 (by decide) [(2, .int ((24 : Int32))), (0, .ref m), (1, .int x1)] rfl ?_
  have loop2 : ∀ (fu : Nat) (zz : Int32 × ob) (om : ob) (x2 : Int32) (hh : hp), F_X9_bytes_3 x1 fu om x2 = some zz → bM k m om hh → rx_fr [(m, 9)] h hh → (∀ hh : hp, bM k m zz.2 hh → rx_fr [(m, 9)] h hh → rx_W P9 l E9 (rx_rm 0 0) S9 M9 A9 B9 me9 c9 (MQ B9 (va_Qv (fun u => u.2 = n ∧ bM k m y u.1 ∧ rx_fr [(m, 9)] h u.1) (rx_B G k) (rx_A k)) A9 S9 0 0 (rx_A k)) G k 3 0 0 hh n 39 [(0, .ref m), (1, .int x1), (2, .int zz.1)] []) → rx_W P9 l E9 (rx_rm 0 0) S9 M9 A9 B9 me9 c9 (MQ B9 (va_Qv (fun u => u.2 = n ∧ bM k m y u.1 ∧ rx_fr [(m, 9)] h u.1) (rx_B G k) (rx_A k)) A9 S9 0 0 (rx_A k)) G k 3 0 0 hh n 3 [(0, .ref m), (1, .int x1), (2, .int x2)] [] := by
    intro fu
    induction fu with
    | zero => intro zz om x2 hh hF b_m fr KK; exact absurd hF (by simp [F_X9_bytes_3])
    | succ fu ih_loop2 =>
      intro zz om x2 hh hF b_m fr KK
      unfold F_X9_bytes_3 at hF
      refine rx_iload_n C dX9_bytes_3 2 rfl ?_
      refine rx_if_lt C dX9_bytes_4 39 (by decide) (fun c3 => ?_) (fun c3 => ?_)
      · rw [if_pos c3] at hF
        obtain rfl := Option.some.inj hF
        refine rx_sub [0, 1, 2] rfl ?_
        exact KK _ b_m fr
      · rw [if_neg c3] at hF
        refine rx_aload_n C dX9_bytes_7 0 rfl ?_
        refine rx_getf C f_X9_29 dX9_bytes_8 b_m.1 rfl ?_
        refine rx_aload_n C dX9_bytes_11 0 rfl ?_
        refine rx_getf C f_X9_53 dX9_bytes_12 b_m.1 rfl ?_
        refine rx_iload_n C dX9_bytes_15 1 rfl ?_
        refine rx_iload_n C dX9_bytes_16 2 rfl ?_
        refine rx_ishr C dX9_bytes_17 ?_
        refine rx_sipush C dX9_bytes_18 (255 : Int32) (by decide) ?_
        refine rx_iand C dX9_bytes_21 ?_
        replace hF := rx_biE hF; obtain ⟨f4, e_f4, hF⟩ := hF
        replace hF := rx_leE hF; obtain ⟨o_m_5, e_o_m_5, hF⟩ := hF
        refine rx_aM8 C dX9_bytes_22 b_m e_f4 e_o_m_5 (fun hh c_m ff => ?_)
        replace b_m := c_m
        replace fr := rx_frt fr ff (fun a ha => ⟨ha.1, trivial⟩)
        refine rx_aload_n C dX9_bytes_23 0 rfl ?_
        refine rx_dup C dX9_bytes_24 rfl ?_
        refine rx_getf C f_X9_53 dX9_bytes_25 b_m.1 rfl ?_
        refine rx_iconst C dX9_bytes_28 (1 : Int32) (by decide) ?_
        refine rx_iadd C dX9_bytes_29 ?_
        replace hF := rx_leE hF; obtain ⟨o_m_6, e_o_m_6, hF⟩ := hF
        refine rx_pM9 C f_X9_53 dX9_bytes_30 b_m e_o_m_6 (fun hh c_m ff => ?_)
        replace b_m := c_m
        replace fr := rx_frt fr ff (fun a ha => ⟨ha.1, trivial⟩)
        refine rx_iinc C dX9_bytes_33 2 rfl (x2 + (-8)) rfl (by decide) [(2, .int ((x2 + (-8)))), (0, .ref m), (1, .int x1)] rfl ?_
        refine rx_goto C dX9_bytes_36 3 (by decide) ?_
        refine rx_sub [1, 2, 0] rfl ?_
        exact ih_loop2 _ _ _ _ hF b_m fr KK
  refine rx_sub [1, 2, 0] rfl ?_
  replace hF := rx_biE hF; obtain ⟨zl7, e_zl7, hF⟩ := hF
  refine loop2 _ zl7 _ _ _ e_zl7 b_m fr (fun hh b_m fr => ?_)
  obtain rfl := Option.some.inj hF
  exact rx_vret C dX9_bytes_39 (Nat.le_refl _) (Nat.le_refl _) ⟨rfl, b_m, fr⟩
def F_X9_appendText (om : ob) (x1 : Int32) (x2 : Int32) (x3 : Int32) (x4 : Int32) (x5 : Int32) : Option (Int32 × ob) := rx_le (upd om.1 0 ((0 : Int32)), om.2) fun o_m_1 => if ((o_m_1.1 9) + (20 : Int32)) ≤ (500 : Int32) then ((F_X9_bytes o_m_1 x1).bind fun y3 => (F_X9_bytes y3 x2).bind fun y4 => (F_X9_bytes y4 x3).bind fun y5 => (F_X9_bytes y5 x4).bind fun y6 => (F_X9_bytes y6 x5).bind fun y7 => some ((y7.1 9), y7)) else (some ((-1 : Int32), o_m_1))
set_option maxRecDepth 100000 in
set_option maxHeartbeats 4000000 in
theorem w_X9_appendText {m : Nat} {om : ob} {x1 : Int32} {x2 : Int32} {x3 : Int32} {x4 : Int32} {x5 : Int32} {y : Int32 × ob} (hF : F_X9_appendText om x1 x2 x3 x4 x5 = some y) (b_m : bM k m om h) : Met l yX9_appendText (rx_ws yX9_appendText cX9_appendText 6 (some .int)) (rx_rm 1 22) (va_Pc [.ref m, .int x1, .int x2, .int x3, .int x4, .int x5] (rx_G G k h n)) (va_Qi (fun r u => y.1 = r ∧ u.2 = n ∧ bM k m y.2 u.1 ∧ rx_fr [(m, 9)] h u.1) (rx_B G k) (rx_A k)) 0 0 (rx_A k) := by
  refine rx_start [(0, .ref m), (1, .int x1), (2, .int x2), (3, .int x3), (4, .int x4), (5, .int x5)] rfl (Nat.le_of_ble_eq_true rfl) (by decide) rfl (fun P9 E9 S9 M9 A9 B9 me9 c9 C hname => ?_)
  unfold F_X9_appendText at hF
  have fr : rx_fr [(m, 9)] h h := rx_fr0
  refine rx_aload_n C dX9_appendText_0 0 rfl ?_
  refine rx_iconst C dX9_appendText_1 (0 : Int32) (by decide) ?_
  replace hF := rx_leE hF; obtain ⟨o_m_1, e_o_m_1, hF⟩ := hF
  refine rx_pM0 C f_X9_1 dX9_appendText_2 b_m e_o_m_1 (fun hh c_m ff => ?_)
  replace b_m := c_m
  replace fr := rx_frt fr ff (fun a ha => ⟨ha.1, trivial⟩)
  refine rx_aload_n C dX9_appendText_5 0 rfl ?_
  refine rx_getf C f_X9_53 dX9_appendText_6 b_m.1 rfl ?_
  refine rx_bipush C dX9_appendText_9 (20 : Int32) (by decide) ?_
  refine rx_iadd C dX9_appendText_11 ?_
  refine rx_sipush C dX9_appendText_12 (500 : Int32) (by decide) ?_
  refine rx_icmp_le C dX9_appendText_15 20 (by decide) (fun c2 => ?_) (fun c2 => ?_)
  · rw [if_pos c2] at hF
    refine rx_aload_n C dX9_appendText_20 0 rfl ?_
    refine rx_iload_n C dX9_appendText_21 1 rfl ?_
    replace hF := rx_biE hF; obtain ⟨y3, e_y3, hF⟩ := hF
    refine rx_cv (rx_rV C (w_X9_bytes e_y3 b_m) Y_X9_bytes V_X9_bytes m_X9_157 (Or.inl ⟨_, _, _, _, b_m.1, rfl⟩) ⟨⟨rfl, rfl⟩, ⟨(Nat.le_of_ble_eq_true rfl), (Nat.le_of_ble_eq_true rfl)⟩, ⟨(Nat.le_of_ble_eq_true rfl), (Nat.le_of_ble_eq_true rfl)⟩⟩ rfl rfl (Nat.le_of_ble_eq_true rfl) dX9_appendText_22) (fun hh n1 hpp => ?_)
    obtain ⟨hn, c_m, ff⟩ := hpp
    replace hn : n = n1 := Eq.symm hn
    subst hn
    replace b_m : bM k m y3 hh := c_m
    clear c_m
    replace ff : rx_fr [(m, 9)] _ hh := ff
    replace fr := rx_frt fr ff (fun a ha => ⟨ha.1, trivial⟩)
    refine rx_aload_n C dX9_appendText_25 0 rfl ?_
    refine rx_iload_n C dX9_appendText_26 2 rfl ?_
    replace hF := rx_biE hF; obtain ⟨y4, e_y4, hF⟩ := hF
    refine rx_cv (rx_rV C (w_X9_bytes e_y4 b_m) Y_X9_bytes V_X9_bytes m_X9_157 (Or.inl ⟨_, _, _, _, b_m.1, rfl⟩) ⟨⟨rfl, rfl⟩, ⟨(Nat.le_of_ble_eq_true rfl), (Nat.le_of_ble_eq_true rfl)⟩, ⟨(Nat.le_of_ble_eq_true rfl), (Nat.le_of_ble_eq_true rfl)⟩⟩ rfl rfl (Nat.le_of_ble_eq_true rfl) dX9_appendText_27) (fun hh n1 hpp => ?_)
    obtain ⟨hn, c_m, ff⟩ := hpp
    replace hn : n = n1 := Eq.symm hn
    subst hn
    replace b_m : bM k m y4 hh := c_m
    clear c_m
    replace ff : rx_fr [(m, 9)] _ hh := ff
    replace fr := rx_frt fr ff (fun a ha => ⟨ha.1, trivial⟩)
    refine rx_aload_n C dX9_appendText_30 0 rfl ?_
    refine rx_iload_n C dX9_appendText_31 3 rfl ?_
    replace hF := rx_biE hF; obtain ⟨y5, e_y5, hF⟩ := hF
    refine rx_cv (rx_rV C (w_X9_bytes e_y5 b_m) Y_X9_bytes V_X9_bytes m_X9_157 (Or.inl ⟨_, _, _, _, b_m.1, rfl⟩) ⟨⟨rfl, rfl⟩, ⟨(Nat.le_of_ble_eq_true rfl), (Nat.le_of_ble_eq_true rfl)⟩, ⟨(Nat.le_of_ble_eq_true rfl), (Nat.le_of_ble_eq_true rfl)⟩⟩ rfl rfl (Nat.le_of_ble_eq_true rfl) dX9_appendText_32) (fun hh n1 hpp => ?_)
    obtain ⟨hn, c_m, ff⟩ := hpp
    replace hn : n = n1 := Eq.symm hn
    subst hn
    replace b_m : bM k m y5 hh := c_m
    clear c_m
    replace ff : rx_fr [(m, 9)] _ hh := ff
    replace fr := rx_frt fr ff (fun a ha => ⟨ha.1, trivial⟩)
    refine rx_aload_n C dX9_appendText_35 0 rfl ?_
    refine rx_iload C dX9_appendText_36 4 rfl ?_
    replace hF := rx_biE hF; obtain ⟨y6, e_y6, hF⟩ := hF
    refine rx_cv (rx_rV C (w_X9_bytes e_y6 b_m) Y_X9_bytes V_X9_bytes m_X9_157 (Or.inl ⟨_, _, _, _, b_m.1, rfl⟩) ⟨⟨rfl, rfl⟩, ⟨(Nat.le_of_ble_eq_true rfl), (Nat.le_of_ble_eq_true rfl)⟩, ⟨(Nat.le_of_ble_eq_true rfl), (Nat.le_of_ble_eq_true rfl)⟩⟩ rfl rfl (Nat.le_of_ble_eq_true rfl) dX9_appendText_38) (fun hh n1 hpp => ?_)
    obtain ⟨hn, c_m, ff⟩ := hpp
    replace hn : n = n1 := Eq.symm hn
    subst hn
    replace b_m : bM k m y6 hh := c_m
    clear c_m
    replace ff : rx_fr [(m, 9)] _ hh := ff
    replace fr := rx_frt fr ff (fun a ha => ⟨ha.1, trivial⟩)
    refine rx_aload_n C dX9_appendText_41 0 rfl ?_
    refine rx_iload C dX9_appendText_42 5 rfl ?_
    replace hF := rx_biE hF; obtain ⟨y7, e_y7, hF⟩ := hF
    refine rx_cv (rx_rV C (w_X9_bytes e_y7 b_m) Y_X9_bytes V_X9_bytes m_X9_157 (Or.inl ⟨_, _, _, _, b_m.1, rfl⟩) ⟨⟨rfl, rfl⟩, ⟨(Nat.le_of_ble_eq_true rfl), (Nat.le_of_ble_eq_true rfl)⟩, ⟨(Nat.le_of_ble_eq_true rfl), (Nat.le_of_ble_eq_true rfl)⟩⟩ rfl rfl (Nat.le_of_ble_eq_true rfl) dX9_appendText_44) (fun hh n1 hpp => ?_)
    obtain ⟨hn, c_m, ff⟩ := hpp
    replace hn : n = n1 := Eq.symm hn
    subst hn
    replace b_m : bM k m y7 hh := c_m
    clear c_m
    replace ff : rx_fr [(m, 9)] _ hh := ff
    replace fr := rx_frt fr ff (fun a ha => ⟨ha.1, trivial⟩)
    refine rx_aload_n C dX9_appendText_47 0 rfl ?_
    refine rx_getf C f_X9_53 dX9_appendText_48 b_m.1 rfl ?_
    obtain rfl := Option.some.inj hF
    exact rx_iret C dX9_appendText_51 (Nat.le_refl _) (Nat.le_refl _) ⟨rfl, rfl, b_m, fr⟩
  · rw [if_neg c2] at hF
    refine rx_iconst C dX9_appendText_18 (-1 : Int32) (by decide) ?_
    obtain rfl := Option.some.inj hF
    exact rx_iret C dX9_appendText_19 (Nat.le_refl _) (Nat.le_refl _) ⟨rfl, rfl, b_m, fr⟩
def F_X9_errorCode (om : ob) : Option (Int32 × ob) := rx_le (upd om.1 0 ((0 : Int32)), om.2) fun o_m_1 => some ((o_m_1.1 15), o_m_1)
set_option maxRecDepth 100000 in
set_option maxHeartbeats 4000000 in
theorem w_X9_errorCode {m : Nat} {om : ob} {y : Int32 × ob} (hF : F_X9_errorCode om = some y) (b_m : bM k m om h) : Met l yX9_errorCode (rx_ws yX9_errorCode cX9_errorCode 1 (some .int)) (rx_rm 0 0) (va_Pc [.ref m] (rx_G G k h n)) (va_Qi (fun r u => y.1 = r ∧ u.2 = n ∧ bM k m y.2 u.1 ∧ rx_fr [(m, 9)] h u.1) (rx_B G k) (rx_A k)) 0 0 (rx_A k) := by
  refine rx_start [(0, .ref m)] rfl (Nat.le_of_ble_eq_true rfl) (by decide) rfl (fun P9 E9 S9 M9 A9 B9 me9 c9 C hname => ?_)
  unfold F_X9_errorCode at hF
  have fr : rx_fr [(m, 9)] h h := rx_fr0
  refine rx_aload_n C dX9_errorCode_0 0 rfl ?_
  refine rx_iconst C dX9_errorCode_1 (0 : Int32) (by decide) ?_
  replace hF := rx_leE hF; obtain ⟨o_m_1, e_o_m_1, hF⟩ := hF
  refine rx_pM0 C f_X9_1 dX9_errorCode_2 b_m e_o_m_1 (fun hh c_m ff => ?_)
  replace b_m := c_m
  replace fr := rx_frt fr ff (fun a ha => ⟨ha.1, trivial⟩)
  refine rx_aload_n C dX9_errorCode_5 0 rfl ?_
  refine rx_getf C f_X9_160 dX9_errorCode_6 b_m.1 rfl ?_
  obtain rfl := Option.some.inj hF
  exact rx_iret C dX9_errorCode_9 (Nat.le_refl _) (Nat.le_refl _) ⟨rfl, rfl, b_m, fr⟩
def F_X9_errorOffset (om : ob) : Option (Int32 × ob) := rx_le (upd om.1 0 ((0 : Int32)), om.2) fun o_m_1 => some ((o_m_1.1 16), o_m_1)
set_option maxRecDepth 100000 in
set_option maxHeartbeats 4000000 in
theorem w_X9_errorOffset {m : Nat} {om : ob} {y : Int32 × ob} (hF : F_X9_errorOffset om = some y) (b_m : bM k m om h) : Met l yX9_errorOffset (rx_ws yX9_errorOffset cX9_errorOffset 1 (some .int)) (rx_rm 0 0) (va_Pc [.ref m] (rx_G G k h n)) (va_Qi (fun r u => y.1 = r ∧ u.2 = n ∧ bM k m y.2 u.1 ∧ rx_fr [(m, 9)] h u.1) (rx_B G k) (rx_A k)) 0 0 (rx_A k) := by
  refine rx_start [(0, .ref m)] rfl (Nat.le_of_ble_eq_true rfl) (by decide) rfl (fun P9 E9 S9 M9 A9 B9 me9 c9 C hname => ?_)
  unfold F_X9_errorOffset at hF
  have fr : rx_fr [(m, 9)] h h := rx_fr0
  refine rx_aload_n C dX9_errorOffset_0 0 rfl ?_
  refine rx_iconst C dX9_errorOffset_1 (0 : Int32) (by decide) ?_
  replace hF := rx_leE hF; obtain ⟨o_m_1, e_o_m_1, hF⟩ := hF
  refine rx_pM0 C f_X9_1 dX9_errorOffset_2 b_m e_o_m_1 (fun hh c_m ff => ?_)
  replace b_m := c_m
  replace fr := rx_frt fr ff (fun a ha => ⟨ha.1, trivial⟩)
  refine rx_aload_n C dX9_errorOffset_5 0 rfl ?_
  refine rx_getf C f_X9_32 dX9_errorOffset_6 b_m.1 rfl ?_
  obtain rfl := Option.some.inj hF
  exact rx_iret C dX9_errorOffset_9 (Nat.le_refl _) (Nat.le_refl _) ⟨rfl, rfl, b_m, fr⟩
def F_X9_byteAt (om : ob) (x1 : Int32) : Option (Int32) := if (om.1 10) ≤ x1 then (some ((-1 : Int32))) else ((rx_ald 500 (om.2 8) x1).bind fun v2 => some v2)
set_option maxRecDepth 100000 in
set_option maxHeartbeats 4000000 in
theorem w_X9_byteAt {m : Nat} {om : ob} {x1 : Int32} {y : Int32} (hF : F_X9_byteAt om x1 = some y) (b_m : bM k m om h) : Met l yX9_byteAt (rx_ws yX9_byteAt cX9_byteAt 2 (some .int)) (rx_rm 0 0) (va_Pc [.ref m, .int x1] (rx_G G k h n)) (va_Qi (fun r u => y = r ∧ u = (h, n)) (rx_B G k) (rx_A k)) 0 0 (rx_A k) := by
  refine rx_start [(0, .ref m), (1, .int x1)] rfl (Nat.le_of_ble_eq_true rfl) (by decide) rfl (fun P9 E9 S9 M9 A9 B9 me9 c9 C hname => ?_)
  unfold F_X9_byteAt at hF
  refine rx_iload_n C dX9_byteAt_0 1 rfl ?_
  refine rx_aload_n C dX9_byteAt_1 0 rfl ?_
  refine rx_getf C f_X9_163 dX9_byteAt_2 b_m.1 rfl ?_
  refine rx_icmp_ge C dX9_byteAt_5 17 (by decide) (fun c1 => ?_) (fun c1 => ?_)
  · rw [if_pos c1] at hF
    refine rx_iconst C dX9_byteAt_17 (-1 : Int32) (by decide) ?_
    obtain rfl := Option.some.inj hF
    exact rx_iret C dX9_byteAt_18 (Nat.le_refl _) (Nat.le_refl _) ⟨rfl, rfl⟩
  · rw [if_neg c1] at hF
    refine rx_aload_n C dX9_byteAt_8 0 rfl ?_
    refine rx_getf C f_X9_29 dX9_byteAt_9 b_m.1 rfl ?_
    refine rx_iload_n C dX9_byteAt_12 1 rfl ?_
    replace hF := rx_biE hF; obtain ⟨v2, e_v2, hF⟩ := hF
    refine rx_aldF C dX9_byteAt_13 b_m.2.2.2.2.2.2.1 e_v2 ?_
    refine rx_goto C dX9_byteAt_14 18 (by decide) ?_
    obtain rfl := Option.some.inj hF
    exact rx_iret C dX9_byteAt_18 (Nat.le_refl _) (Nat.le_refl _) ⟨rfl, rfl⟩
def F_X9_isLetter (x0 : Int32) : Option (Int32) := if x0 < (97 : Int32) then (some ((0 : Int32))) else (if (122 : Int32) < x0 then (some ((0 : Int32))) else (some ((1 : Int32))))
set_option maxRecDepth 100000 in
set_option maxHeartbeats 4000000 in
theorem w_X9_isLetter {x0 : Int32} {y : Int32} (hF : F_X9_isLetter x0 = some y) : Met l yX9_isLetter (rx_ws yX9_isLetter cX9_isLetter 1 (some .boolean)) (rx_rm 0 0) (va_Pc [.int x0] (rx_G G k h n)) (va_Qi (fun r u => y = r ∧ (y = 0 ∨ y = 1) ∧ u = (h, n)) (rx_B G k) (rx_A k)) 0 0 (rx_A k) := by
  refine rx_start [(0, .int x0)] rfl (Nat.le_of_ble_eq_true rfl) (by decide) rfl (fun P9 E9 S9 M9 A9 B9 me9 c9 C hname => ?_)
  unfold F_X9_isLetter at hF
  refine rx_iload_n C dX9_isLetter_0 0 rfl ?_
  refine rx_bipush C dX9_isLetter_1 (97 : Int32) (by decide) ?_
  refine rx_icmp_lt C dX9_isLetter_3 16 (by decide) (fun c1 => ?_) (fun c1 => ?_)
  · rw [if_pos c1] at hF
    refine rx_iconst C dX9_isLetter_16 (0 : Int32) (by decide) ?_
    obtain rfl := Option.some.inj hF
    exact rx_zret C (rx_nz (Or.inl rfl)) dX9_isLetter_17 (Nat.le_refl _) (Nat.le_refl _) ⟨rfl, (Or.inl rfl), rfl⟩
  · rw [if_neg c1] at hF
    refine rx_iload_n C dX9_isLetter_6 0 rfl ?_
    refine rx_bipush C dX9_isLetter_7 (122 : Int32) (by decide) ?_
    refine rx_icmp_gt C dX9_isLetter_9 16 (by decide) (fun c2 => ?_) (fun c2 => ?_)
    · rw [if_pos c2] at hF
      refine rx_iconst C dX9_isLetter_16 (0 : Int32) (by decide) ?_
      obtain rfl := Option.some.inj hF
      exact rx_zret C (rx_nz (Or.inl rfl)) dX9_isLetter_17 (Nat.le_refl _) (Nat.le_refl _) ⟨rfl, (Or.inl rfl), rfl⟩
    · rw [if_neg c2] at hF
      refine rx_iconst C dX9_isLetter_12 (1 : Int32) (by decide) ?_
      refine rx_goto C dX9_isLetter_13 17 (by decide) ?_
      obtain rfl := Option.some.inj hF
      exact rx_zret C (rx_nz (Or.inr rfl)) dX9_isLetter_17 (Nat.le_refl _) (Nat.le_refl _) ⟨rfl, (Or.inr rfl), rfl⟩
def F_X9_isFigure (x0 : Int32) : Option (Int32) := if x0 < (48 : Int32) then (some ((0 : Int32))) else (if (57 : Int32) < x0 then (some ((0 : Int32))) else (some ((1 : Int32))))
set_option maxRecDepth 100000 in
set_option maxHeartbeats 4000000 in
theorem w_X9_isFigure {x0 : Int32} {y : Int32} (hF : F_X9_isFigure x0 = some y) : Met l yX9_isFigure (rx_ws yX9_isFigure cX9_isFigure 1 (some .boolean)) (rx_rm 0 0) (va_Pc [.int x0] (rx_G G k h n)) (va_Qi (fun r u => y = r ∧ (y = 0 ∨ y = 1) ∧ u = (h, n)) (rx_B G k) (rx_A k)) 0 0 (rx_A k) := by
  refine rx_start [(0, .int x0)] rfl (Nat.le_of_ble_eq_true rfl) (by decide) rfl (fun P9 E9 S9 M9 A9 B9 me9 c9 C hname => ?_)
  unfold F_X9_isFigure at hF
  refine rx_iload_n C dX9_isFigure_0 0 rfl ?_
  refine rx_bipush C dX9_isFigure_1 (48 : Int32) (by decide) ?_
  refine rx_icmp_lt C dX9_isFigure_3 16 (by decide) (fun c1 => ?_) (fun c1 => ?_)
  · rw [if_pos c1] at hF
    refine rx_iconst C dX9_isFigure_16 (0 : Int32) (by decide) ?_
    obtain rfl := Option.some.inj hF
    exact rx_zret C (rx_nz (Or.inl rfl)) dX9_isFigure_17 (Nat.le_refl _) (Nat.le_refl _) ⟨rfl, (Or.inl rfl), rfl⟩
  · rw [if_neg c1] at hF
    refine rx_iload_n C dX9_isFigure_6 0 rfl ?_
    refine rx_bipush C dX9_isFigure_7 (57 : Int32) (by decide) ?_
    refine rx_icmp_gt C dX9_isFigure_9 16 (by decide) (fun c2 => ?_) (fun c2 => ?_)
    · rw [if_pos c2] at hF
      refine rx_iconst C dX9_isFigure_16 (0 : Int32) (by decide) ?_
      obtain rfl := Option.some.inj hF
      exact rx_zret C (rx_nz (Or.inl rfl)) dX9_isFigure_17 (Nat.le_refl _) (Nat.le_refl _) ⟨rfl, (Or.inl rfl), rfl⟩
    · rw [if_neg c2] at hF
      refine rx_iconst C dX9_isFigure_12 (1 : Int32) (by decide) ?_
      refine rx_goto C dX9_isFigure_13 17 (by decide) ?_
      obtain rfl := Option.some.inj hF
      exact rx_zret C (rx_nz (Or.inr rfl)) dX9_isFigure_17 (Nat.le_refl _) (Nat.le_refl _) ⟨rfl, (Or.inr rfl), rfl⟩
def F_X9_readsNumber_5 : Nat → ob → Option (ob)
  | 0, _ => none
  | fu + 1, om => (F_X9_byteAt om ((om.1 11))).bind fun y4 => (F_X9_isFigure y4).bind fun y5 => if y5 = (0 : Int32) then (some om) else (if (om.1 14) ≤ (9999999 : Int32) then ((rx_ald 500 (om.2 8) ((om.1 11))).bind fun v8 => rx_le (upd om.1 14 (((((10 : Int32) * (om.1 14)) + v8) - (48 : Int32))), om.2) fun o_m_9 => rx_le (upd o_m_9.1 11 (((o_m_9.1 11) + (1 : Int32))), o_m_9.2) fun o_m_10 => F_X9_readsNumber_5  fu o_m_10) else (rx_le (upd om.1 14 ((om.1 14)), om.2) fun o_m_11 => rx_le (upd o_m_11.1 11 (((o_m_11.1 11) + (1 : Int32))), o_m_11.2) fun o_m_12 => F_X9_readsNumber_5  fu o_m_12))
def F_X9_readsNumber (om : ob) : Option (ob) := rx_le (upd om.1 14 ((0 : Int32)), om.2) fun o_m_1 => (F_X9_readsNumber_5  100000 o_m_1).bind fun zl13 => rx_le (upd zl13.1 13 ((2 : Int32)), zl13.2) fun o_m_14 => some o_m_14
set_option maxRecDepth 100000 in
set_option maxHeartbeats 4000000 in
theorem w_X9_readsNumber {m : Nat} {om : ob} {y : ob} (hF : F_X9_readsNumber om = some y) (b_m : bM k m om h) : Met l yX9_readsNumber (rx_ws yX9_readsNumber cX9_readsNumber 1 none) (rx_rm 1 21) (va_Pc [.ref m] (rx_G G k h n)) (va_Qv (fun u => u.2 = n ∧ bM k m y u.1 ∧ rx_fr [(m, 9)] h u.1) (rx_B G k) (rx_A k)) 0 0 (rx_A k) := by
  refine rx_start [(0, .ref m)] rfl (Nat.le_of_ble_eq_true rfl) (by decide) rfl (fun P9 E9 S9 M9 A9 B9 me9 c9 C hname => ?_)
  unfold F_X9_readsNumber at hF
  have fr : rx_fr [(m, 9)] h h := rx_fr0
  refine rx_aload_n C dX9_readsNumber_0 0 rfl ?_
  refine rx_iconst C dX9_readsNumber_1 (0 : Int32) (by decide) ?_
  replace hF := rx_leE hF; obtain ⟨o_m_1, e_o_m_1, hF⟩ := hF
  refine rx_pM14 C f_X9_166 dX9_readsNumber_2 b_m e_o_m_1 (fun hh c_m ff => ?_)
  replace b_m := c_m
  replace fr := rx_frt fr ff (fun a ha => ⟨ha.1, trivial⟩)
  have loop3 : ∀ (fu : Nat) (zz : ob) (om : ob)  (hh : hp), F_X9_readsNumber_5  fu om = some zz → bM k m om hh → rx_fr [(m, 9)] h hh → (∀ hh : hp, bM k m zz hh → rx_fr [(m, 9)] h hh → rx_W P9 l E9 (rx_rm 1 21) S9 M9 A9 B9 me9 c9 (MQ B9 (va_Qv (fun u => u.2 = n ∧ bM k m y u.1 ∧ rx_fr [(m, 9)] h u.1) (rx_B G k) (rx_A k)) A9 S9 0 0 (rx_A k)) G k 1 0 0 hh n 72 [(0, .ref m)] []) → rx_W P9 l E9 (rx_rm 1 21) S9 M9 A9 B9 me9 c9 (MQ B9 (va_Qv (fun u => u.2 = n ∧ bM k m y u.1 ∧ rx_fr [(m, 9)] h u.1) (rx_B G k) (rx_A k)) A9 S9 0 0 (rx_A k)) G k 1 0 0 hh n 5 [(0, .ref m)] [] := by
    intro fu
    induction fu with
    | zero => intro zz om hh hF b_m fr KK; exact absurd hF (by simp [F_X9_readsNumber_5])
    | succ fu ih_loop3 =>
      intro zz om hh hF b_m fr KK
      unfold F_X9_readsNumber_5 at hF
      refine rx_aload_n C dX9_readsNumber_5 0 rfl ?_
      refine rx_aload_n C dX9_readsNumber_6 0 rfl ?_
      refine rx_getf C f_X9_169 dX9_readsNumber_7 b_m.1 rfl ?_
      replace hF := rx_biE hF; obtain ⟨y4, e_y4, hF⟩ := hF
      refine rx_ci (rx_rV C (w_X9_byteAt e_y4 b_m) Y_X9_byteAt V_X9_byteAt m_X9_171 (Or.inl ⟨_, _, _, _, b_m.1, rfl⟩) ⟨⟨rfl, rfl⟩, ⟨(Nat.le_of_ble_eq_true rfl), (Nat.le_of_ble_eq_true rfl)⟩, ⟨(Nat.le_of_ble_eq_true rfl), (Nat.le_of_ble_eq_true rfl)⟩⟩ rfl rfl (Nat.le_of_ble_eq_true rfl) dX9_readsNumber_10) (fun r hh n1 hpp => ?_)
      obtain ⟨rfl, hu⟩ := hpp
      cases hu
      replace hF := rx_biE hF; obtain ⟨y5, e_y5, hF⟩ := hF
      refine rx_ci (rx_rS C (w_X9_isFigure e_y5 ) Y_X9_isFigure S_X9_isFigure m_X9_174 ⟨⟨rfl, rfl⟩, ⟨(Nat.le_of_ble_eq_true rfl), (Nat.le_of_ble_eq_true rfl)⟩, ⟨(Nat.le_of_ble_eq_true rfl), (Nat.le_of_ble_eq_true rfl)⟩⟩ rfl rfl (Nat.le_of_ble_eq_true rfl) dX9_readsNumber_13) (fun r hh n1 hpp => ?_)
      obtain ⟨rfl, bo_y5, hu⟩ := hpp
      cases hu
      refine rx_if_eq C dX9_readsNumber_16 72 (by decide) (fun c6 => ?_) (fun c6 => ?_)
      · rw [if_pos c6] at hF
        obtain rfl := Option.some.inj hF
        refine rx_sub [0] rfl ?_
        exact KK _ b_m fr
      · rw [if_neg c6] at hF
        refine rx_aload_n C dX9_readsNumber_19 0 rfl ?_
        refine rx_aload_n C dX9_readsNumber_20 0 rfl ?_
        refine rx_getf C f_X9_166 dX9_readsNumber_21 b_m.1 rfl ?_
        refine rx_ldcw C lk_X9_177 dX9_readsNumber_24 ?_
        refine rx_icmp_le C dX9_readsNumber_26 36 (by decide) (fun c7 => ?_) (fun c7 => ?_)
        · rw [if_pos c7] at hF
          refine rx_bipush C dX9_readsNumber_36 (10 : Int32) (by decide) ?_
          refine rx_aload_n C dX9_readsNumber_38 0 rfl ?_
          refine rx_getf C f_X9_166 dX9_readsNumber_39 b_m.1 rfl ?_
          refine rx_imul C dX9_readsNumber_42 ?_
          refine rx_aload_n C dX9_readsNumber_43 0 rfl ?_
          refine rx_getf C f_X9_29 dX9_readsNumber_44 b_m.1 rfl ?_
          refine rx_aload_n C dX9_readsNumber_47 0 rfl ?_
          refine rx_getf C f_X9_169 dX9_readsNumber_48 b_m.1 rfl ?_
          replace hF := rx_biE hF; obtain ⟨v8, e_v8, hF⟩ := hF
          refine rx_aldF C dX9_readsNumber_51 b_m.2.2.2.2.2.2.1 e_v8 ?_
          refine rx_iadd C dX9_readsNumber_52 ?_
          refine rx_bipush C dX9_readsNumber_53 (48 : Int32) (by decide) ?_
          refine rx_isub C dX9_readsNumber_55 ?_
          replace hF := rx_leE hF; obtain ⟨o_m_9, e_o_m_9, hF⟩ := hF
          refine rx_pM14 C f_X9_166 dX9_readsNumber_56 b_m e_o_m_9 (fun hh c_m ff => ?_)
          replace b_m := c_m
          replace fr := rx_frt fr ff (fun a ha => ⟨ha.1, trivial⟩)
          refine rx_aload_n C dX9_readsNumber_59 0 rfl ?_
          refine rx_dup C dX9_readsNumber_60 rfl ?_
          refine rx_getf C f_X9_169 dX9_readsNumber_61 b_m.1 rfl ?_
          refine rx_iconst C dX9_readsNumber_64 (1 : Int32) (by decide) ?_
          refine rx_iadd C dX9_readsNumber_65 ?_
          replace hF := rx_leE hF; obtain ⟨o_m_10, e_o_m_10, hF⟩ := hF
          refine rx_pM11 C f_X9_169 dX9_readsNumber_66 b_m e_o_m_10 (fun hh c_m ff => ?_)
          replace b_m := c_m
          replace fr := rx_frt fr ff (fun a ha => ⟨ha.1, trivial⟩)
          refine rx_goto C dX9_readsNumber_69 5 (by decide) ?_
          refine rx_sub [0] rfl ?_
          exact ih_loop3 _ _ _ hF b_m fr KK
        · rw [if_neg c7] at hF
          refine rx_aload_n C dX9_readsNumber_29 0 rfl ?_
          refine rx_getf C f_X9_166 dX9_readsNumber_30 b_m.1 rfl ?_
          refine rx_goto C dX9_readsNumber_33 56 (by decide) ?_
          replace hF := rx_leE hF; obtain ⟨o_m_11, e_o_m_11, hF⟩ := hF
          refine rx_pM14 C f_X9_166 dX9_readsNumber_56 b_m e_o_m_11 (fun hh c_m ff => ?_)
          replace b_m := c_m
          replace fr := rx_frt fr ff (fun a ha => ⟨ha.1, trivial⟩)
          refine rx_aload_n C dX9_readsNumber_59 0 rfl ?_
          refine rx_dup C dX9_readsNumber_60 rfl ?_
          refine rx_getf C f_X9_169 dX9_readsNumber_61 b_m.1 rfl ?_
          refine rx_iconst C dX9_readsNumber_64 (1 : Int32) (by decide) ?_
          refine rx_iadd C dX9_readsNumber_65 ?_
          replace hF := rx_leE hF; obtain ⟨o_m_12, e_o_m_12, hF⟩ := hF
          refine rx_pM11 C f_X9_169 dX9_readsNumber_66 b_m e_o_m_12 (fun hh c_m ff => ?_)
          replace b_m := c_m
          replace fr := rx_frt fr ff (fun a ha => ⟨ha.1, trivial⟩)
          refine rx_goto C dX9_readsNumber_69 5 (by decide) ?_
          refine rx_sub [0] rfl ?_
          exact ih_loop3 _ _ _ hF b_m fr KK
  refine rx_sub [0] rfl ?_
  replace hF := rx_biE hF; obtain ⟨zl13, e_zl13, hF⟩ := hF
  refine loop3 _ zl13 _ _ e_zl13 b_m fr (fun hh b_m fr => ?_)
  refine rx_aload_n C dX9_readsNumber_72 0 rfl ?_
  refine rx_iconst C dX9_readsNumber_73 (2 : Int32) (by decide) ?_
  replace hF := rx_leE hF; obtain ⟨o_m_14, e_o_m_14, hF⟩ := hF
  refine rx_pM13 C f_X9_178 dX9_readsNumber_74 b_m e_o_m_14 (fun hh c_m ff => ?_)
  replace b_m := c_m
  replace fr := rx_frt fr ff (fun a ha => ⟨ha.1, trivial⟩)
  obtain rfl := Option.some.inj hF
  exact rx_vret C dX9_readsNumber_77 (Nat.le_refl _) (Nat.le_refl _) ⟨rfl, b_m, fr⟩
def F_X9_next_0 : Nat → ob → Option (ob)
  | 0, _ => none
  | fu + 1, om => (F_X9_byteAt om ((om.1 11))).bind fun y3 => if y3 = (32 : Int32) then (rx_le (upd om.1 11 (((om.1 11) + (1 : Int32))), om.2) fun o_m_5 => F_X9_next_0  fu o_m_5) else ((F_X9_byteAt om ((om.1 11))).bind fun y6 => if y6 = (10 : Int32) then (rx_le (upd om.1 11 (((om.1 11) + (1 : Int32))), om.2) fun o_m_8 => F_X9_next_0  fu o_m_8) else (some om))
def F_X9_next_81 : Nat → ob → Option (ob)
  | 0, _ => none
  | fu + 1, om => (F_X9_byteAt om ((om.1 11))).bind fun y23 => (F_X9_isLetter y23).bind fun y24 => if y24 = (0 : Int32) then (some om) else (rx_le (upd om.1 11 (((om.1 11) + (1 : Int32))), om.2) fun o_m_26 => F_X9_next_81  fu o_m_26)
def F_X9_next (om : ob) : Option (ob) := (F_X9_next_0  100000 om).bind fun zl9 => rx_le (upd zl9.1 12 ((zl9.1 11)), zl9.2) fun o_m_10 => if (o_m_10.1 11) < (o_m_10.1 10) then ((rx_ald 500 (o_m_10.2 8) ((o_m_10.1 11))).bind fun v12 => (F_X9_isLetter v12).bind fun y13 => if y13 = (0 : Int32) then ((rx_ald 500 (o_m_10.2 8) ((o_m_10.1 11))).bind fun v15 => (F_X9_isFigure v15).bind fun y16 => if y16 = (0 : Int32) then (rx_le (upd o_m_10.1 13 ((3 : Int32)), o_m_10.2) fun o_m_18 => rx_le (upd o_m_18.1 11 (((o_m_18.1 11) + (1 : Int32))), o_m_18.2) fun o_m_19 => some o_m_19) else ((F_X9_readsNumber o_m_10).bind fun y20 => some y20)) else ((F_X9_next_81  100000 o_m_10).bind fun zl27 => rx_le (upd zl27.1 13 ((1 : Int32)), zl27.2) fun o_m_28 => some o_m_28)) else (rx_le (upd o_m_10.1 13 ((0 : Int32)), o_m_10.2) fun o_m_29 => some o_m_29)
set_option maxRecDepth 100000 in
set_option maxHeartbeats 4000000 in
theorem w_X9_next {m : Nat} {om : ob} {y : ob} (hF : F_X9_next om = some y) (b_m : bM k m om h) : Met l yX9_next (rx_ws yX9_next cX9_next 1 none) (rx_rm 2 41) (va_Pc [.ref m] (rx_G G k h n)) (va_Qv (fun u => u.2 = n ∧ bM k m y u.1 ∧ rx_fr [(m, 9)] h u.1) (rx_B G k) (rx_A k)) 0 0 (rx_A k) := by
  refine rx_start [(0, .ref m)] rfl (Nat.le_of_ble_eq_true rfl) (by decide) rfl (fun P9 E9 S9 M9 A9 B9 me9 c9 C hname => ?_)
  unfold F_X9_next at hF
  have fr : rx_fr [(m, 9)] h h := rx_fr0
  have loop2 : ∀ (fu : Nat) (zz : ob) (om : ob)  (hh : hp), F_X9_next_0  fu om = some zz → bM k m om hh → rx_fr [(m, 9)] h hh → (∀ hh : hp, bM k m zz hh → rx_fr [(m, 9)] h hh → rx_W P9 l E9 (rx_rm 2 41) S9 M9 A9 B9 me9 c9 (MQ B9 (va_Qv (fun u => u.2 = n ∧ bM k m y u.1 ∧ rx_fr [(m, 9)] h u.1) (rx_B G k) (rx_A k)) A9 S9 0 0 (rx_A k)) G k 1 0 0 hh n 39 [(0, .ref m)] []) → rx_W P9 l E9 (rx_rm 2 41) S9 M9 A9 B9 me9 c9 (MQ B9 (va_Qv (fun u => u.2 = n ∧ bM k m y u.1 ∧ rx_fr [(m, 9)] h u.1) (rx_B G k) (rx_A k)) A9 S9 0 0 (rx_A k)) G k 1 0 0 hh n 0 [(0, .ref m)] [] := by
    intro fu
    induction fu with
    | zero => intro zz om hh hF b_m fr KK; exact absurd hF (by simp [F_X9_next_0])
    | succ fu ih_loop2 =>
      intro zz om hh hF b_m fr KK
      unfold F_X9_next_0 at hF
      refine rx_aload_n C dX9_next_0 0 rfl ?_
      refine rx_aload_n C dX9_next_1 0 rfl ?_
      refine rx_getf C f_X9_169 dX9_next_2 b_m.1 rfl ?_
      replace hF := rx_biE hF; obtain ⟨y3, e_y3, hF⟩ := hF
      refine rx_ci (rx_rV C (w_X9_byteAt e_y3 b_m) Y_X9_byteAt V_X9_byteAt m_X9_171 (Or.inl ⟨_, _, _, _, b_m.1, rfl⟩) ⟨⟨rfl, rfl⟩, ⟨(Nat.le_of_ble_eq_true rfl), (Nat.le_of_ble_eq_true rfl)⟩, ⟨(Nat.le_of_ble_eq_true rfl), (Nat.le_of_ble_eq_true rfl)⟩⟩ rfl rfl (Nat.le_of_ble_eq_true rfl) dX9_next_5) (fun r hh n1 hpp => ?_)
      obtain ⟨rfl, hu⟩ := hpp
      cases hu
      refine rx_bipush C dX9_next_8 (32 : Int32) (by decide) ?_
      refine rx_icmp_eq C dX9_next_10 26 (by decide) (fun c4 => ?_) (fun c4 => ?_)
      · rw [if_pos c4] at hF
        refine rx_aload_n C dX9_next_26 0 rfl ?_
        refine rx_dup C dX9_next_27 rfl ?_
        refine rx_getf C f_X9_169 dX9_next_28 b_m.1 rfl ?_
        refine rx_iconst C dX9_next_31 (1 : Int32) (by decide) ?_
        refine rx_iadd C dX9_next_32 ?_
        replace hF := rx_leE hF; obtain ⟨o_m_5, e_o_m_5, hF⟩ := hF
        refine rx_pM11 C f_X9_169 dX9_next_33 b_m e_o_m_5 (fun hh c_m ff => ?_)
        replace b_m := c_m
        replace fr := rx_frt fr ff (fun a ha => ⟨ha.1, trivial⟩)
        refine rx_goto C dX9_next_36 0 (by decide) ?_
        refine rx_sub [0] rfl ?_
        exact ih_loop2 _ _ _ hF b_m fr KK
      · rw [if_neg c4] at hF
        refine rx_aload_n C dX9_next_13 0 rfl ?_
        refine rx_aload_n C dX9_next_14 0 rfl ?_
        refine rx_getf C f_X9_169 dX9_next_15 b_m.1 rfl ?_
        replace hF := rx_biE hF; obtain ⟨y6, e_y6, hF⟩ := hF
        refine rx_ci (rx_rV C (w_X9_byteAt e_y6 b_m) Y_X9_byteAt V_X9_byteAt m_X9_171 (Or.inl ⟨_, _, _, _, b_m.1, rfl⟩) ⟨⟨rfl, rfl⟩, ⟨(Nat.le_of_ble_eq_true rfl), (Nat.le_of_ble_eq_true rfl)⟩, ⟨(Nat.le_of_ble_eq_true rfl), (Nat.le_of_ble_eq_true rfl)⟩⟩ rfl rfl (Nat.le_of_ble_eq_true rfl) dX9_next_18) (fun r hh n1 hpp => ?_)
        obtain ⟨rfl, hu⟩ := hpp
        cases hu
        refine rx_bipush C dX9_next_21 (10 : Int32) (by decide) ?_
        refine rx_icmp_ne C dX9_next_23 39 (by decide) (fun c7 => ?_) (fun c7 => ?_)
        · rw [if_neg c7] at hF
          obtain rfl := Option.some.inj hF
          refine rx_sub [0] rfl ?_
          exact KK _ b_m fr
        · rw [if_pos c7] at hF
          refine rx_aload_n C dX9_next_26 0 rfl ?_
          refine rx_dup C dX9_next_27 rfl ?_
          refine rx_getf C f_X9_169 dX9_next_28 b_m.1 rfl ?_
          refine rx_iconst C dX9_next_31 (1 : Int32) (by decide) ?_
          refine rx_iadd C dX9_next_32 ?_
          replace hF := rx_leE hF; obtain ⟨o_m_8, e_o_m_8, hF⟩ := hF
          refine rx_pM11 C f_X9_169 dX9_next_33 b_m e_o_m_8 (fun hh c_m ff => ?_)
          replace b_m := c_m
          replace fr := rx_frt fr ff (fun a ha => ⟨ha.1, trivial⟩)
          refine rx_goto C dX9_next_36 0 (by decide) ?_
          refine rx_sub [0] rfl ?_
          exact ih_loop2 _ _ _ hF b_m fr KK
  refine rx_sub [0] rfl ?_
  replace hF := rx_biE hF; obtain ⟨zl9, e_zl9, hF⟩ := hF
  refine loop2 _ zl9 _ _ e_zl9 b_m fr (fun hh b_m fr => ?_)
  refine rx_aload_n C dX9_next_39 0 rfl ?_
  refine rx_aload_n C dX9_next_40 0 rfl ?_
  refine rx_getf C f_X9_169 dX9_next_41 b_m.1 rfl ?_
  replace hF := rx_leE hF; obtain ⟨o_m_10, e_o_m_10, hF⟩ := hF
  refine rx_pM12 C f_X9_181 dX9_next_44 b_m e_o_m_10 (fun hh c_m ff => ?_)
  replace b_m := c_m
  replace fr := rx_frt fr ff (fun a ha => ⟨ha.1, trivial⟩)
  refine rx_aload_n C dX9_next_47 0 rfl ?_
  refine rx_getf C f_X9_169 dX9_next_48 b_m.1 rfl ?_
  refine rx_aload_n C dX9_next_51 0 rfl ?_
  refine rx_getf C f_X9_163 dX9_next_52 b_m.1 rfl ?_
  refine rx_icmp_lt C dX9_next_55 66 (by decide) (fun c11 => ?_) (fun c11 => ?_)
  · rw [if_pos c11] at hF
    refine rx_aload_n C dX9_next_66 0 rfl ?_
    refine rx_getf C f_X9_29 dX9_next_67 b_m.1 rfl ?_
    refine rx_aload_n C dX9_next_70 0 rfl ?_
    refine rx_getf C f_X9_169 dX9_next_71 b_m.1 rfl ?_
    replace hF := rx_biE hF; obtain ⟨v12, e_v12, hF⟩ := hF
    refine rx_aldF C dX9_next_74 b_m.2.2.2.2.2.2.1 e_v12 ?_
    replace hF := rx_biE hF; obtain ⟨y13, e_y13, hF⟩ := hF
    refine rx_ci (rx_rS C (w_X9_isLetter e_y13 ) Y_X9_isLetter S_X9_isLetter m_X9_184 ⟨⟨rfl, rfl⟩, ⟨(Nat.le_of_ble_eq_true rfl), (Nat.le_of_ble_eq_true rfl)⟩, ⟨(Nat.le_of_ble_eq_true rfl), (Nat.le_of_ble_eq_true rfl)⟩⟩ rfl rfl (Nat.le_of_ble_eq_true rfl) dX9_next_75) (fun r hh n1 hpp => ?_)
    obtain ⟨rfl, bo_y13, hu⟩ := hpp
    cases hu
    refine rx_if_eq C dX9_next_78 116 (by decide) (fun c14 => ?_) (fun c14 => ?_)
    · rw [if_pos c14] at hF
      refine rx_aload_n C dX9_next_116 0 rfl ?_
      refine rx_getf C f_X9_29 dX9_next_117 b_m.1 rfl ?_
      refine rx_aload_n C dX9_next_120 0 rfl ?_
      refine rx_getf C f_X9_169 dX9_next_121 b_m.1 rfl ?_
      replace hF := rx_biE hF; obtain ⟨v15, e_v15, hF⟩ := hF
      refine rx_aldF C dX9_next_124 b_m.2.2.2.2.2.2.1 e_v15 ?_
      replace hF := rx_biE hF; obtain ⟨y16, e_y16, hF⟩ := hF
      refine rx_ci (rx_rS C (w_X9_isFigure e_y16 ) Y_X9_isFigure S_X9_isFigure m_X9_174 ⟨⟨rfl, rfl⟩, ⟨(Nat.le_of_ble_eq_true rfl), (Nat.le_of_ble_eq_true rfl)⟩, ⟨(Nat.le_of_ble_eq_true rfl), (Nat.le_of_ble_eq_true rfl)⟩⟩ rfl rfl (Nat.le_of_ble_eq_true rfl) dX9_next_125) (fun r hh n1 hpp => ?_)
      obtain ⟨rfl, bo_y16, hu⟩ := hpp
      cases hu
      refine rx_if_eq C dX9_next_128 138 (by decide) (fun c17 => ?_) (fun c17 => ?_)
      · rw [if_pos c17] at hF
        refine rx_aload_n C dX9_next_138 0 rfl ?_
        refine rx_iconst C dX9_next_139 (3 : Int32) (by decide) ?_
        replace hF := rx_leE hF; obtain ⟨o_m_18, e_o_m_18, hF⟩ := hF
        refine rx_pM13 C f_X9_178 dX9_next_140 b_m e_o_m_18 (fun hh c_m ff => ?_)
        replace b_m := c_m
        replace fr := rx_frt fr ff (fun a ha => ⟨ha.1, trivial⟩)
        refine rx_aload_n C dX9_next_143 0 rfl ?_
        refine rx_dup C dX9_next_144 rfl ?_
        refine rx_getf C f_X9_169 dX9_next_145 b_m.1 rfl ?_
        refine rx_iconst C dX9_next_148 (1 : Int32) (by decide) ?_
        refine rx_iadd C dX9_next_149 ?_
        replace hF := rx_leE hF; obtain ⟨o_m_19, e_o_m_19, hF⟩ := hF
        refine rx_pM11 C f_X9_169 dX9_next_150 b_m e_o_m_19 (fun hh c_m ff => ?_)
        replace b_m := c_m
        replace fr := rx_frt fr ff (fun a ha => ⟨ha.1, trivial⟩)
        obtain rfl := Option.some.inj hF
        exact rx_vret C dX9_next_153 (Nat.le_refl _) (Nat.le_refl _) ⟨rfl, b_m, fr⟩
      · rw [if_neg c17] at hF
        refine rx_aload_n C dX9_next_131 0 rfl ?_
        replace hF := rx_biE hF; obtain ⟨y20, e_y20, hF⟩ := hF
        refine rx_cv (rx_rV C (w_X9_readsNumber e_y20 b_m) Y_X9_readsNumber V_X9_readsNumber m_X9_187 (Or.inl ⟨_, _, _, _, b_m.1, rfl⟩) ⟨⟨rfl, rfl⟩, ⟨(Nat.le_of_ble_eq_true rfl), (Nat.le_of_ble_eq_true rfl)⟩, ⟨(Nat.le_of_ble_eq_true rfl), (Nat.le_of_ble_eq_true rfl)⟩⟩ rfl rfl (Nat.le_of_ble_eq_true rfl) dX9_next_132) (fun hh n1 hpp => ?_)
        obtain ⟨hn, c_m, ff⟩ := hpp
        replace hn : n = n1 := Eq.symm hn
        subst hn
        replace b_m : bM k m y20 hh := c_m
        clear c_m
        replace ff : rx_fr [(m, 9)] _ hh := ff
        replace fr := rx_frt fr ff (fun a ha => ⟨ha.1, trivial⟩)
        refine rx_goto C dX9_next_135 153 (by decide) ?_
        obtain rfl := Option.some.inj hF
        exact rx_vret C dX9_next_153 (Nat.le_refl _) (Nat.le_refl _) ⟨rfl, b_m, fr⟩
    · rw [if_neg c14] at hF
      have loop22 : ∀ (fu : Nat) (zz : ob) (om : ob)  (hh : hp), F_X9_next_81  fu om = some zz → bM k m om hh → rx_fr [(m, 9)] h hh → (∀ hh : hp, bM k m zz hh → rx_fr [(m, 9)] h hh → rx_W P9 l E9 (rx_rm 2 41) S9 M9 A9 B9 me9 c9 (MQ B9 (va_Qv (fun u => u.2 = n ∧ bM k m y u.1 ∧ rx_fr [(m, 9)] h u.1) (rx_B G k) (rx_A k)) A9 S9 0 0 (rx_A k)) G k 1 0 0 hh n 108 [(0, .ref m)] []) → rx_W P9 l E9 (rx_rm 2 41) S9 M9 A9 B9 me9 c9 (MQ B9 (va_Qv (fun u => u.2 = n ∧ bM k m y u.1 ∧ rx_fr [(m, 9)] h u.1) (rx_B G k) (rx_A k)) A9 S9 0 0 (rx_A k)) G k 1 0 0 hh n 81 [(0, .ref m)] [] := by
        intro fu
        induction fu with
        | zero => intro zz om hh hF b_m fr KK; exact absurd hF (by simp [F_X9_next_81])
        | succ fu ih_loop22 =>
          intro zz om hh hF b_m fr KK
          unfold F_X9_next_81 at hF
          refine rx_aload_n C dX9_next_81 0 rfl ?_
          refine rx_aload_n C dX9_next_82 0 rfl ?_
          refine rx_getf C f_X9_169 dX9_next_83 b_m.1 rfl ?_
          replace hF := rx_biE hF; obtain ⟨y23, e_y23, hF⟩ := hF
          refine rx_ci (rx_rV C (w_X9_byteAt e_y23 b_m) Y_X9_byteAt V_X9_byteAt m_X9_171 (Or.inl ⟨_, _, _, _, b_m.1, rfl⟩) ⟨⟨rfl, rfl⟩, ⟨(Nat.le_of_ble_eq_true rfl), (Nat.le_of_ble_eq_true rfl)⟩, ⟨(Nat.le_of_ble_eq_true rfl), (Nat.le_of_ble_eq_true rfl)⟩⟩ rfl rfl (Nat.le_of_ble_eq_true rfl) dX9_next_86) (fun r hh n1 hpp => ?_)
          obtain ⟨rfl, hu⟩ := hpp
          cases hu
          replace hF := rx_biE hF; obtain ⟨y24, e_y24, hF⟩ := hF
          refine rx_ci (rx_rS C (w_X9_isLetter e_y24 ) Y_X9_isLetter S_X9_isLetter m_X9_184 ⟨⟨rfl, rfl⟩, ⟨(Nat.le_of_ble_eq_true rfl), (Nat.le_of_ble_eq_true rfl)⟩, ⟨(Nat.le_of_ble_eq_true rfl), (Nat.le_of_ble_eq_true rfl)⟩⟩ rfl rfl (Nat.le_of_ble_eq_true rfl) dX9_next_89) (fun r hh n1 hpp => ?_)
          obtain ⟨rfl, bo_y24, hu⟩ := hpp
          cases hu
          refine rx_if_eq C dX9_next_92 108 (by decide) (fun c25 => ?_) (fun c25 => ?_)
          · rw [if_pos c25] at hF
            obtain rfl := Option.some.inj hF
            refine rx_sub [0] rfl ?_
            exact KK _ b_m fr
          · rw [if_neg c25] at hF
            refine rx_aload_n C dX9_next_95 0 rfl ?_
            refine rx_dup C dX9_next_96 rfl ?_
            refine rx_getf C f_X9_169 dX9_next_97 b_m.1 rfl ?_
            refine rx_iconst C dX9_next_100 (1 : Int32) (by decide) ?_
            refine rx_iadd C dX9_next_101 ?_
            replace hF := rx_leE hF; obtain ⟨o_m_26, e_o_m_26, hF⟩ := hF
            refine rx_pM11 C f_X9_169 dX9_next_102 b_m e_o_m_26 (fun hh c_m ff => ?_)
            replace b_m := c_m
            replace fr := rx_frt fr ff (fun a ha => ⟨ha.1, trivial⟩)
            refine rx_goto C dX9_next_105 81 (by decide) ?_
            refine rx_sub [0] rfl ?_
            exact ih_loop22 _ _ _ hF b_m fr KK
      refine rx_sub [0] rfl ?_
      replace hF := rx_biE hF; obtain ⟨zl27, e_zl27, hF⟩ := hF
      refine loop22 _ zl27 _ _ e_zl27 b_m fr (fun hh b_m fr => ?_)
      refine rx_aload_n C dX9_next_108 0 rfl ?_
      refine rx_iconst C dX9_next_109 (1 : Int32) (by decide) ?_
      replace hF := rx_leE hF; obtain ⟨o_m_28, e_o_m_28, hF⟩ := hF
      refine rx_pM13 C f_X9_178 dX9_next_110 b_m e_o_m_28 (fun hh c_m ff => ?_)
      replace b_m := c_m
      replace fr := rx_frt fr ff (fun a ha => ⟨ha.1, trivial⟩)
      refine rx_goto C dX9_next_113 153 (by decide) ?_
      obtain rfl := Option.some.inj hF
      exact rx_vret C dX9_next_153 (Nat.le_refl _) (Nat.le_refl _) ⟨rfl, b_m, fr⟩
  · rw [if_neg c11] at hF
    refine rx_aload_n C dX9_next_58 0 rfl ?_
    refine rx_iconst C dX9_next_59 (0 : Int32) (by decide) ?_
    replace hF := rx_leE hF; obtain ⟨o_m_29, e_o_m_29, hF⟩ := hF
    refine rx_pM13 C f_X9_178 dX9_next_60 b_m e_o_m_29 (fun hh c_m ff => ?_)
    replace b_m := c_m
    replace fr := rx_frt fr ff (fun a ha => ⟨ha.1, trivial⟩)
    refine rx_goto C dX9_next_63 153 (by decide) ?_
    obtain rfl := Option.some.inj hF
    exact rx_vret C dX9_next_153 (Nat.le_refl _) (Nat.le_refl _) ⟨rfl, b_m, fr⟩
def F_X9_starts (om : ob) (x1 : Int32) : Option (ob) := rx_le (upd om.1 10 x1, om.2) fun o_m_1 => rx_le (upd o_m_1.1 9 ((0 : Int32)), o_m_1.2) fun o_m_2 => rx_le (upd o_m_2.1 11 ((0 : Int32)), o_m_2.2) fun o_m_3 => rx_le (upd o_m_3.1 15 ((0 : Int32)), o_m_3.2) fun o_m_4 => rx_le (upd o_m_4.1 16 ((-1 : Int32)), o_m_4.2) fun o_m_5 => (F_X9_next o_m_5).bind fun y6 => some y6
set_option maxRecDepth 100000 in
set_option maxHeartbeats 4000000 in
theorem w_X9_starts {m : Nat} {om : ob} {x1 : Int32} {y : ob} (hF : F_X9_starts om x1 = some y) (b_m : bM k m om h) : Met l yX9_starts (rx_ws yX9_starts cX9_starts 2 none) (rx_rm 3 61) (va_Pc [.ref m, .int x1] (rx_G G k h n)) (va_Qv (fun u => u.2 = n ∧ bM k m y u.1 ∧ rx_fr [(m, 9)] h u.1) (rx_B G k) (rx_A k)) 0 0 (rx_A k) := by
  refine rx_start [(0, .ref m), (1, .int x1)] rfl (Nat.le_of_ble_eq_true rfl) (by decide) rfl (fun P9 E9 S9 M9 A9 B9 me9 c9 C hname => ?_)
  unfold F_X9_starts at hF
  have fr : rx_fr [(m, 9)] h h := rx_fr0
  refine rx_aload_n C dX9_starts_0 0 rfl ?_
  refine rx_iload_n C dX9_starts_1 1 rfl ?_
  replace hF := rx_leE hF; obtain ⟨o_m_1, e_o_m_1, hF⟩ := hF
  refine rx_pM10 C f_X9_163 dX9_starts_2 b_m e_o_m_1 (fun hh c_m ff => ?_)
  replace b_m := c_m
  replace fr := rx_frt fr ff (fun a ha => ⟨ha.1, trivial⟩)
  refine rx_aload_n C dX9_starts_5 0 rfl ?_
  refine rx_iconst C dX9_starts_6 (0 : Int32) (by decide) ?_
  replace hF := rx_leE hF; obtain ⟨o_m_2, e_o_m_2, hF⟩ := hF
  refine rx_pM9 C f_X9_53 dX9_starts_7 b_m e_o_m_2 (fun hh c_m ff => ?_)
  replace b_m := c_m
  replace fr := rx_frt fr ff (fun a ha => ⟨ha.1, trivial⟩)
  refine rx_aload_n C dX9_starts_10 0 rfl ?_
  refine rx_iconst C dX9_starts_11 (0 : Int32) (by decide) ?_
  replace hF := rx_leE hF; obtain ⟨o_m_3, e_o_m_3, hF⟩ := hF
  refine rx_pM11 C f_X9_169 dX9_starts_12 b_m e_o_m_3 (fun hh c_m ff => ?_)
  replace b_m := c_m
  replace fr := rx_frt fr ff (fun a ha => ⟨ha.1, trivial⟩)
  refine rx_aload_n C dX9_starts_15 0 rfl ?_
  refine rx_iconst C dX9_starts_16 (0 : Int32) (by decide) ?_
  replace hF := rx_leE hF; obtain ⟨o_m_4, e_o_m_4, hF⟩ := hF
  refine rx_pM15 C f_X9_160 dX9_starts_17 b_m e_o_m_4 (fun hh c_m ff => ?_)
  replace b_m := c_m
  replace fr := rx_frt fr ff (fun a ha => ⟨ha.1, trivial⟩)
  refine rx_aload_n C dX9_starts_20 0 rfl ?_
  refine rx_iconst C dX9_starts_21 (-1 : Int32) (by decide) ?_
  replace hF := rx_leE hF; obtain ⟨o_m_5, e_o_m_5, hF⟩ := hF
  refine rx_pM16 C f_X9_32 dX9_starts_22 b_m e_o_m_5 (fun hh c_m ff => ?_)
  replace b_m := c_m
  replace fr := rx_frt fr ff (fun a ha => ⟨ha.1, trivial⟩)
  refine rx_aload_n C dX9_starts_25 0 rfl ?_
  replace hF := rx_biE hF; obtain ⟨y6, e_y6, hF⟩ := hF
  refine rx_cv (rx_rV C (w_X9_next e_y6 b_m) Y_X9_next V_X9_next m_X9_190 (Or.inl ⟨_, _, _, _, b_m.1, rfl⟩) ⟨⟨rfl, rfl⟩, ⟨(Nat.le_of_ble_eq_true rfl), (Nat.le_of_ble_eq_true rfl)⟩, ⟨(Nat.le_of_ble_eq_true rfl), (Nat.le_of_ble_eq_true rfl)⟩⟩ rfl rfl (Nat.le_of_ble_eq_true rfl) dX9_starts_26) (fun hh n1 hpp => ?_)
  obtain ⟨hn, c_m, ff⟩ := hpp
  replace hn : n = n1 := Eq.symm hn
  subst hn
  replace b_m : bM k m y6 hh := c_m
  clear c_m
  replace ff : rx_fr [(m, 9)] _ hh := ff
  replace fr := rx_frt fr ff (fun a ha => ⟨ha.1, trivial⟩)
  obtain rfl := Option.some.inj hF
  exact rx_vret C dX9_starts_29 (Nat.le_refl _) (Nat.le_refl _) ⟨rfl, b_m, fr⟩
def F_X9_errs (om : ob) (x1 : Int32) : Option (ob) := if (om.1 15) = (0 : Int32) then (rx_le (upd om.1 15 x1, om.2) fun o_m_2 => rx_le (upd o_m_2.1 16 ((o_m_2.1 12)), o_m_2.2) fun o_m_3 => some o_m_3) else (some om)
set_option maxRecDepth 100000 in
set_option maxHeartbeats 4000000 in
theorem w_X9_errs {m : Nat} {om : ob} {x1 : Int32} {y : ob} (hF : F_X9_errs om x1 = some y) (b_m : bM k m om h) : Met l yX9_errs (rx_ws yX9_errs cX9_errs 2 none) (rx_rm 0 0) (va_Pc [.ref m, .int x1] (rx_G G k h n)) (va_Qv (fun u => u.2 = n ∧ bM k m y u.1 ∧ rx_fr [(m, 9)] h u.1) (rx_B G k) (rx_A k)) 0 0 (rx_A k) := by
  refine rx_start [(0, .ref m), (1, .int x1)] rfl (Nat.le_of_ble_eq_true rfl) (by decide) rfl (fun P9 E9 S9 M9 A9 B9 me9 c9 C hname => ?_)
  unfold F_X9_errs at hF
  have fr : rx_fr [(m, 9)] h h := rx_fr0
  refine rx_aload_n C dX9_errs_0 0 rfl ?_
  refine rx_getf C f_X9_160 dX9_errs_1 b_m.1 rfl ?_
  refine rx_if_eq C dX9_errs_4 8 (by decide) (fun c1 => ?_) (fun c1 => ?_)
  · rw [if_pos c1] at hF
    refine rx_aload_n C dX9_errs_8 0 rfl ?_
    refine rx_iload_n C dX9_errs_9 1 rfl ?_
    replace hF := rx_leE hF; obtain ⟨o_m_2, e_o_m_2, hF⟩ := hF
    refine rx_pM15 C f_X9_160 dX9_errs_10 b_m e_o_m_2 (fun hh c_m ff => ?_)
    replace b_m := c_m
    replace fr := rx_frt fr ff (fun a ha => ⟨ha.1, trivial⟩)
    refine rx_aload_n C dX9_errs_13 0 rfl ?_
    refine rx_aload_n C dX9_errs_14 0 rfl ?_
    refine rx_getf C f_X9_181 dX9_errs_15 b_m.1 rfl ?_
    replace hF := rx_leE hF; obtain ⟨o_m_3, e_o_m_3, hF⟩ := hF
    refine rx_pM16 C f_X9_32 dX9_errs_18 b_m e_o_m_3 (fun hh c_m ff => ?_)
    replace b_m := c_m
    replace fr := rx_frt fr ff (fun a ha => ⟨ha.1, trivial⟩)
    obtain rfl := Option.some.inj hF
    exact rx_vret C dX9_errs_21 (Nat.le_refl _) (Nat.le_refl _) ⟨rfl, b_m, fr⟩
  · rw [if_neg c1] at hF
    obtain rfl := Option.some.inj hF
    exact rx_vret C dX9_errs_7 (Nat.le_refl _) (Nat.le_refl _) ⟨rfl, b_m, fr⟩
def F_X9_isWord_35 (om : ob) (s1 : Nat) : Nat → Int32 → Option (Int32)
  | 0, _ => none
  | fu + 1, x2 => if (nI (rx_len.getD s1 0)) ≤ x2 then (some ((1 : Int32))) else ((rx_ald 500 (om.2 8) (((om.1 12) + x2))).bind fun v7 => (rx_chr s1 x2).bind fun v8 => if v7 = v8 then (F_X9_isWord_35 om s1 fu ((x2 + 1))) else (some ((0 : Int32))))
def F_X9_isWord (om : ob) (s1 : Nat) : Option (Int32) := if (om.1 15) = (0 : Int32) then (if (om.1 13) = (1 : Int32) then (if ((om.1 11) - (om.1 12)) = (nI (rx_len.getD s1 0)) then (F_X9_isWord_35 om s1 100000 ((0 : Int32))) else (some ((0 : Int32)))) else (some ((0 : Int32)))) else (some ((0 : Int32)))
set_option maxRecDepth 100000 in
set_option maxHeartbeats 4000000 in
theorem w_X9_isWord {m : Nat} {om : ob} {s1 : Nat} {y : Int32} (hF : F_X9_isWord om s1 = some y) (b_m : bM k m om h) (hs_s1 : s1 < 27) : Met l yX9_isWord (rx_ws yX9_isWord cX9_isWord 3 (some .boolean)) (rx_rm 4 85) (va_Pc [.ref m, .ref (k (100 + s1))] (rx_G G k h n)) (va_Qi (fun r u => y = r ∧ (y = 0 ∨ y = 1) ∧ u = (h, n)) (rx_B G k) (rx_A k)) 0 0 (rx_A k) := by
  refine rx_start [(0, .ref m), (1, .ref (k (100 + s1)))] rfl (Nat.le_of_ble_eq_true rfl) (by decide) rfl (fun P9 E9 S9 M9 A9 B9 me9 c9 C hname => ?_)
  unfold F_X9_isWord at hF
  refine rx_aload_n C dX9_isWord_0 0 rfl ?_
  refine rx_getf C f_X9_160 dX9_isWord_1 b_m.1 rfl ?_
  refine rx_if_ne C dX9_isWord_4 31 (by decide) (fun c1 => ?_) (fun c1 => ?_)
  · rw [if_neg c1] at hF
    refine rx_iconst C dX9_isWord_31 (0 : Int32) (by decide) ?_
    obtain rfl := Option.some.inj hF
    exact rx_zret C (rx_nz (Or.inl rfl)) dX9_isWord_32 (Nat.le_refl _) (Nat.le_refl _) ⟨rfl, (Or.inl rfl), rfl⟩
  · rw [if_pos c1] at hF
    refine rx_aload_n C dX9_isWord_7 0 rfl ?_
    refine rx_getf C f_X9_178 dX9_isWord_8 b_m.1 rfl ?_
    refine rx_iconst C dX9_isWord_11 (1 : Int32) (by decide) ?_
    refine rx_icmp_ne C dX9_isWord_12 31 (by decide) (fun c2 => ?_) (fun c2 => ?_)
    · rw [if_neg c2] at hF
      refine rx_iconst C dX9_isWord_31 (0 : Int32) (by decide) ?_
      obtain rfl := Option.some.inj hF
      exact rx_zret C (rx_nz (Or.inl rfl)) dX9_isWord_32 (Nat.le_refl _) (Nat.le_refl _) ⟨rfl, (Or.inl rfl), rfl⟩
    · rw [if_pos c2] at hF
      refine rx_aload_n C dX9_isWord_15 0 rfl ?_
      refine rx_getf C f_X9_169 dX9_isWord_16 b_m.1 rfl ?_
      refine rx_aload_n C dX9_isWord_19 0 rfl ?_
      refine rx_getf C f_X9_181 dX9_isWord_20 b_m.1 rfl ?_
      refine rx_isub C dX9_isWord_23 ?_
      refine rx_aload_n C dX9_isWord_24 1 rfl ?_
      refine rx_ci (rx_rV C (w_length hs_s1) Y_J0_length_8abf5 V_J0_length_8abf5 m_X9_43 (Or.inr (C.2.2.2.2.2.2.2.2.2.2.2.2.2.2.1.1 _ hs_s1).1) ⟨⟨rfl, rfl⟩, ⟨(Nat.le_of_ble_eq_true rfl), (Nat.le_of_ble_eq_true rfl)⟩, ⟨(Nat.le_of_ble_eq_true rfl), (Nat.le_of_ble_eq_true rfl)⟩⟩ rfl rfl (Nat.le_of_ble_eq_true rfl) dX9_isWord_25) (fun r hh n1 hpp => ?_)
      obtain ⟨rfl, hu⟩ := hpp
      cases hu
      refine rx_icmp_eq C dX9_isWord_28 33 (by decide) (fun c3 => ?_) (fun c3 => ?_)
      · rw [if_pos c3] at hF
        refine rx_iconst C dX9_isWord_33 (0 : Int32) (by decide) ?_
        refine rx_istore_n C dX9_isWord_34 (by decide) [(2, .int ((0 : Int32))), (0, .ref m), (1, .ref (k (100 + s1)))] rfl ?_
        have loop5 : ∀ (fu : Nat)  (x2 : Int32), F_X9_isWord_35 om s1 fu x2 = some y → bM k m om h → rx_W P9 l E9 (rx_rm 4 85) S9 M9 A9 B9 me9 c9 (MQ B9 (va_Qi (fun r u => y = r ∧ (y = 0 ∨ y = 1) ∧ u = (h, n)) (rx_B G k) (rx_A k)) A9 S9 0 0 (rx_A k)) G k 3 0 0 h n 35 [(0, .ref m), (1, .ref (k (100 + s1))), (2, .int x2)] [] := by
          intro fu
          induction fu with
          | zero => intro x2 hF b_m; exact absurd hF (by simp [F_X9_isWord_35])
          | succ fu ih_loop5 =>
            intro x2 hF b_m
            unfold F_X9_isWord_35 at hF
            refine rx_iload_n C dX9_isWord_35 2 rfl ?_
            refine rx_aload_n C dX9_isWord_36 1 rfl ?_
            refine rx_ci (rx_rV C (w_length hs_s1) Y_J0_length_8abf5 V_J0_length_8abf5 m_X9_43 (Or.inr (C.2.2.2.2.2.2.2.2.2.2.2.2.2.2.1.1 _ hs_s1).1) ⟨⟨rfl, rfl⟩, ⟨(Nat.le_of_ble_eq_true rfl), (Nat.le_of_ble_eq_true rfl)⟩, ⟨(Nat.le_of_ble_eq_true rfl), (Nat.le_of_ble_eq_true rfl)⟩⟩ rfl rfl (Nat.le_of_ble_eq_true rfl) dX9_isWord_37) (fun r hh n1 hpp => ?_)
            obtain ⟨rfl, hu⟩ := hpp
            cases hu
            refine rx_icmp_ge C dX9_isWord_40 70 (by decide) (fun c6 => ?_) (fun c6 => ?_)
            · rw [if_pos c6] at hF
              refine rx_iconst C dX9_isWord_70 (1 : Int32) (by decide) ?_
              obtain rfl := Option.some.inj hF
              exact rx_zret C (rx_nz (Or.inr rfl)) dX9_isWord_71 (Nat.le_refl _) (Nat.le_refl _) ⟨rfl, (Or.inr rfl), rfl⟩
            · rw [if_neg c6] at hF
              refine rx_aload_n C dX9_isWord_43 0 rfl ?_
              refine rx_getf C f_X9_29 dX9_isWord_44 b_m.1 rfl ?_
              refine rx_aload_n C dX9_isWord_47 0 rfl ?_
              refine rx_getf C f_X9_181 dX9_isWord_48 b_m.1 rfl ?_
              refine rx_iload_n C dX9_isWord_51 2 rfl ?_
              refine rx_iadd C dX9_isWord_52 ?_
              replace hF := rx_biE hF; obtain ⟨v7, e_v7, hF⟩ := hF
              refine rx_aldF C dX9_isWord_53 b_m.2.2.2.2.2.2.1 e_v7 ?_
              refine rx_aload_n C dX9_isWord_54 1 rfl ?_
              refine rx_iload_n C dX9_isWord_55 2 rfl ?_
              replace hF := rx_biE hF; obtain ⟨v8, e_v8, hF⟩ := hF
              refine rx_ci (rx_rV C (w_charAt hs_s1 e_v8 (rx_chr255 hs_s1 e_v8)) Y_J0_charAt_5068e V_J0_charAt_5068e m_X9_49 (Or.inr (C.2.2.2.2.2.2.2.2.2.2.2.2.2.2.1.1 _ hs_s1).1) ⟨⟨rfl, rfl⟩, ⟨(Nat.le_of_ble_eq_true rfl), (Nat.le_of_ble_eq_true rfl)⟩, ⟨(Nat.le_of_ble_eq_true rfl), (Nat.le_of_ble_eq_true rfl)⟩⟩ rfl rfl (Nat.le_of_ble_eq_true rfl) dX9_isWord_56) (fun r hh n1 hpp => ?_)
              obtain ⟨rfl, hu⟩ := hpp
              cases hu
              refine rx_icmp_eq C dX9_isWord_59 64 (by decide) (fun c10 => ?_) (fun c10 => ?_)
              · rw [if_pos c10] at hF
                refine rx_iinc C dX9_isWord_64 2 rfl (x2 + 1) rfl (by decide) [(2, .int ((x2 + 1))), (0, .ref m), (1, .ref (k (100 + s1)))] rfl ?_
                refine rx_goto C dX9_isWord_67 35 (by decide) ?_
                refine rx_sub [1, 2, 0] rfl ?_
                exact ih_loop5 _ hF b_m
              · rw [if_neg c10] at hF
                refine rx_iconst C dX9_isWord_62 (0 : Int32) (by decide) ?_
                obtain rfl := Option.some.inj hF
                exact rx_zret C (rx_nz (Or.inl rfl)) dX9_isWord_63 (Nat.le_refl _) (Nat.le_refl _) ⟨rfl, (Or.inl rfl), rfl⟩
        refine rx_sub [1, 2, 0] rfl ?_
        exact loop5 _ _ hF b_m
      · rw [if_neg c3] at hF
        refine rx_iconst C dX9_isWord_31 (0 : Int32) (by decide) ?_
        obtain rfl := Option.some.inj hF
        exact rx_zret C (rx_nz (Or.inl rfl)) dX9_isWord_32 (Nat.le_refl _) (Nat.le_refl _) ⟨rfl, (Or.inl rfl), rfl⟩
def F_X9_mustWord (om : ob) (s1 : Nat) : Option (ob) := (F_X9_isWord om s1).bind fun y1 => (if y1 = (0 : Int32) then ((F_X9_errs om ((1 : Int32))).bind fun y7 => some y7) else (some om)).bind fun zj2 => if (zj2.1 15) = (0 : Int32) then ((F_X9_next zj2).bind fun y5 => some y5) else (some zj2)
set_option maxRecDepth 100000 in
set_option maxHeartbeats 4000000 in
theorem w_X9_mustWord {m : Nat} {om : ob} {s1 : Nat} {y : ob} (hF : F_X9_mustWord om s1 = some y) (b_m : bM k m om h) (hs_s1 : s1 < 27) : Met l yX9_mustWord (rx_ws yX9_mustWord cX9_mustWord 2 none) (rx_rm 5 107) (va_Pc [.ref m, .ref (k (100 + s1))] (rx_G G k h n)) (va_Qv (fun u => u.2 = n ∧ bM k m y u.1 ∧ rx_fr [(m, 9)] h u.1) (rx_B G k) (rx_A k)) 0 0 (rx_A k) := by
  refine rx_start [(0, .ref m), (1, .ref (k (100 + s1)))] rfl (Nat.le_of_ble_eq_true rfl) (by decide) rfl (fun P9 E9 S9 M9 A9 B9 me9 c9 C hname => ?_)
  unfold F_X9_mustWord at hF
  have fr : rx_fr [(m, 9)] h h := rx_fr0
  refine rx_aload_n C dX9_mustWord_0 0 rfl ?_
  refine rx_aload_n C dX9_mustWord_1 1 rfl ?_
  replace hF := rx_biE hF; obtain ⟨y1, e_y1, hF⟩ := hF
  refine rx_ci (rx_rV C (w_X9_isWord e_y1 b_m hs_s1) Y_X9_isWord V_X9_isWord m_X9_193 (Or.inl ⟨_, _, _, _, b_m.1, rfl⟩) ⟨⟨rfl, rfl⟩, ⟨(Nat.le_of_ble_eq_true rfl), (Nat.le_of_ble_eq_true rfl)⟩, ⟨(Nat.le_of_ble_eq_true rfl), (Nat.le_of_ble_eq_true rfl)⟩⟩ rfl rfl (Nat.le_of_ble_eq_true rfl) dX9_mustWord_2) (fun r hh n1 hpp => ?_)
  obtain ⟨rfl, bo_y1, hu⟩ := hpp
  cases hu
  replace hF := rx_biE hF; obtain ⟨zj2, e_zj2, hF⟩ := hF
  have KJ3 : ∀ hh : hp, bM k m zj2 hh → rx_fr [(m, 9)] h hh → rx_W P9 l E9 (rx_rm 5 107) S9 M9 A9 B9 me9 c9 (MQ B9 (va_Qv (fun u => u.2 = n ∧ bM k m y u.1 ∧ rx_fr [(m, 9)] h u.1) (rx_B G k) (rx_A k)) A9 S9 0 0 (rx_A k)) G k 2 0 0 hh n 13 [(0, .ref m), (1, .ref (k (100 + s1)))] [] := by
    intro hh b_m fr
    refine rx_aload_n C dX9_mustWord_13 0 rfl ?_
    refine rx_getf C f_X9_160 dX9_mustWord_14 b_m.1 rfl ?_
    refine rx_if_ne C dX9_mustWord_17 24 (by decide) (fun c4 => ?_) (fun c4 => ?_)
    · rw [if_neg c4] at hF
      obtain rfl := Option.some.inj hF
      exact rx_vret C dX9_mustWord_24 (Nat.le_refl _) (Nat.le_refl _) ⟨rfl, b_m, fr⟩
    · rw [if_pos c4] at hF
      refine rx_aload_n C dX9_mustWord_20 0 rfl ?_
      replace hF := rx_biE hF; obtain ⟨y5, e_y5, hF⟩ := hF
      refine rx_cv (rx_rV C (w_X9_next e_y5 b_m) Y_X9_next V_X9_next m_X9_190 (Or.inl ⟨_, _, _, _, b_m.1, rfl⟩) ⟨⟨rfl, rfl⟩, ⟨(Nat.le_of_ble_eq_true rfl), (Nat.le_of_ble_eq_true rfl)⟩, ⟨(Nat.le_of_ble_eq_true rfl), (Nat.le_of_ble_eq_true rfl)⟩⟩ rfl rfl (Nat.le_of_ble_eq_true rfl) dX9_mustWord_21) (fun hh n1 hpp => ?_)
      obtain ⟨hn, c_m, ff⟩ := hpp
      replace hn : n = n1 := Eq.symm hn
      subst hn
      replace b_m : bM k m y5 hh := c_m
      clear c_m
      replace ff : rx_fr [(m, 9)] _ hh := ff
      replace fr := rx_frt fr ff (fun a ha => ⟨ha.1, trivial⟩)
      obtain rfl := Option.some.inj hF
      exact rx_vret C dX9_mustWord_24 (Nat.le_refl _) (Nat.le_refl _) ⟨rfl, b_m, fr⟩
  replace hF := e_zj2
  clear e_zj2
  refine rx_if_ne C dX9_mustWord_5 13 (by decide) (fun c6 => ?_) (fun c6 => ?_)
  · rw [if_neg c6] at hF
    obtain rfl := Option.some.inj hF
    refine rx_sub [0, 1] rfl ?_
    exact KJ3 _ b_m fr
  · rw [if_pos c6] at hF
    refine rx_aload_n C dX9_mustWord_8 0 rfl ?_
    refine rx_iconst C dX9_mustWord_9 (1 : Int32) (by decide) ?_
    replace hF := rx_biE hF; obtain ⟨y7, e_y7, hF⟩ := hF
    refine rx_cv (rx_rV C (w_X9_errs e_y7 b_m) Y_X9_errs V_X9_errs m_X9_197 (Or.inl ⟨_, _, _, _, b_m.1, rfl⟩) ⟨⟨rfl, rfl⟩, ⟨(Nat.le_of_ble_eq_true rfl), (Nat.le_of_ble_eq_true rfl)⟩, ⟨(Nat.le_of_ble_eq_true rfl), (Nat.le_of_ble_eq_true rfl)⟩⟩ rfl rfl (Nat.le_of_ble_eq_true rfl) dX9_mustWord_10) (fun hh n1 hpp => ?_)
    obtain ⟨hn, c_m, ff⟩ := hpp
    replace hn : n = n1 := Eq.symm hn
    subst hn
    replace b_m : bM k m y7 hh := c_m
    clear c_m
    replace ff : rx_fr [(m, 9)] _ hh := ff
    replace fr := rx_frt fr ff (fun a ha => ⟨ha.1, trivial⟩)
    obtain rfl := Option.some.inj hF
    refine rx_sub [0, 1] rfl ?_
    exact KJ3 _ b_m fr
def F_X9_semicolon (om : ob) : Option (ob) := (if (om.1 13) = (3 : Int32) then ((rx_ald 500 (om.2 8) ((om.1 12))).bind fun v7 => if v7 = (59 : Int32) then (some om) else ((F_X9_errs om ((1 : Int32))).bind fun y9 => some y9)) else ((F_X9_errs om ((1 : Int32))).bind fun y6 => some y6)).bind fun zj1 => if (zj1.1 15) = (0 : Int32) then ((F_X9_next zj1).bind fun y4 => some y4) else (some zj1)
set_option maxRecDepth 100000 in
set_option maxHeartbeats 4000000 in
theorem w_X9_semicolon {m : Nat} {om : ob} {y : ob} (hF : F_X9_semicolon om = some y) (b_m : bM k m om h) : Met l yX9_semicolon (rx_ws yX9_semicolon cX9_semicolon 1 none) (rx_rm 3 61) (va_Pc [.ref m] (rx_G G k h n)) (va_Qv (fun u => u.2 = n ∧ bM k m y u.1 ∧ rx_fr [(m, 9)] h u.1) (rx_B G k) (rx_A k)) 0 0 (rx_A k) := by
  refine rx_start [(0, .ref m)] rfl (Nat.le_of_ble_eq_true rfl) (by decide) rfl (fun P9 E9 S9 M9 A9 B9 me9 c9 C hname => ?_)
  unfold F_X9_semicolon at hF
  have fr : rx_fr [(m, 9)] h h := rx_fr0
  refine rx_aload_n C dX9_semicolon_0 0 rfl ?_
  refine rx_getf C f_X9_178 dX9_semicolon_1 b_m.1 rfl ?_
  refine rx_iconst C dX9_semicolon_4 (3 : Int32) (by decide) ?_
  replace hF := rx_biE hF; obtain ⟨zj1, e_zj1, hF⟩ := hF
  have KJ2 : ∀ hh : hp, bM k m zj1 hh → rx_fr [(m, 9)] h hh → rx_W P9 l E9 (rx_rm 3 61) S9 M9 A9 B9 me9 c9 (MQ B9 (va_Qv (fun u => u.2 = n ∧ bM k m y u.1 ∧ rx_fr [(m, 9)] h u.1) (rx_B G k) (rx_A k)) A9 S9 0 0 (rx_A k)) G k 1 0 0 hh n 27 [(0, .ref m)] [] := by
    intro hh b_m fr
    refine rx_aload_n C dX9_semicolon_27 0 rfl ?_
    refine rx_getf C f_X9_160 dX9_semicolon_28 b_m.1 rfl ?_
    refine rx_if_ne C dX9_semicolon_31 38 (by decide) (fun c3 => ?_) (fun c3 => ?_)
    · rw [if_neg c3] at hF
      obtain rfl := Option.some.inj hF
      exact rx_vret C dX9_semicolon_38 (Nat.le_refl _) (Nat.le_refl _) ⟨rfl, b_m, fr⟩
    · rw [if_pos c3] at hF
      refine rx_aload_n C dX9_semicolon_34 0 rfl ?_
      replace hF := rx_biE hF; obtain ⟨y4, e_y4, hF⟩ := hF
      refine rx_cv (rx_rV C (w_X9_next e_y4 b_m) Y_X9_next V_X9_next m_X9_190 (Or.inl ⟨_, _, _, _, b_m.1, rfl⟩) ⟨⟨rfl, rfl⟩, ⟨(Nat.le_of_ble_eq_true rfl), (Nat.le_of_ble_eq_true rfl)⟩, ⟨(Nat.le_of_ble_eq_true rfl), (Nat.le_of_ble_eq_true rfl)⟩⟩ rfl rfl (Nat.le_of_ble_eq_true rfl) dX9_semicolon_35) (fun hh n1 hpp => ?_)
      obtain ⟨hn, c_m, ff⟩ := hpp
      replace hn : n = n1 := Eq.symm hn
      subst hn
      replace b_m : bM k m y4 hh := c_m
      clear c_m
      replace ff : rx_fr [(m, 9)] _ hh := ff
      replace fr := rx_frt fr ff (fun a ha => ⟨ha.1, trivial⟩)
      obtain rfl := Option.some.inj hF
      exact rx_vret C dX9_semicolon_38 (Nat.le_refl _) (Nat.le_refl _) ⟨rfl, b_m, fr⟩
  replace hF := e_zj1
  clear e_zj1
  refine rx_icmp_ne C dX9_semicolon_5 22 (by decide) (fun c5 => ?_) (fun c5 => ?_)
  · rw [if_neg c5] at hF
    refine rx_aload_n C dX9_semicolon_22 0 rfl ?_
    refine rx_iconst C dX9_semicolon_23 (1 : Int32) (by decide) ?_
    replace hF := rx_biE hF; obtain ⟨y6, e_y6, hF⟩ := hF
    refine rx_cv (rx_rV C (w_X9_errs e_y6 b_m) Y_X9_errs V_X9_errs m_X9_197 (Or.inl ⟨_, _, _, _, b_m.1, rfl⟩) ⟨⟨rfl, rfl⟩, ⟨(Nat.le_of_ble_eq_true rfl), (Nat.le_of_ble_eq_true rfl)⟩, ⟨(Nat.le_of_ble_eq_true rfl), (Nat.le_of_ble_eq_true rfl)⟩⟩ rfl rfl (Nat.le_of_ble_eq_true rfl) dX9_semicolon_24) (fun hh n1 hpp => ?_)
    obtain ⟨hn, c_m, ff⟩ := hpp
    replace hn : n = n1 := Eq.symm hn
    subst hn
    replace b_m : bM k m y6 hh := c_m
    clear c_m
    replace ff : rx_fr [(m, 9)] _ hh := ff
    replace fr := rx_frt fr ff (fun a ha => ⟨ha.1, trivial⟩)
    obtain rfl := Option.some.inj hF
    refine rx_sub [0] rfl ?_
    exact KJ2 _ b_m fr
  · rw [if_pos c5] at hF
    refine rx_aload_n C dX9_semicolon_8 0 rfl ?_
    refine rx_getf C f_X9_29 dX9_semicolon_9 b_m.1 rfl ?_
    refine rx_aload_n C dX9_semicolon_12 0 rfl ?_
    refine rx_getf C f_X9_181 dX9_semicolon_13 b_m.1 rfl ?_
    replace hF := rx_biE hF; obtain ⟨v7, e_v7, hF⟩ := hF
    refine rx_aldF C dX9_semicolon_16 b_m.2.2.2.2.2.2.1 e_v7 ?_
    refine rx_bipush C dX9_semicolon_17 (59 : Int32) (by decide) ?_
    refine rx_icmp_eq C dX9_semicolon_19 27 (by decide) (fun c8 => ?_) (fun c8 => ?_)
    · rw [if_pos c8] at hF
      obtain rfl := Option.some.inj hF
      refine rx_sub [0] rfl ?_
      exact KJ2 _ b_m fr
    · rw [if_neg c8] at hF
      refine rx_aload_n C dX9_semicolon_22 0 rfl ?_
      refine rx_iconst C dX9_semicolon_23 (1 : Int32) (by decide) ?_
      replace hF := rx_biE hF; obtain ⟨y9, e_y9, hF⟩ := hF
      refine rx_cv (rx_rV C (w_X9_errs e_y9 b_m) Y_X9_errs V_X9_errs m_X9_197 (Or.inl ⟨_, _, _, _, b_m.1, rfl⟩) ⟨⟨rfl, rfl⟩, ⟨(Nat.le_of_ble_eq_true rfl), (Nat.le_of_ble_eq_true rfl)⟩, ⟨(Nat.le_of_ble_eq_true rfl), (Nat.le_of_ble_eq_true rfl)⟩⟩ rfl rfl (Nat.le_of_ble_eq_true rfl) dX9_semicolon_24) (fun hh n1 hpp => ?_)
      obtain ⟨hn, c_m, ff⟩ := hpp
      replace hn : n = n1 := Eq.symm hn
      subst hn
      replace b_m : bM k m y9 hh := c_m
      clear c_m
      replace ff : rx_fr [(m, 9)] _ hh := ff
      replace fr := rx_frt fr ff (fun a ha => ⟨ha.1, trivial⟩)
      obtain rfl := Option.some.inj hF
      refine rx_sub [0] rfl ?_
      exact KJ2 _ b_m fr
def F_X9_number0 (om : ob) (x1 : Int32) (x2 : Int32) : Option (Int32 × ob) := (if (om.1 13) = (2 : Int32) then ((F_X9_in ((om.1 14)) x1 x2).bind fun y7 => if y7 = (0 : Int32) then ((F_X9_errs om ((2 : Int32))).bind fun y9 => some y9) else (some om)) else ((F_X9_errs om ((1 : Int32))).bind fun y10 => some y10)).bind fun zj1 => if (zj1.1 15) = (0 : Int32) then (rx_le ((zj1.1 14)) fun v4 => (F_X9_next zj1).bind fun y5 => some (v4, y5)) else (some (x1, zj1))
set_option maxRecDepth 100000 in
set_option maxHeartbeats 4000000 in
theorem w_X9_number0 {m : Nat} {om : ob} {x1 : Int32} {x2 : Int32} {y : Int32 × ob} (hF : F_X9_number0 om x1 x2 = some y) (b_m : bM k m om h) : Met l yX9_number0 (rx_ws yX9_number0 cX9_number0 4 (some .int)) (rx_rm 3 61) (va_Pc [.ref m, .int x1, .int x2] (rx_G G k h n)) (va_Qi (fun r u => y.1 = r ∧ u.2 = n ∧ bM k m y.2 u.1 ∧ rx_fr [(m, 9)] h u.1) (rx_B G k) (rx_A k)) 0 0 (rx_A k) := by
  refine rx_start [(0, .ref m), (1, .int x1), (2, .int x2)] rfl (Nat.le_of_ble_eq_true rfl) (by decide) rfl (fun P9 E9 S9 M9 A9 B9 me9 c9 C hname => ?_)
  unfold F_X9_number0 at hF
  have fr : rx_fr [(m, 9)] h h := rx_fr0
  refine rx_aload_n C dX9_number0_0 0 rfl ?_
  refine rx_getf C f_X9_178 dX9_number0_1 b_m.1 rfl ?_
  refine rx_iconst C dX9_number0_4 (2 : Int32) (by decide) ?_
  replace hF := rx_biE hF; obtain ⟨zj1, e_zj1, hF⟩ := hF
  have KJ2 : ∀ hh : hp, bM k m zj1 hh → rx_fr [(m, 9)] h hh → rx_W P9 l E9 (rx_rm 3 61) S9 M9 A9 B9 me9 c9 (MQ B9 (va_Qi (fun r u => y.1 = r ∧ u.2 = n ∧ bM k m y.2 u.1 ∧ rx_fr [(m, 9)] h u.1) (rx_B G k) (rx_A k)) A9 S9 0 0 (rx_A k)) G k 4 0 0 hh n 33 [(0, .ref m), (1, .int x1), (2, .int x2)] [] := by
    intro hh b_m fr
    refine rx_aload_n C dX9_number0_33 0 rfl ?_
    refine rx_getf C f_X9_160 dX9_number0_34 b_m.1 rfl ?_
    refine rx_if_eq C dX9_number0_37 42 (by decide) (fun c3 => ?_) (fun c3 => ?_)
    · rw [if_pos c3] at hF
      refine rx_aload_n C dX9_number0_42 0 rfl ?_
      refine rx_getf C f_X9_166 dX9_number0_43 b_m.1 rfl ?_
      replace hF := rx_leE hF; obtain ⟨v4, e_v4, hF⟩ := hF
      rw [e_v4]
      refine rx_istore_n C dX9_number0_46 (by decide) [(3, .int v4), (0, .ref m), (1, .int x1), (2, .int x2)] rfl ?_
      refine rx_aload_n C dX9_number0_47 1 rfl ?_
      replace hF := rx_biE hF; obtain ⟨y5, e_y5, hF⟩ := hF
      refine rx_cv (rx_rV C (w_X9_next e_y5 b_m) Y_X9_next V_X9_next m_X9_190 (Or.inl ⟨_, _, _, _, b_m.1, rfl⟩) ⟨⟨rfl, rfl⟩, ⟨(Nat.le_of_ble_eq_true rfl), (Nat.le_of_ble_eq_true rfl)⟩, ⟨(Nat.le_of_ble_eq_true rfl), (Nat.le_of_ble_eq_true rfl)⟩⟩ rfl rfl (Nat.le_of_ble_eq_true rfl) dX9_number0_48) (fun hh n1 hpp => ?_)
      obtain ⟨hn, c_m, ff⟩ := hpp
      replace hn : n = n1 := Eq.symm hn
      subst hn
      replace b_m : bM k m y5 hh := c_m
      clear c_m
      replace ff : rx_fr [(m, 9)] _ hh := ff
      replace fr := rx_frt fr ff (fun a ha => ⟨ha.1, trivial⟩)
      refine rx_iload_n C dX9_number0_51 0 rfl ?_
      obtain rfl := Option.some.inj hF
      exact rx_iret C dX9_number0_52 (Nat.le_refl _) (Nat.le_refl _) ⟨rfl, rfl, b_m, fr⟩
    · rw [if_neg c3] at hF
      refine rx_iload_n C dX9_number0_40 1 rfl ?_
      obtain rfl := Option.some.inj hF
      exact rx_iret C dX9_number0_41 (Nat.le_refl _) (Nat.le_refl _) ⟨rfl, rfl, b_m, fr⟩
  replace hF := e_zj1
  clear e_zj1
  refine rx_icmp_eq C dX9_number0_5 16 (by decide) (fun c6 => ?_) (fun c6 => ?_)
  · rw [if_pos c6] at hF
    refine rx_aload_n C dX9_number0_16 0 rfl ?_
    refine rx_getf C f_X9_166 dX9_number0_17 b_m.1 rfl ?_
    refine rx_iload_n C dX9_number0_20 1 rfl ?_
    refine rx_iload_n C dX9_number0_21 2 rfl ?_
    replace hF := rx_biE hF; obtain ⟨y7, e_y7, hF⟩ := hF
    refine rx_ci (rx_rS C (w_X9_in e_y7 ) Y_X9_in S_X9_in m_X9_200 ⟨⟨rfl, rfl⟩, ⟨(Nat.le_of_ble_eq_true rfl), (Nat.le_of_ble_eq_true rfl)⟩, ⟨(Nat.le_of_ble_eq_true rfl), (Nat.le_of_ble_eq_true rfl)⟩⟩ rfl rfl (Nat.le_of_ble_eq_true rfl) dX9_number0_22) (fun r hh n1 hpp => ?_)
    obtain ⟨rfl, bo_y7, hu⟩ := hpp
    cases hu
    refine rx_if_ne C dX9_number0_25 33 (by decide) (fun c8 => ?_) (fun c8 => ?_)
    · rw [if_neg c8] at hF
      obtain rfl := Option.some.inj hF
      refine rx_sub [0, 1, 2] rfl ?_
      exact KJ2 _ b_m fr
    · rw [if_pos c8] at hF
      refine rx_aload_n C dX9_number0_28 0 rfl ?_
      refine rx_iconst C dX9_number0_29 (2 : Int32) (by decide) ?_
      replace hF := rx_biE hF; obtain ⟨y9, e_y9, hF⟩ := hF
      refine rx_cv (rx_rV C (w_X9_errs e_y9 b_m) Y_X9_errs V_X9_errs m_X9_197 (Or.inl ⟨_, _, _, _, b_m.1, rfl⟩) ⟨⟨rfl, rfl⟩, ⟨(Nat.le_of_ble_eq_true rfl), (Nat.le_of_ble_eq_true rfl)⟩, ⟨(Nat.le_of_ble_eq_true rfl), (Nat.le_of_ble_eq_true rfl)⟩⟩ rfl rfl (Nat.le_of_ble_eq_true rfl) dX9_number0_30) (fun hh n1 hpp => ?_)
      obtain ⟨hn, c_m, ff⟩ := hpp
      replace hn : n = n1 := Eq.symm hn
      subst hn
      replace b_m : bM k m y9 hh := c_m
      clear c_m
      replace ff : rx_fr [(m, 9)] _ hh := ff
      replace fr := rx_frt fr ff (fun a ha => ⟨ha.1, trivial⟩)
      obtain rfl := Option.some.inj hF
      refine rx_sub [0, 1, 2] rfl ?_
      exact KJ2 _ b_m fr
  · rw [if_neg c6] at hF
    refine rx_aload_n C dX9_number0_8 0 rfl ?_
    refine rx_iconst C dX9_number0_9 (1 : Int32) (by decide) ?_
    replace hF := rx_biE hF; obtain ⟨y10, e_y10, hF⟩ := hF
    refine rx_cv (rx_rV C (w_X9_errs e_y10 b_m) Y_X9_errs V_X9_errs m_X9_197 (Or.inl ⟨_, _, _, _, b_m.1, rfl⟩) ⟨⟨rfl, rfl⟩, ⟨(Nat.le_of_ble_eq_true rfl), (Nat.le_of_ble_eq_true rfl)⟩, ⟨(Nat.le_of_ble_eq_true rfl), (Nat.le_of_ble_eq_true rfl)⟩⟩ rfl rfl (Nat.le_of_ble_eq_true rfl) dX9_number0_10) (fun hh n1 hpp => ?_)
    obtain ⟨hn, c_m, ff⟩ := hpp
    replace hn : n = n1 := Eq.symm hn
    subst hn
    replace b_m : bM k m y10 hh := c_m
    clear c_m
    replace ff : rx_fr [(m, 9)] _ hh := ff
    replace fr := rx_frt fr ff (fun a ha => ⟨ha.1, trivial⟩)
    refine rx_goto C dX9_number0_13 33 (by decide) ?_
    obtain rfl := Option.some.inj hF
    refine rx_sub [0, 1, 2] rfl ?_
    exact KJ2 _ b_m fr
def F_X9_isPersonHere (om : ob) : Option (Int32) := (F_X9_isWord om 2).bind fun y1 => if y1 = (0 : Int32) then ((F_X9_isWord om 3).bind fun y3 => if y3 = (0 : Int32) then (some ((0 : Int32))) else (some ((1 : Int32)))) else (some ((1 : Int32)))
set_option maxRecDepth 100000 in
set_option maxHeartbeats 4000000 in
theorem w_X9_isPersonHere {m : Nat} {om : ob} {y : Int32} (hF : F_X9_isPersonHere om = some y) (b_m : bM k m om h) : Met l yX9_isPersonHere (rx_ws yX9_isPersonHere cX9_isPersonHere 1 (some .boolean)) (rx_rm 5 107) (va_Pc [.ref m] (rx_G G k h n)) (va_Qi (fun r u => y = r ∧ (y = 0 ∨ y = 1) ∧ u = (h, n)) (rx_B G k) (rx_A k)) 0 0 (rx_A k) := by
  refine rx_start [(0, .ref m)] rfl (Nat.le_of_ble_eq_true rfl) (by decide) rfl (fun P9 E9 S9 M9 A9 B9 me9 c9 C hname => ?_)
  unfold F_X9_isPersonHere at hF
  refine rx_aload_n C dX9_isPersonHere_0 0 rfl ?_
  refine rx_ldcS (t := 2) C (List.mem_of_getElem? (i := 19) rfl) dX9_isPersonHere_1 ?_
  replace hF := rx_biE hF; obtain ⟨y1, e_y1, hF⟩ := hF
  refine rx_ci (rx_rV C (w_X9_isWord e_y1 b_m (by decide)) Y_X9_isWord V_X9_isWord m_X9_193 (Or.inl ⟨_, _, _, _, b_m.1, rfl⟩) ⟨⟨rfl, rfl⟩, ⟨(Nat.le_of_ble_eq_true rfl), (Nat.le_of_ble_eq_true rfl)⟩, ⟨(Nat.le_of_ble_eq_true rfl), (Nat.le_of_ble_eq_true rfl)⟩⟩ rfl rfl (Nat.le_of_ble_eq_true rfl) dX9_isPersonHere_3) (fun r hh n1 hpp => ?_)
  obtain ⟨rfl, bo_y1, hu⟩ := hpp
  cases hu
  refine rx_if_ne C dX9_isPersonHere_6 18 (by decide) (fun c2 => ?_) (fun c2 => ?_)
  · rw [if_neg c2] at hF
    refine rx_iconst C dX9_isPersonHere_18 (1 : Int32) (by decide) ?_
    refine rx_goto C dX9_isPersonHere_19 23 (by decide) ?_
    obtain rfl := Option.some.inj hF
    exact rx_zret C (rx_nz (Or.inr rfl)) dX9_isPersonHere_23 (Nat.le_refl _) (Nat.le_refl _) ⟨rfl, (Or.inr rfl), rfl⟩
  · rw [if_pos c2] at hF
    refine rx_aload_n C dX9_isPersonHere_9 0 rfl ?_
    refine rx_ldcS (t := 3) C (List.mem_of_getElem? (i := 20) rfl) dX9_isPersonHere_10 ?_
    replace hF := rx_biE hF; obtain ⟨y3, e_y3, hF⟩ := hF
    refine rx_ci (rx_rV C (w_X9_isWord e_y3 b_m (by decide)) Y_X9_isWord V_X9_isWord m_X9_193 (Or.inl ⟨_, _, _, _, b_m.1, rfl⟩) ⟨⟨rfl, rfl⟩, ⟨(Nat.le_of_ble_eq_true rfl), (Nat.le_of_ble_eq_true rfl)⟩, ⟨(Nat.le_of_ble_eq_true rfl), (Nat.le_of_ble_eq_true rfl)⟩⟩ rfl rfl (Nat.le_of_ble_eq_true rfl) dX9_isPersonHere_12) (fun r hh n1 hpp => ?_)
    obtain ⟨rfl, bo_y3, hu⟩ := hpp
    cases hu
    refine rx_if_eq C dX9_isPersonHere_15 22 (by decide) (fun c4 => ?_) (fun c4 => ?_)
    · rw [if_pos c4] at hF
      refine rx_iconst C dX9_isPersonHere_22 (0 : Int32) (by decide) ?_
      obtain rfl := Option.some.inj hF
      exact rx_zret C (rx_nz (Or.inl rfl)) dX9_isPersonHere_23 (Nat.le_refl _) (Nat.le_refl _) ⟨rfl, (Or.inl rfl), rfl⟩
    · rw [if_neg c4] at hF
      refine rx_iconst C dX9_isPersonHere_18 (1 : Int32) (by decide) ?_
      refine rx_goto C dX9_isPersonHere_19 23 (by decide) ?_
      obtain rfl := Option.some.inj hF
      exact rx_zret C (rx_nz (Or.inr rfl)) dX9_isPersonHere_23 (Nat.le_refl _) (Nat.le_refl _) ⟨rfl, (Or.inr rfl), rfl⟩
def F_X9_bankHere (om : ob) : Option (Int32) := (F_X9_isWord om 4).bind fun y1 => if y1 = (0 : Int32) then ((F_X9_isWord om 5).bind fun y3 => if y3 = (0 : Int32) then (some ((-1 : Int32))) else (some ((1 : Int32)))) else (some ((0 : Int32)))
set_option maxRecDepth 100000 in
set_option maxHeartbeats 4000000 in
theorem w_X9_bankHere {m : Nat} {om : ob} {y : Int32} (hF : F_X9_bankHere om = some y) (b_m : bM k m om h) : Met l yX9_bankHere (rx_ws yX9_bankHere cX9_bankHere 1 (some .int)) (rx_rm 5 107) (va_Pc [.ref m] (rx_G G k h n)) (va_Qi (fun r u => y = r ∧ u = (h, n)) (rx_B G k) (rx_A k)) 0 0 (rx_A k) := by
  refine rx_start [(0, .ref m)] rfl (Nat.le_of_ble_eq_true rfl) (by decide) rfl (fun P9 E9 S9 M9 A9 B9 me9 c9 C hname => ?_)
  unfold F_X9_bankHere at hF
  refine rx_aload_n C dX9_bankHere_0 0 rfl ?_
  refine rx_ldcS (t := 4) C (List.mem_of_getElem? (i := 21) rfl) dX9_bankHere_1 ?_
  replace hF := rx_biE hF; obtain ⟨y1, e_y1, hF⟩ := hF
  refine rx_ci (rx_rV C (w_X9_isWord e_y1 b_m (by decide)) Y_X9_isWord V_X9_isWord m_X9_193 (Or.inl ⟨_, _, _, _, b_m.1, rfl⟩) ⟨⟨rfl, rfl⟩, ⟨(Nat.le_of_ble_eq_true rfl), (Nat.le_of_ble_eq_true rfl)⟩, ⟨(Nat.le_of_ble_eq_true rfl), (Nat.le_of_ble_eq_true rfl)⟩⟩ rfl rfl (Nat.le_of_ble_eq_true rfl) dX9_bankHere_3) (fun r hh n1 hpp => ?_)
  obtain ⟨rfl, bo_y1, hu⟩ := hpp
  cases hu
  refine rx_if_eq C dX9_bankHere_6 11 (by decide) (fun c2 => ?_) (fun c2 => ?_)
  · rw [if_pos c2] at hF
    refine rx_aload_n C dX9_bankHere_11 0 rfl ?_
    refine rx_ldcS (t := 5) C (List.mem_of_getElem? (i := 22) rfl) dX9_bankHere_12 ?_
    replace hF := rx_biE hF; obtain ⟨y3, e_y3, hF⟩ := hF
    refine rx_ci (rx_rV C (w_X9_isWord e_y3 b_m (by decide)) Y_X9_isWord V_X9_isWord m_X9_193 (Or.inl ⟨_, _, _, _, b_m.1, rfl⟩) ⟨⟨rfl, rfl⟩, ⟨(Nat.le_of_ble_eq_true rfl), (Nat.le_of_ble_eq_true rfl)⟩, ⟨(Nat.le_of_ble_eq_true rfl), (Nat.le_of_ble_eq_true rfl)⟩⟩ rfl rfl (Nat.le_of_ble_eq_true rfl) dX9_bankHere_14) (fun r hh n1 hpp => ?_)
    obtain ⟨rfl, bo_y3, hu⟩ := hpp
    cases hu
    refine rx_if_eq C dX9_bankHere_17 24 (by decide) (fun c4 => ?_) (fun c4 => ?_)
    · rw [if_pos c4] at hF
      refine rx_iconst C dX9_bankHere_24 (-1 : Int32) (by decide) ?_
      obtain rfl := Option.some.inj hF
      exact rx_iret C dX9_bankHere_25 (Nat.le_refl _) (Nat.le_refl _) ⟨rfl, rfl⟩
    · rw [if_neg c4] at hF
      refine rx_iconst C dX9_bankHere_20 (1 : Int32) (by decide) ?_
      refine rx_goto C dX9_bankHere_21 25 (by decide) ?_
      obtain rfl := Option.some.inj hF
      exact rx_iret C dX9_bankHere_25 (Nat.le_refl _) (Nat.le_refl _) ⟨rfl, rfl⟩
  · rw [if_neg c2] at hF
    refine rx_iconst C dX9_bankHere_9 (0 : Int32) (by decide) ?_
    obtain rfl := Option.some.inj hF
    exact rx_iret C dX9_bankHere_10 (Nat.le_refl _) (Nat.le_refl _) ⟨rfl, rfl⟩
def F_X9_readsPerson (om : ob) : Option (ob) := (F_X9_isPersonHere om).bind fun y1 => (if y1 = (0 : Int32) then ((F_X9_errs om ((1 : Int32))).bind fun y43 => some y43) else (some om)).bind fun zj2 => (rx_ald 144 (zj2.2 1) ((8 : Int32))).bind fun v4 => (if v4 = (10 : Int32) then ((F_X9_errs zj2 ((3 : Int32))).bind fun y41 => some y41) else (some zj2)).bind fun zj5 => if (zj5.1 15) = (0 : Int32) then ((F_X9_isWord zj5 2).bind fun y8 => (F_X9_truth y8).bind fun y9 => (F_X9_next zj5).bind fun y10 => (F_X9_bankHere y10).bind fun y11 => (if y11 = (-1 : Int32) then ((F_X9_errs y10 ((1 : Int32))).bind fun y39 => some y39) else (some y10)).bind fun zj12 => (if (zj12.1 15) = (0 : Int32) then ((F_X9_next zj12).bind fun y37 => some y37) else (some zj12)).bind fun zj14 => (F_X9_number0 zj14 ((0 : Int32)) ((999 : Int32))).bind fun y16 => (F_X9_number0 y16.2 ((0 : Int32)) ((40 : Int32))).bind fun y17 => (F_X9_number0 y17.2 ((0 : Int32)) ((50 : Int32))).bind fun y18 => (F_X9_semicolon y18.2).bind fun y19 => if (y19.1 15) = (0 : Int32) then ((rx_ald 144 (y19.2 1) ((8 : Int32))).bind fun v21 => (rx_ald 144 (y19.2 1) ((8 : Int32))).bind fun v22 => (rx_ast 144 (y19.2 1) ((8 : Int32)) ((v22 + (1 : Int32)))).bind fun f23 => rx_le (y19.1, va_up y19.2 1 f23) fun o_m_24 => (F_X9_lays o_m_24 v21 ((0 : Int32)) y9).bind fun y25 => (F_X9_lays y25 v21 ((1 : Int32)) y11).bind fun y26 => (F_X9_lays y26 v21 ((2 : Int32)) y16.1).bind fun y27 => (F_X9_lays y27 v21 ((3 : Int32)) y17.1).bind fun y28 => (F_X9_lays y28 v21 ((4 : Int32)) v21).bind fun y29 => (rx_ast 144 (y29.2 1) (((92 : Int32) + v21)) y18.1).bind fun f30 => rx_le (y29.1, va_up y29.2 1 f30) fun o_m_31 => (rx_ald 144 (o_m_31.2 1) ((10 : Int32))).bind fun v32 => (rx_ast 144 (o_m_31.2 1) ((10 : Int32)) ((v32 + y16.1))).bind fun f33 => rx_le (o_m_31.1, va_up o_m_31.2 1 f33) fun o_m_34 => (F_X9_laysRoyal o_m_34 v21 ((0 : Int32)) v21).bind fun y35 => some y35) else (some y19)) else (some zj5)
set_option maxRecDepth 100000 in
set_option maxHeartbeats 4000000 in
theorem w_X9_readsPerson {m : Nat} {om : ob} {y : ob} (hF : F_X9_readsPerson om = some y) (b_m : bM k m om h) : Met l yX9_readsPerson (rx_ws yX9_readsPerson cX9_readsPerson 7 none) (rx_rm 6 127) (va_Pc [.ref m] (rx_G G k h n)) (va_Qv (fun u => u.2 = n ∧ bM k m y u.1 ∧ rx_fr [(m, 9)] h u.1) (rx_B G k) (rx_A k)) 0 0 (rx_A k) := by
  refine rx_start [(0, .ref m)] rfl (Nat.le_of_ble_eq_true rfl) (by decide) rfl (fun P9 E9 S9 M9 A9 B9 me9 c9 C hname => ?_)
  unfold F_X9_readsPerson at hF
  have fr : rx_fr [(m, 9)] h h := rx_fr0
  refine rx_aload_n C dX9_readsPerson_0 0 rfl ?_
  replace hF := rx_biE hF; obtain ⟨y1, e_y1, hF⟩ := hF
  refine rx_ci (rx_rV C (w_X9_isPersonHere e_y1 b_m) Y_X9_isPersonHere V_X9_isPersonHere m_X9_220 (Or.inl ⟨_, _, _, _, b_m.1, rfl⟩) ⟨⟨rfl, rfl⟩, ⟨(Nat.le_of_ble_eq_true rfl), (Nat.le_of_ble_eq_true rfl)⟩, ⟨(Nat.le_of_ble_eq_true rfl), (Nat.le_of_ble_eq_true rfl)⟩⟩ rfl rfl (Nat.le_of_ble_eq_true rfl) dX9_readsPerson_1) (fun r hh n1 hpp => ?_)
  obtain ⟨rfl, bo_y1, hu⟩ := hpp
  cases hu
  replace hF := rx_biE hF; obtain ⟨zj2, e_zj2, hF⟩ := hF
  have KJ3 : ∀ hh : hp, bM k m zj2 hh → rx_fr [(m, 9)] h hh → rx_W P9 l E9 (rx_rm 6 127) S9 M9 A9 B9 me9 c9 (MQ B9 (va_Qv (fun u => u.2 = n ∧ bM k m y u.1 ∧ rx_fr [(m, 9)] h u.1) (rx_B G k) (rx_A k)) A9 S9 0 0 (rx_A k)) G k 7 0 0 hh n 12 [(0, .ref m)] [] := by
    intro hh b_m fr
    refine rx_aload_n C dX9_readsPerson_12 0 rfl ?_
    refine rx_getf C f_X9_13 dX9_readsPerson_13 b_m.1 rfl ?_
    refine rx_bipush C dX9_readsPerson_16 (8 : Int32) (by decide) ?_
    replace hF := rx_biE hF; obtain ⟨v4, e_v4, hF⟩ := hF
    refine rx_aldF C dX9_readsPerson_18 b_m.2.1 e_v4 ?_
    refine rx_bipush C dX9_readsPerson_19 (10 : Int32) (by decide) ?_
    replace hF := rx_biE hF; obtain ⟨zj5, e_zj5, hF⟩ := hF
    have KJ6 : ∀ hh : hp, bM k m zj5 hh → rx_fr [(m, 9)] h hh → rx_W P9 l E9 (rx_rm 6 127) S9 M9 A9 B9 me9 c9 (MQ B9 (va_Qv (fun u => u.2 = n ∧ bM k m y u.1 ∧ rx_fr [(m, 9)] h u.1) (rx_B G k) (rx_A k)) A9 S9 0 0 (rx_A k)) G k 7 0 0 hh n 29 [(0, .ref m)] [] := by
      intro hh b_m fr
      refine rx_aload_n C dX9_readsPerson_29 0 rfl ?_
      refine rx_getf C f_X9_160 dX9_readsPerson_30 b_m.1 rfl ?_
      refine rx_if_eq C dX9_readsPerson_33 37 (by decide) (fun c7 => ?_) (fun c7 => ?_)
      · rw [if_pos c7] at hF
        refine rx_aload_n C dX9_readsPerson_37 0 rfl ?_
        refine rx_ldcS (t := 2) C (List.mem_of_getElem? (i := 19) rfl) dX9_readsPerson_38 ?_
        replace hF := rx_biE hF; obtain ⟨y8, e_y8, hF⟩ := hF
        refine rx_ci (rx_rV C (w_X9_isWord e_y8 b_m (by decide)) Y_X9_isWord V_X9_isWord m_X9_193 (Or.inl ⟨_, _, _, _, b_m.1, rfl⟩) ⟨⟨rfl, rfl⟩, ⟨(Nat.le_of_ble_eq_true rfl), (Nat.le_of_ble_eq_true rfl)⟩, ⟨(Nat.le_of_ble_eq_true rfl), (Nat.le_of_ble_eq_true rfl)⟩⟩ rfl rfl (Nat.le_of_ble_eq_true rfl) dX9_readsPerson_40) (fun r hh n1 hpp => ?_)
        obtain ⟨rfl, bo_y8, hu⟩ := hpp
        cases hu
        replace hF := rx_biE hF; obtain ⟨y9, e_y9, hF⟩ := hF
        refine rx_ci (rx_rS C (w_X9_truth e_y9 ) Y_X9_truth S_X9_truth m_X9_85 ⟨⟨rfl, rfl⟩, ⟨(Nat.le_of_ble_eq_true rfl), (Nat.le_of_ble_eq_true rfl)⟩, ⟨(Nat.le_of_ble_eq_true rfl), (Nat.le_of_ble_eq_true rfl)⟩⟩ rfl rfl (Nat.le_of_ble_eq_true rfl) dX9_readsPerson_43) (fun r hh n1 hpp => ?_)
        obtain ⟨rfl, hu⟩ := hpp
        cases hu
        refine rx_istore_n C dX9_readsPerson_46 (by decide) [(1, .int y9), (0, .ref m)] rfl ?_
        refine rx_aload_n C dX9_readsPerson_47 1 rfl ?_
        replace hF := rx_biE hF; obtain ⟨y10, e_y10, hF⟩ := hF
        refine rx_cv (rx_rV C (w_X9_next e_y10 b_m) Y_X9_next V_X9_next m_X9_190 (Or.inl ⟨_, _, _, _, b_m.1, rfl⟩) ⟨⟨rfl, rfl⟩, ⟨(Nat.le_of_ble_eq_true rfl), (Nat.le_of_ble_eq_true rfl)⟩, ⟨(Nat.le_of_ble_eq_true rfl), (Nat.le_of_ble_eq_true rfl)⟩⟩ rfl rfl (Nat.le_of_ble_eq_true rfl) dX9_readsPerson_48) (fun hh n1 hpp => ?_)
        obtain ⟨hn, c_m, ff⟩ := hpp
        replace hn : n = n1 := Eq.symm hn
        subst hn
        replace b_m : bM k m y10 hh := c_m
        clear c_m
        replace ff : rx_fr [(m, 9)] _ hh := ff
        replace fr := rx_frt fr ff (fun a ha => ⟨ha.1, trivial⟩)
        refine rx_aload_n C dX9_readsPerson_51 1 rfl ?_
        replace hF := rx_biE hF; obtain ⟨y11, e_y11, hF⟩ := hF
        refine rx_ci (rx_rV C (w_X9_bankHere e_y11 b_m) Y_X9_bankHere V_X9_bankHere m_X9_234 (Or.inl ⟨_, _, _, _, b_m.1, rfl⟩) ⟨⟨rfl, rfl⟩, ⟨(Nat.le_of_ble_eq_true rfl), (Nat.le_of_ble_eq_true rfl)⟩, ⟨(Nat.le_of_ble_eq_true rfl), (Nat.le_of_ble_eq_true rfl)⟩⟩ rfl rfl (Nat.le_of_ble_eq_true rfl) dX9_readsPerson_52) (fun r hh n1 hpp => ?_)
        obtain ⟨rfl, hu⟩ := hpp
        cases hu
        refine rx_istore_n C dX9_readsPerson_55 (by decide) [(2, .int y11), (1, .int y9), (0, .ref m)] rfl ?_
        refine rx_iload_n C dX9_readsPerson_56 0 rfl ?_
        refine rx_iconst C dX9_readsPerson_57 (-1 : Int32) (by decide) ?_
        replace hF := rx_biE hF; obtain ⟨zj12, e_zj12, hF⟩ := hF
        have KJ13 : ∀ hh : hp, bM k m zj12 hh → rx_fr [(m, 9)] h hh → rx_W P9 l E9 (rx_rm 6 127) S9 M9 A9 B9 me9 c9 (MQ B9 (va_Qv (fun u => u.2 = n ∧ bM k m y u.1 ∧ rx_fr [(m, 9)] h u.1) (rx_B G k) (rx_A k)) A9 S9 0 0 (rx_A k)) G k 7 0 0 hh n 66 [(0, .ref m), (1, .int y9), (2, .int y11)] [] := by
          intro hh b_m fr
          refine rx_aload_n C dX9_readsPerson_66 0 rfl ?_
          refine rx_getf C f_X9_160 dX9_readsPerson_67 b_m.1 rfl ?_
          replace hF := rx_biE hF; obtain ⟨zj14, e_zj14, hF⟩ := hF
          have KJ15 : ∀ hh : hp, bM k m zj14 hh → rx_fr [(m, 9)] h hh → rx_W P9 l E9 (rx_rm 6 127) S9 M9 A9 B9 me9 c9 (MQ B9 (va_Qv (fun u => u.2 = n ∧ bM k m y u.1 ∧ rx_fr [(m, 9)] h u.1) (rx_B G k) (rx_A k)) A9 S9 0 0 (rx_A k)) G k 7 0 0 hh n 77 [(0, .ref m), (1, .int y9), (2, .int y11)] [] := by
            intro hh b_m fr
            refine rx_aload_n C dX9_readsPerson_77 0 rfl ?_
            refine rx_iconst C dX9_readsPerson_78 (0 : Int32) (by decide) ?_
            refine rx_sipush C dX9_readsPerson_79 (999 : Int32) (by decide) ?_
            replace hF := rx_biE hF; obtain ⟨y16, e_y16, hF⟩ := hF
            refine rx_ci (rx_rV C (w_X9_number0 e_y16 b_m) Y_X9_number0 V_X9_number0 m_X9_214 (Or.inl ⟨_, _, _, _, b_m.1, rfl⟩) ⟨⟨rfl, rfl⟩, ⟨(Nat.le_of_ble_eq_true rfl), (Nat.le_of_ble_eq_true rfl)⟩, ⟨(Nat.le_of_ble_eq_true rfl), (Nat.le_of_ble_eq_true rfl)⟩⟩ rfl rfl (Nat.le_of_ble_eq_true rfl) dX9_readsPerson_82) (fun r hh n1 hpp => ?_)
            obtain ⟨rfl, hn, c_m, ff⟩ := hpp
            replace hn : n = n1 := Eq.symm hn
            subst hn
            replace b_m : bM k m y16.2 hh := c_m
            clear c_m
            replace ff : rx_fr [(m, 9)] _ hh := ff
            replace fr := rx_frt fr ff (fun a ha => ⟨ha.1, trivial⟩)
            refine rx_istore_n C dX9_readsPerson_85 (by decide) [(3, .int y16.1), (0, .ref m), (1, .int y9), (2, .int y11)] rfl ?_
            refine rx_aload_n C dX9_readsPerson_86 1 rfl ?_
            refine rx_iconst C dX9_readsPerson_87 (0 : Int32) (by decide) ?_
            refine rx_bipush C dX9_readsPerson_88 (40 : Int32) (by decide) ?_
            replace hF := rx_biE hF; obtain ⟨y17, e_y17, hF⟩ := hF
            refine rx_ci (rx_rV C (w_X9_number0 e_y17 b_m) Y_X9_number0 V_X9_number0 m_X9_214 (Or.inl ⟨_, _, _, _, b_m.1, rfl⟩) ⟨⟨rfl, rfl⟩, ⟨(Nat.le_of_ble_eq_true rfl), (Nat.le_of_ble_eq_true rfl)⟩, ⟨(Nat.le_of_ble_eq_true rfl), (Nat.le_of_ble_eq_true rfl)⟩⟩ rfl rfl (Nat.le_of_ble_eq_true rfl) dX9_readsPerson_90) (fun r hh n1 hpp => ?_)
            obtain ⟨rfl, hn, c_m, ff⟩ := hpp
            replace hn : n = n1 := Eq.symm hn
            subst hn
            replace b_m : bM k m y17.2 hh := c_m
            clear c_m
            replace ff : rx_fr [(m, 9)] _ hh := ff
            replace fr := rx_frt fr ff (fun a ha => ⟨ha.1, trivial⟩)
            refine rx_istore C dX9_readsPerson_93 (by decide) [(4, .int y17.1), (3, .int y16.1), (0, .ref m), (1, .int y9), (2, .int y11)] rfl ?_
            refine rx_aload_n C dX9_readsPerson_95 2 rfl ?_
            refine rx_iconst C dX9_readsPerson_96 (0 : Int32) (by decide) ?_
            refine rx_bipush C dX9_readsPerson_97 (50 : Int32) (by decide) ?_
            replace hF := rx_biE hF; obtain ⟨y18, e_y18, hF⟩ := hF
            refine rx_ci (rx_rV C (w_X9_number0 e_y18 b_m) Y_X9_number0 V_X9_number0 m_X9_214 (Or.inl ⟨_, _, _, _, b_m.1, rfl⟩) ⟨⟨rfl, rfl⟩, ⟨(Nat.le_of_ble_eq_true rfl), (Nat.le_of_ble_eq_true rfl)⟩, ⟨(Nat.le_of_ble_eq_true rfl), (Nat.le_of_ble_eq_true rfl)⟩⟩ rfl rfl (Nat.le_of_ble_eq_true rfl) dX9_readsPerson_99) (fun r hh n1 hpp => ?_)
            obtain ⟨rfl, hn, c_m, ff⟩ := hpp
            replace hn : n = n1 := Eq.symm hn
            subst hn
            replace b_m : bM k m y18.2 hh := c_m
            clear c_m
            replace ff : rx_fr [(m, 9)] _ hh := ff
            replace fr := rx_frt fr ff (fun a ha => ⟨ha.1, trivial⟩)
            refine rx_istore C dX9_readsPerson_102 (by decide) [(5, .int y18.1), (4, .int y17.1), (3, .int y16.1), (0, .ref m), (1, .int y9), (2, .int y11)] rfl ?_
            refine rx_aload_n C dX9_readsPerson_104 3 rfl ?_
            replace hF := rx_biE hF; obtain ⟨y19, e_y19, hF⟩ := hF
            refine rx_cv (rx_rV C (w_X9_semicolon e_y19 b_m) Y_X9_semicolon V_X9_semicolon m_X9_217 (Or.inl ⟨_, _, _, _, b_m.1, rfl⟩) ⟨⟨rfl, rfl⟩, ⟨(Nat.le_of_ble_eq_true rfl), (Nat.le_of_ble_eq_true rfl)⟩, ⟨(Nat.le_of_ble_eq_true rfl), (Nat.le_of_ble_eq_true rfl)⟩⟩ rfl rfl (Nat.le_of_ble_eq_true rfl) dX9_readsPerson_105) (fun hh n1 hpp => ?_)
            obtain ⟨hn, c_m, ff⟩ := hpp
            replace hn : n = n1 := Eq.symm hn
            subst hn
            replace b_m : bM k m y19 hh := c_m
            clear c_m
            replace ff : rx_fr [(m, 9)] _ hh := ff
            replace fr := rx_frt fr ff (fun a ha => ⟨ha.1, trivial⟩)
            refine rx_aload_n C dX9_readsPerson_108 3 rfl ?_
            refine rx_getf C f_X9_160 dX9_readsPerson_109 b_m.1 rfl ?_
            refine rx_if_eq C dX9_readsPerson_112 116 (by decide) (fun c20 => ?_) (fun c20 => ?_)
            · rw [if_pos c20] at hF
              refine rx_aload_n C dX9_readsPerson_116 3 rfl ?_
              refine rx_getf C f_X9_13 dX9_readsPerson_117 b_m.1 rfl ?_
              refine rx_bipush C dX9_readsPerson_120 (8 : Int32) (by decide) ?_
              replace hF := rx_biE hF; obtain ⟨v21, e_v21, hF⟩ := hF
              refine rx_aldF C dX9_readsPerson_122 b_m.2.1 e_v21 ?_
              refine rx_istore C dX9_readsPerson_123 (by decide) [(6, .int v21), (5, .int y18.1), (4, .int y17.1), (3, .int y16.1), (0, .ref m), (1, .int y9), (2, .int y11)] rfl ?_
              refine rx_aload_n C dX9_readsPerson_125 4 rfl ?_
              refine rx_getf C f_X9_13 dX9_readsPerson_126 b_m.1 rfl ?_
              refine rx_bipush C dX9_readsPerson_129 (8 : Int32) (by decide) ?_
              refine rx_dup2 C dX9_readsPerson_131 rfl rfl ?_
              replace hF := rx_biE hF; obtain ⟨v22, e_v22, hF⟩ := hF
              refine rx_aldF C dX9_readsPerson_132 b_m.2.1 e_v22 ?_
              refine rx_iconst C dX9_readsPerson_133 (1 : Int32) (by decide) ?_
              refine rx_iadd C dX9_readsPerson_134 ?_
              replace hF := rx_biE hF; obtain ⟨f23, e_f23, hF⟩ := hF
              replace hF := rx_leE hF; obtain ⟨o_m_24, e_o_m_24, hF⟩ := hF
              refine rx_aM1 C dX9_readsPerson_135 b_m e_f23 e_o_m_24 (fun hh c_m ff => ?_)
              replace b_m := c_m
              replace fr := rx_frt fr ff (fun a ha => ⟨ha.1, trivial⟩)
              refine rx_aload_n C dX9_readsPerson_136 4 rfl ?_
              refine rx_iload C dX9_readsPerson_137 0 rfl ?_
              refine rx_iconst C dX9_readsPerson_139 (0 : Int32) (by decide) ?_
              refine rx_iload_n C dX9_readsPerson_140 5 rfl ?_
              replace hF := rx_biE hF; obtain ⟨y25, e_y25, hF⟩ := hF
              refine rx_cv (rx_rV C (w_X9_lays e_y25 b_m) Y_X9_lays V_X9_lays m_X9_105 (Or.inl ⟨_, _, _, _, b_m.1, rfl⟩) ⟨⟨rfl, rfl⟩, ⟨(Nat.le_of_ble_eq_true rfl), (Nat.le_of_ble_eq_true rfl)⟩, ⟨(Nat.le_of_ble_eq_true rfl), (Nat.le_of_ble_eq_true rfl)⟩⟩ rfl rfl (Nat.le_of_ble_eq_true rfl) dX9_readsPerson_141) (fun hh n1 hpp => ?_)
              obtain ⟨hn, c_m, ff⟩ := hpp
              replace hn : n = n1 := Eq.symm hn
              subst hn
              replace b_m : bM k m y25 hh := c_m
              clear c_m
              replace ff : rx_fr [(m, 9)] _ hh := ff
              replace fr := rx_frt fr ff (fun a ha => ⟨ha.1, trivial⟩)
              refine rx_aload_n C dX9_readsPerson_144 4 rfl ?_
              refine rx_iload C dX9_readsPerson_145 0 rfl ?_
              refine rx_iconst C dX9_readsPerson_147 (1 : Int32) (by decide) ?_
              refine rx_iload_n C dX9_readsPerson_148 6 rfl ?_
              replace hF := rx_biE hF; obtain ⟨y26, e_y26, hF⟩ := hF
              refine rx_cv (rx_rV C (w_X9_lays e_y26 b_m) Y_X9_lays V_X9_lays m_X9_105 (Or.inl ⟨_, _, _, _, b_m.1, rfl⟩) ⟨⟨rfl, rfl⟩, ⟨(Nat.le_of_ble_eq_true rfl), (Nat.le_of_ble_eq_true rfl)⟩, ⟨(Nat.le_of_ble_eq_true rfl), (Nat.le_of_ble_eq_true rfl)⟩⟩ rfl rfl (Nat.le_of_ble_eq_true rfl) dX9_readsPerson_149) (fun hh n1 hpp => ?_)
              obtain ⟨hn, c_m, ff⟩ := hpp
              replace hn : n = n1 := Eq.symm hn
              subst hn
              replace b_m : bM k m y26 hh := c_m
              clear c_m
              replace ff : rx_fr [(m, 9)] _ hh := ff
              replace fr := rx_frt fr ff (fun a ha => ⟨ha.1, trivial⟩)
              refine rx_aload_n C dX9_readsPerson_152 4 rfl ?_
              refine rx_iload C dX9_readsPerson_153 0 rfl ?_
              refine rx_iconst C dX9_readsPerson_155 (2 : Int32) (by decide) ?_
              refine rx_iload_n C dX9_readsPerson_156 3 rfl ?_
              replace hF := rx_biE hF; obtain ⟨y27, e_y27, hF⟩ := hF
              refine rx_cv (rx_rV C (w_X9_lays e_y27 b_m) Y_X9_lays V_X9_lays m_X9_105 (Or.inl ⟨_, _, _, _, b_m.1, rfl⟩) ⟨⟨rfl, rfl⟩, ⟨(Nat.le_of_ble_eq_true rfl), (Nat.le_of_ble_eq_true rfl)⟩, ⟨(Nat.le_of_ble_eq_true rfl), (Nat.le_of_ble_eq_true rfl)⟩⟩ rfl rfl (Nat.le_of_ble_eq_true rfl) dX9_readsPerson_157) (fun hh n1 hpp => ?_)
              obtain ⟨hn, c_m, ff⟩ := hpp
              replace hn : n = n1 := Eq.symm hn
              subst hn
              replace b_m : bM k m y27 hh := c_m
              clear c_m
              replace ff : rx_fr [(m, 9)] _ hh := ff
              replace fr := rx_frt fr ff (fun a ha => ⟨ha.1, trivial⟩)
              refine rx_aload_n C dX9_readsPerson_160 4 rfl ?_
              refine rx_iload C dX9_readsPerson_161 0 rfl ?_
              refine rx_iconst C dX9_readsPerson_163 (3 : Int32) (by decide) ?_
              refine rx_iload C dX9_readsPerson_164 2 rfl ?_
              replace hF := rx_biE hF; obtain ⟨y28, e_y28, hF⟩ := hF
              refine rx_cv (rx_rV C (w_X9_lays e_y28 b_m) Y_X9_lays V_X9_lays m_X9_105 (Or.inl ⟨_, _, _, _, b_m.1, rfl⟩) ⟨⟨rfl, rfl⟩, ⟨(Nat.le_of_ble_eq_true rfl), (Nat.le_of_ble_eq_true rfl)⟩, ⟨(Nat.le_of_ble_eq_true rfl), (Nat.le_of_ble_eq_true rfl)⟩⟩ rfl rfl (Nat.le_of_ble_eq_true rfl) dX9_readsPerson_166) (fun hh n1 hpp => ?_)
              obtain ⟨hn, c_m, ff⟩ := hpp
              replace hn : n = n1 := Eq.symm hn
              subst hn
              replace b_m : bM k m y28 hh := c_m
              clear c_m
              replace ff : rx_fr [(m, 9)] _ hh := ff
              replace fr := rx_frt fr ff (fun a ha => ⟨ha.1, trivial⟩)
              refine rx_aload_n C dX9_readsPerson_169 4 rfl ?_
              refine rx_iload C dX9_readsPerson_170 0 rfl ?_
              refine rx_iconst C dX9_readsPerson_172 (4 : Int32) (by decide) ?_
              refine rx_iload C dX9_readsPerson_173 0 rfl ?_
              replace hF := rx_biE hF; obtain ⟨y29, e_y29, hF⟩ := hF
              refine rx_cv (rx_rV C (w_X9_lays e_y29 b_m) Y_X9_lays V_X9_lays m_X9_105 (Or.inl ⟨_, _, _, _, b_m.1, rfl⟩) ⟨⟨rfl, rfl⟩, ⟨(Nat.le_of_ble_eq_true rfl), (Nat.le_of_ble_eq_true rfl)⟩, ⟨(Nat.le_of_ble_eq_true rfl), (Nat.le_of_ble_eq_true rfl)⟩⟩ rfl rfl (Nat.le_of_ble_eq_true rfl) dX9_readsPerson_175) (fun hh n1 hpp => ?_)
              obtain ⟨hn, c_m, ff⟩ := hpp
              replace hn : n = n1 := Eq.symm hn
              subst hn
              replace b_m : bM k m y29 hh := c_m
              clear c_m
              replace ff : rx_fr [(m, 9)] _ hh := ff
              replace fr := rx_frt fr ff (fun a ha => ⟨ha.1, trivial⟩)
              refine rx_aload_n C dX9_readsPerson_178 4 rfl ?_
              refine rx_getf C f_X9_13 dX9_readsPerson_179 b_m.1 rfl ?_
              refine rx_bipush C dX9_readsPerson_182 (92 : Int32) (by decide) ?_
              refine rx_iload C dX9_readsPerson_184 0 rfl ?_
              refine rx_iadd C dX9_readsPerson_186 ?_
              refine rx_iload C dX9_readsPerson_187 1 rfl ?_
              replace hF := rx_biE hF; obtain ⟨f30, e_f30, hF⟩ := hF
              replace hF := rx_leE hF; obtain ⟨o_m_31, e_o_m_31, hF⟩ := hF
              refine rx_aM1 C dX9_readsPerson_189 b_m e_f30 e_o_m_31 (fun hh c_m ff => ?_)
              replace b_m := c_m
              replace fr := rx_frt fr ff (fun a ha => ⟨ha.1, trivial⟩)
              refine rx_aload_n C dX9_readsPerson_190 4 rfl ?_
              refine rx_getf C f_X9_13 dX9_readsPerson_191 b_m.1 rfl ?_
              refine rx_bipush C dX9_readsPerson_194 (10 : Int32) (by decide) ?_
              refine rx_dup2 C dX9_readsPerson_196 rfl rfl ?_
              replace hF := rx_biE hF; obtain ⟨v32, e_v32, hF⟩ := hF
              refine rx_aldF C dX9_readsPerson_197 b_m.2.1 e_v32 ?_
              refine rx_iload_n C dX9_readsPerson_198 3 rfl ?_
              refine rx_iadd C dX9_readsPerson_199 ?_
              replace hF := rx_biE hF; obtain ⟨f33, e_f33, hF⟩ := hF
              replace hF := rx_leE hF; obtain ⟨o_m_34, e_o_m_34, hF⟩ := hF
              refine rx_aM1 C dX9_readsPerson_200 b_m e_f33 e_o_m_34 (fun hh c_m ff => ?_)
              replace b_m := c_m
              replace fr := rx_frt fr ff (fun a ha => ⟨ha.1, trivial⟩)
              refine rx_aload_n C dX9_readsPerson_201 4 rfl ?_
              refine rx_iload C dX9_readsPerson_202 0 rfl ?_
              refine rx_iconst C dX9_readsPerson_204 (0 : Int32) (by decide) ?_
              refine rx_iload C dX9_readsPerson_205 0 rfl ?_
              replace hF := rx_biE hF; obtain ⟨y35, e_y35, hF⟩ := hF
              refine rx_cv (rx_rV C (w_X9_laysRoyal e_y35 b_m) Y_X9_laysRoyal V_X9_laysRoyal m_X9_98 (Or.inl ⟨_, _, _, _, b_m.1, rfl⟩) ⟨⟨rfl, rfl⟩, ⟨(Nat.le_of_ble_eq_true rfl), (Nat.le_of_ble_eq_true rfl)⟩, ⟨(Nat.le_of_ble_eq_true rfl), (Nat.le_of_ble_eq_true rfl)⟩⟩ rfl rfl (Nat.le_of_ble_eq_true rfl) dX9_readsPerson_207) (fun hh n1 hpp => ?_)
              obtain ⟨hn, c_m, ff⟩ := hpp
              replace hn : n = n1 := Eq.symm hn
              subst hn
              replace b_m : bM k m y35 hh := c_m
              clear c_m
              replace ff : rx_fr [(m, 9)] _ hh := ff
              replace fr := rx_frt fr ff (fun a ha => ⟨ha.1, trivial⟩)
              obtain rfl := Option.some.inj hF
              exact rx_vret C dX9_readsPerson_210 (Nat.le_refl _) (Nat.le_refl _) ⟨rfl, b_m, fr⟩
            · rw [if_neg c20] at hF
              obtain rfl := Option.some.inj hF
              exact rx_vret C dX9_readsPerson_115 (Nat.le_refl _) (Nat.le_refl _) ⟨rfl, b_m, fr⟩
          replace hF := e_zj14
          clear e_zj14
          refine rx_if_ne C dX9_readsPerson_70 77 (by decide) (fun c36 => ?_) (fun c36 => ?_)
          · rw [if_neg c36] at hF
            obtain rfl := Option.some.inj hF
            refine rx_sub [0, 1, 2] rfl ?_
            exact KJ15 _ b_m fr
          · rw [if_pos c36] at hF
            refine rx_aload_n C dX9_readsPerson_73 0 rfl ?_
            replace hF := rx_biE hF; obtain ⟨y37, e_y37, hF⟩ := hF
            refine rx_cv (rx_rV C (w_X9_next e_y37 b_m) Y_X9_next V_X9_next m_X9_190 (Or.inl ⟨_, _, _, _, b_m.1, rfl⟩) ⟨⟨rfl, rfl⟩, ⟨(Nat.le_of_ble_eq_true rfl), (Nat.le_of_ble_eq_true rfl)⟩, ⟨(Nat.le_of_ble_eq_true rfl), (Nat.le_of_ble_eq_true rfl)⟩⟩ rfl rfl (Nat.le_of_ble_eq_true rfl) dX9_readsPerson_74) (fun hh n1 hpp => ?_)
            obtain ⟨hn, c_m, ff⟩ := hpp
            replace hn : n = n1 := Eq.symm hn
            subst hn
            replace b_m : bM k m y37 hh := c_m
            clear c_m
            replace ff : rx_fr [(m, 9)] _ hh := ff
            replace fr := rx_frt fr ff (fun a ha => ⟨ha.1, trivial⟩)
            obtain rfl := Option.some.inj hF
            refine rx_sub [0, 1, 2] rfl ?_
            exact KJ15 _ b_m fr
        replace hF := e_zj12
        clear e_zj12
        refine rx_icmp_ne C dX9_readsPerson_58 66 (by decide) (fun c38 => ?_) (fun c38 => ?_)
        · rw [if_neg c38] at hF
          obtain rfl := Option.some.inj hF
          refine rx_sub [2, 1, 0] rfl ?_
          exact KJ13 _ b_m fr
        · rw [if_pos c38] at hF
          refine rx_aload_n C dX9_readsPerson_61 2 rfl ?_
          refine rx_iconst C dX9_readsPerson_62 (1 : Int32) (by decide) ?_
          replace hF := rx_biE hF; obtain ⟨y39, e_y39, hF⟩ := hF
          refine rx_cv (rx_rV C (w_X9_errs e_y39 b_m) Y_X9_errs V_X9_errs m_X9_197 (Or.inl ⟨_, _, _, _, b_m.1, rfl⟩) ⟨⟨rfl, rfl⟩, ⟨(Nat.le_of_ble_eq_true rfl), (Nat.le_of_ble_eq_true rfl)⟩, ⟨(Nat.le_of_ble_eq_true rfl), (Nat.le_of_ble_eq_true rfl)⟩⟩ rfl rfl (Nat.le_of_ble_eq_true rfl) dX9_readsPerson_63) (fun hh n1 hpp => ?_)
          obtain ⟨hn, c_m, ff⟩ := hpp
          replace hn : n = n1 := Eq.symm hn
          subst hn
          replace b_m : bM k m y39 hh := c_m
          clear c_m
          replace ff : rx_fr [(m, 9)] _ hh := ff
          replace fr := rx_frt fr ff (fun a ha => ⟨ha.1, trivial⟩)
          obtain rfl := Option.some.inj hF
          refine rx_sub [2, 1, 0] rfl ?_
          exact KJ13 _ b_m fr
      · rw [if_neg c7] at hF
        obtain rfl := Option.some.inj hF
        exact rx_vret C dX9_readsPerson_36 (Nat.le_refl _) (Nat.le_refl _) ⟨rfl, b_m, fr⟩
    replace hF := e_zj5
    clear e_zj5
    refine rx_icmp_ne C dX9_readsPerson_21 29 (by decide) (fun c40 => ?_) (fun c40 => ?_)
    · rw [if_neg c40] at hF
      obtain rfl := Option.some.inj hF
      refine rx_sub [0] rfl ?_
      exact KJ6 _ b_m fr
    · rw [if_pos c40] at hF
      refine rx_aload_n C dX9_readsPerson_24 0 rfl ?_
      refine rx_iconst C dX9_readsPerson_25 (3 : Int32) (by decide) ?_
      replace hF := rx_biE hF; obtain ⟨y41, e_y41, hF⟩ := hF
      refine rx_cv (rx_rV C (w_X9_errs e_y41 b_m) Y_X9_errs V_X9_errs m_X9_197 (Or.inl ⟨_, _, _, _, b_m.1, rfl⟩) ⟨⟨rfl, rfl⟩, ⟨(Nat.le_of_ble_eq_true rfl), (Nat.le_of_ble_eq_true rfl)⟩, ⟨(Nat.le_of_ble_eq_true rfl), (Nat.le_of_ble_eq_true rfl)⟩⟩ rfl rfl (Nat.le_of_ble_eq_true rfl) dX9_readsPerson_26) (fun hh n1 hpp => ?_)
      obtain ⟨hn, c_m, ff⟩ := hpp
      replace hn : n = n1 := Eq.symm hn
      subst hn
      replace b_m : bM k m y41 hh := c_m
      clear c_m
      replace ff : rx_fr [(m, 9)] _ hh := ff
      replace fr := rx_frt fr ff (fun a ha => ⟨ha.1, trivial⟩)
      obtain rfl := Option.some.inj hF
      refine rx_sub [0] rfl ?_
      exact KJ6 _ b_m fr
  replace hF := e_zj2
  clear e_zj2
  refine rx_if_ne C dX9_readsPerson_4 12 (by decide) (fun c42 => ?_) (fun c42 => ?_)
  · rw [if_neg c42] at hF
    obtain rfl := Option.some.inj hF
    refine rx_sub [0] rfl ?_
    exact KJ3 _ b_m fr
  · rw [if_pos c42] at hF
    refine rx_aload_n C dX9_readsPerson_7 0 rfl ?_
    refine rx_iconst C dX9_readsPerson_8 (1 : Int32) (by decide) ?_
    replace hF := rx_biE hF; obtain ⟨y43, e_y43, hF⟩ := hF
    refine rx_cv (rx_rV C (w_X9_errs e_y43 b_m) Y_X9_errs V_X9_errs m_X9_197 (Or.inl ⟨_, _, _, _, b_m.1, rfl⟩) ⟨⟨rfl, rfl⟩, ⟨(Nat.le_of_ble_eq_true rfl), (Nat.le_of_ble_eq_true rfl)⟩, ⟨(Nat.le_of_ble_eq_true rfl), (Nat.le_of_ble_eq_true rfl)⟩⟩ rfl rfl (Nat.le_of_ble_eq_true rfl) dX9_readsPerson_9) (fun hh n1 hpp => ?_)
    obtain ⟨hn, c_m, ff⟩ := hpp
    replace hn : n = n1 := Eq.symm hn
    subst hn
    replace b_m : bM k m y43 hh := c_m
    clear c_m
    replace ff : rx_fr [(m, 9)] _ hh := ff
    replace fr := rx_frt fr ff (fun a ha => ⟨ha.1, trivial⟩)
    obtain rfl := Option.some.inj hF
    refine rx_sub [0] rfl ?_
    exact KJ3 _ b_m fr
def F_X9_readsBridge (om : ob) : Option (ob) := (F_X9_isWord om 6).bind fun y1 => (if y1 = (0 : Int32) then ((F_X9_errs om ((1 : Int32))).bind fun y28 => some y28) else (some om)).bind fun zj2 => (rx_ald 144 (zj2.2 1) ((9 : Int32))).bind fun v4 => (if v4 = (4 : Int32) then ((F_X9_errs zj2 ((3 : Int32))).bind fun y26 => some y26) else (some zj2)).bind fun zj5 => if (zj5.1 15) = (0 : Int32) then ((F_X9_next zj5).bind fun y8 => (F_X9_number0 y8 ((1 : Int32)) ((9 : Int32))).bind fun y9 => (F_X9_number0 y9.2 ((0 : Int32)) ((y9.1 - (1 : Int32)))).bind fun y10 => (F_X9_number0 y10.2 ((1 : Int32)) ((3 : Int32))).bind fun y11 => (F_X9_semicolon y11.2).bind fun y12 => if (y12.1 15) = (0 : Int32) then ((rx_ald 144 (y12.2 1) ((9 : Int32))).bind fun v14 => rx_le (((132 : Int32) + ((3 : Int32) * v14))) fun v15 => (rx_ald 144 (y12.2 1) ((9 : Int32))).bind fun v16 => (rx_ast 144 (y12.2 1) ((9 : Int32)) ((v16 + (1 : Int32)))).bind fun f17 => rx_le (y12.1, va_up y12.2 1 f17) fun o_m_18 => (rx_ast 144 (o_m_18.2 1) ((v15 + (0 : Int32))) y9.1).bind fun f19 => rx_le (o_m_18.1, va_up o_m_18.2 1 f19) fun o_m_20 => (rx_ast 144 (o_m_20.2 1) ((v15 + (1 : Int32))) y10.1).bind fun f21 => rx_le (o_m_20.1, va_up o_m_20.2 1 f21) fun o_m_22 => (rx_ast 144 (o_m_22.2 1) ((v15 + (2 : Int32))) y11.1).bind fun f23 => rx_le (o_m_22.1, va_up o_m_22.2 1 f23) fun o_m_24 => some o_m_24) else (some y12)) else (some zj5)
set_option maxRecDepth 100000 in
set_option maxHeartbeats 4000000 in
theorem w_X9_readsBridge {m : Nat} {om : ob} {y : ob} (hF : F_X9_readsBridge om = some y) (b_m : bM k m om h) : Met l yX9_readsBridge (rx_ws yX9_readsBridge cX9_readsBridge 5 none) (rx_rm 5 107) (va_Pc [.ref m] (rx_G G k h n)) (va_Qv (fun u => u.2 = n ∧ bM k m y u.1 ∧ rx_fr [(m, 9)] h u.1) (rx_B G k) (rx_A k)) 0 0 (rx_A k) := by
  refine rx_start [(0, .ref m)] rfl (Nat.le_of_ble_eq_true rfl) (by decide) rfl (fun P9 E9 S9 M9 A9 B9 me9 c9 C hname => ?_)
  unfold F_X9_readsBridge at hF
  have fr : rx_fr [(m, 9)] h h := rx_fr0
  refine rx_aload_n C dX9_readsBridge_0 0 rfl ?_
  refine rx_ldcS (t := 6) C (List.mem_of_getElem? (i := 23) rfl) dX9_readsBridge_1 ?_
  replace hF := rx_biE hF; obtain ⟨y1, e_y1, hF⟩ := hF
  refine rx_ci (rx_rV C (w_X9_isWord e_y1 b_m (by decide)) Y_X9_isWord V_X9_isWord m_X9_193 (Or.inl ⟨_, _, _, _, b_m.1, rfl⟩) ⟨⟨rfl, rfl⟩, ⟨(Nat.le_of_ble_eq_true rfl), (Nat.le_of_ble_eq_true rfl)⟩, ⟨(Nat.le_of_ble_eq_true rfl), (Nat.le_of_ble_eq_true rfl)⟩⟩ rfl rfl (Nat.le_of_ble_eq_true rfl) dX9_readsBridge_3) (fun r hh n1 hpp => ?_)
  obtain ⟨rfl, bo_y1, hu⟩ := hpp
  cases hu
  replace hF := rx_biE hF; obtain ⟨zj2, e_zj2, hF⟩ := hF
  have KJ3 : ∀ hh : hp, bM k m zj2 hh → rx_fr [(m, 9)] h hh → rx_W P9 l E9 (rx_rm 5 107) S9 M9 A9 B9 me9 c9 (MQ B9 (va_Qv (fun u => u.2 = n ∧ bM k m y u.1 ∧ rx_fr [(m, 9)] h u.1) (rx_B G k) (rx_A k)) A9 S9 0 0 (rx_A k)) G k 5 0 0 hh n 14 [(0, .ref m)] [] := by
    intro hh b_m fr
    refine rx_aload_n C dX9_readsBridge_14 0 rfl ?_
    refine rx_getf C f_X9_13 dX9_readsBridge_15 b_m.1 rfl ?_
    refine rx_bipush C dX9_readsBridge_18 (9 : Int32) (by decide) ?_
    replace hF := rx_biE hF; obtain ⟨v4, e_v4, hF⟩ := hF
    refine rx_aldF C dX9_readsBridge_20 b_m.2.1 e_v4 ?_
    refine rx_iconst C dX9_readsBridge_21 (4 : Int32) (by decide) ?_
    replace hF := rx_biE hF; obtain ⟨zj5, e_zj5, hF⟩ := hF
    have KJ6 : ∀ hh : hp, bM k m zj5 hh → rx_fr [(m, 9)] h hh → rx_W P9 l E9 (rx_rm 5 107) S9 M9 A9 B9 me9 c9 (MQ B9 (va_Qv (fun u => u.2 = n ∧ bM k m y u.1 ∧ rx_fr [(m, 9)] h u.1) (rx_B G k) (rx_A k)) A9 S9 0 0 (rx_A k)) G k 5 0 0 hh n 30 [(0, .ref m)] [] := by
      intro hh b_m fr
      refine rx_aload_n C dX9_readsBridge_30 0 rfl ?_
      refine rx_getf C f_X9_160 dX9_readsBridge_31 b_m.1 rfl ?_
      refine rx_if_eq C dX9_readsBridge_34 38 (by decide) (fun c7 => ?_) (fun c7 => ?_)
      · rw [if_pos c7] at hF
        refine rx_aload_n C dX9_readsBridge_38 0 rfl ?_
        replace hF := rx_biE hF; obtain ⟨y8, e_y8, hF⟩ := hF
        refine rx_cv (rx_rV C (w_X9_next e_y8 b_m) Y_X9_next V_X9_next m_X9_190 (Or.inl ⟨_, _, _, _, b_m.1, rfl⟩) ⟨⟨rfl, rfl⟩, ⟨(Nat.le_of_ble_eq_true rfl), (Nat.le_of_ble_eq_true rfl)⟩, ⟨(Nat.le_of_ble_eq_true rfl), (Nat.le_of_ble_eq_true rfl)⟩⟩ rfl rfl (Nat.le_of_ble_eq_true rfl) dX9_readsBridge_39) (fun hh n1 hpp => ?_)
        obtain ⟨hn, c_m, ff⟩ := hpp
        replace hn : n = n1 := Eq.symm hn
        subst hn
        replace b_m : bM k m y8 hh := c_m
        clear c_m
        replace ff : rx_fr [(m, 9)] _ hh := ff
        replace fr := rx_frt fr ff (fun a ha => ⟨ha.1, trivial⟩)
        refine rx_aload_n C dX9_readsBridge_42 0 rfl ?_
        refine rx_iconst C dX9_readsBridge_43 (1 : Int32) (by decide) ?_
        refine rx_bipush C dX9_readsBridge_44 (9 : Int32) (by decide) ?_
        replace hF := rx_biE hF; obtain ⟨y9, e_y9, hF⟩ := hF
        refine rx_ci (rx_rV C (w_X9_number0 e_y9 b_m) Y_X9_number0 V_X9_number0 m_X9_214 (Or.inl ⟨_, _, _, _, b_m.1, rfl⟩) ⟨⟨rfl, rfl⟩, ⟨(Nat.le_of_ble_eq_true rfl), (Nat.le_of_ble_eq_true rfl)⟩, ⟨(Nat.le_of_ble_eq_true rfl), (Nat.le_of_ble_eq_true rfl)⟩⟩ rfl rfl (Nat.le_of_ble_eq_true rfl) dX9_readsBridge_46) (fun r hh n1 hpp => ?_)
        obtain ⟨rfl, hn, c_m, ff⟩ := hpp
        replace hn : n = n1 := Eq.symm hn
        subst hn
        replace b_m : bM k m y9.2 hh := c_m
        clear c_m
        replace ff : rx_fr [(m, 9)] _ hh := ff
        replace fr := rx_frt fr ff (fun a ha => ⟨ha.1, trivial⟩)
        refine rx_istore_n C dX9_readsBridge_49 (by decide) [(1, .int y9.1), (0, .ref m)] rfl ?_
        refine rx_aload_n C dX9_readsBridge_50 1 rfl ?_
        refine rx_iconst C dX9_readsBridge_51 (0 : Int32) (by decide) ?_
        refine rx_iload_n C dX9_readsBridge_52 0 rfl ?_
        refine rx_iconst C dX9_readsBridge_53 (1 : Int32) (by decide) ?_
        refine rx_isub C dX9_readsBridge_54 ?_
        replace hF := rx_biE hF; obtain ⟨y10, e_y10, hF⟩ := hF
        refine rx_ci (rx_rV C (w_X9_number0 e_y10 b_m) Y_X9_number0 V_X9_number0 m_X9_214 (Or.inl ⟨_, _, _, _, b_m.1, rfl⟩) ⟨⟨rfl, rfl⟩, ⟨(Nat.le_of_ble_eq_true rfl), (Nat.le_of_ble_eq_true rfl)⟩, ⟨(Nat.le_of_ble_eq_true rfl), (Nat.le_of_ble_eq_true rfl)⟩⟩ rfl rfl (Nat.le_of_ble_eq_true rfl) dX9_readsBridge_55) (fun r hh n1 hpp => ?_)
        obtain ⟨rfl, hn, c_m, ff⟩ := hpp
        replace hn : n = n1 := Eq.symm hn
        subst hn
        replace b_m : bM k m y10.2 hh := c_m
        clear c_m
        replace ff : rx_fr [(m, 9)] _ hh := ff
        replace fr := rx_frt fr ff (fun a ha => ⟨ha.1, trivial⟩)
        refine rx_istore_n C dX9_readsBridge_58 (by decide) [(2, .int y10.1), (1, .int y9.1), (0, .ref m)] rfl ?_
        refine rx_aload_n C dX9_readsBridge_59 2 rfl ?_
        refine rx_iconst C dX9_readsBridge_60 (1 : Int32) (by decide) ?_
        refine rx_iconst C dX9_readsBridge_61 (3 : Int32) (by decide) ?_
        replace hF := rx_biE hF; obtain ⟨y11, e_y11, hF⟩ := hF
        refine rx_ci (rx_rV C (w_X9_number0 e_y11 b_m) Y_X9_number0 V_X9_number0 m_X9_214 (Or.inl ⟨_, _, _, _, b_m.1, rfl⟩) ⟨⟨rfl, rfl⟩, ⟨(Nat.le_of_ble_eq_true rfl), (Nat.le_of_ble_eq_true rfl)⟩, ⟨(Nat.le_of_ble_eq_true rfl), (Nat.le_of_ble_eq_true rfl)⟩⟩ rfl rfl (Nat.le_of_ble_eq_true rfl) dX9_readsBridge_62) (fun r hh n1 hpp => ?_)
        obtain ⟨rfl, hn, c_m, ff⟩ := hpp
        replace hn : n = n1 := Eq.symm hn
        subst hn
        replace b_m : bM k m y11.2 hh := c_m
        clear c_m
        replace ff : rx_fr [(m, 9)] _ hh := ff
        replace fr := rx_frt fr ff (fun a ha => ⟨ha.1, trivial⟩)
        refine rx_istore_n C dX9_readsBridge_65 (by decide) [(3, .int y11.1), (2, .int y10.1), (1, .int y9.1), (0, .ref m)] rfl ?_
        refine rx_aload_n C dX9_readsBridge_66 3 rfl ?_
        replace hF := rx_biE hF; obtain ⟨y12, e_y12, hF⟩ := hF
        refine rx_cv (rx_rV C (w_X9_semicolon e_y12 b_m) Y_X9_semicolon V_X9_semicolon m_X9_217 (Or.inl ⟨_, _, _, _, b_m.1, rfl⟩) ⟨⟨rfl, rfl⟩, ⟨(Nat.le_of_ble_eq_true rfl), (Nat.le_of_ble_eq_true rfl)⟩, ⟨(Nat.le_of_ble_eq_true rfl), (Nat.le_of_ble_eq_true rfl)⟩⟩ rfl rfl (Nat.le_of_ble_eq_true rfl) dX9_readsBridge_67) (fun hh n1 hpp => ?_)
        obtain ⟨hn, c_m, ff⟩ := hpp
        replace hn : n = n1 := Eq.symm hn
        subst hn
        replace b_m : bM k m y12 hh := c_m
        clear c_m
        replace ff : rx_fr [(m, 9)] _ hh := ff
        replace fr := rx_frt fr ff (fun a ha => ⟨ha.1, trivial⟩)
        refine rx_aload_n C dX9_readsBridge_70 3 rfl ?_
        refine rx_getf C f_X9_160 dX9_readsBridge_71 b_m.1 rfl ?_
        refine rx_if_eq C dX9_readsBridge_74 78 (by decide) (fun c13 => ?_) (fun c13 => ?_)
        · rw [if_pos c13] at hF
          refine rx_sipush C dX9_readsBridge_78 (132 : Int32) (by decide) ?_
          refine rx_iconst C dX9_readsBridge_81 (3 : Int32) (by decide) ?_
          refine rx_aload_n C dX9_readsBridge_82 3 rfl ?_
          refine rx_getf C f_X9_13 dX9_readsBridge_83 b_m.1 rfl ?_
          refine rx_bipush C dX9_readsBridge_86 (9 : Int32) (by decide) ?_
          replace hF := rx_biE hF; obtain ⟨v14, e_v14, hF⟩ := hF
          refine rx_aldF C dX9_readsBridge_88 b_m.2.1 e_v14 ?_
          refine rx_imul C dX9_readsBridge_89 ?_
          refine rx_iadd C dX9_readsBridge_90 ?_
          replace hF := rx_leE hF; obtain ⟨v15, e_v15, hF⟩ := hF
          rw [e_v15]
          refine rx_istore C dX9_readsBridge_91 (by decide) [(4, .int v15), (3, .int y11.1), (2, .int y10.1), (1, .int y9.1), (0, .ref m)] rfl ?_
          refine rx_aload_n C dX9_readsBridge_93 4 rfl ?_
          refine rx_getf C f_X9_13 dX9_readsBridge_94 b_m.1 rfl ?_
          refine rx_bipush C dX9_readsBridge_97 (9 : Int32) (by decide) ?_
          refine rx_dup2 C dX9_readsBridge_99 rfl rfl ?_
          replace hF := rx_biE hF; obtain ⟨v16, e_v16, hF⟩ := hF
          refine rx_aldF C dX9_readsBridge_100 b_m.2.1 e_v16 ?_
          refine rx_iconst C dX9_readsBridge_101 (1 : Int32) (by decide) ?_
          refine rx_iadd C dX9_readsBridge_102 ?_
          replace hF := rx_biE hF; obtain ⟨f17, e_f17, hF⟩ := hF
          replace hF := rx_leE hF; obtain ⟨o_m_18, e_o_m_18, hF⟩ := hF
          refine rx_aM1 C dX9_readsBridge_103 b_m e_f17 e_o_m_18 (fun hh c_m ff => ?_)
          replace b_m := c_m
          replace fr := rx_frt fr ff (fun a ha => ⟨ha.1, trivial⟩)
          refine rx_aload_n C dX9_readsBridge_104 4 rfl ?_
          refine rx_getf C f_X9_13 dX9_readsBridge_105 b_m.1 rfl ?_
          refine rx_iload C dX9_readsBridge_108 0 rfl ?_
          refine rx_iconst C dX9_readsBridge_110 (0 : Int32) (by decide) ?_
          refine rx_iadd C dX9_readsBridge_111 ?_
          refine rx_iload_n C dX9_readsBridge_112 3 rfl ?_
          replace hF := rx_biE hF; obtain ⟨f19, e_f19, hF⟩ := hF
          replace hF := rx_leE hF; obtain ⟨o_m_20, e_o_m_20, hF⟩ := hF
          refine rx_aM1 C dX9_readsBridge_113 b_m e_f19 e_o_m_20 (fun hh c_m ff => ?_)
          replace b_m := c_m
          replace fr := rx_frt fr ff (fun a ha => ⟨ha.1, trivial⟩)
          refine rx_aload_n C dX9_readsBridge_114 4 rfl ?_
          refine rx_getf C f_X9_13 dX9_readsBridge_115 b_m.1 rfl ?_
          refine rx_iload C dX9_readsBridge_118 0 rfl ?_
          refine rx_iconst C dX9_readsBridge_120 (1 : Int32) (by decide) ?_
          refine rx_iadd C dX9_readsBridge_121 ?_
          refine rx_iload_n C dX9_readsBridge_122 2 rfl ?_
          replace hF := rx_biE hF; obtain ⟨f21, e_f21, hF⟩ := hF
          replace hF := rx_leE hF; obtain ⟨o_m_22, e_o_m_22, hF⟩ := hF
          refine rx_aM1 C dX9_readsBridge_123 b_m e_f21 e_o_m_22 (fun hh c_m ff => ?_)
          replace b_m := c_m
          replace fr := rx_frt fr ff (fun a ha => ⟨ha.1, trivial⟩)
          refine rx_aload_n C dX9_readsBridge_124 4 rfl ?_
          refine rx_getf C f_X9_13 dX9_readsBridge_125 b_m.1 rfl ?_
          refine rx_iload C dX9_readsBridge_128 0 rfl ?_
          refine rx_iconst C dX9_readsBridge_130 (2 : Int32) (by decide) ?_
          refine rx_iadd C dX9_readsBridge_131 ?_
          refine rx_iload_n C dX9_readsBridge_132 1 rfl ?_
          replace hF := rx_biE hF; obtain ⟨f23, e_f23, hF⟩ := hF
          replace hF := rx_leE hF; obtain ⟨o_m_24, e_o_m_24, hF⟩ := hF
          refine rx_aM1 C dX9_readsBridge_133 b_m e_f23 e_o_m_24 (fun hh c_m ff => ?_)
          replace b_m := c_m
          replace fr := rx_frt fr ff (fun a ha => ⟨ha.1, trivial⟩)
          obtain rfl := Option.some.inj hF
          exact rx_vret C dX9_readsBridge_134 (Nat.le_refl _) (Nat.le_refl _) ⟨rfl, b_m, fr⟩
        · rw [if_neg c13] at hF
          obtain rfl := Option.some.inj hF
          exact rx_vret C dX9_readsBridge_77 (Nat.le_refl _) (Nat.le_refl _) ⟨rfl, b_m, fr⟩
      · rw [if_neg c7] at hF
        obtain rfl := Option.some.inj hF
        exact rx_vret C dX9_readsBridge_37 (Nat.le_refl _) (Nat.le_refl _) ⟨rfl, b_m, fr⟩
    replace hF := e_zj5
    clear e_zj5
    refine rx_icmp_ne C dX9_readsBridge_22 30 (by decide) (fun c25 => ?_) (fun c25 => ?_)
    · rw [if_neg c25] at hF
      obtain rfl := Option.some.inj hF
      refine rx_sub [0] rfl ?_
      exact KJ6 _ b_m fr
    · rw [if_pos c25] at hF
      refine rx_aload_n C dX9_readsBridge_25 0 rfl ?_
      refine rx_iconst C dX9_readsBridge_26 (3 : Int32) (by decide) ?_
      replace hF := rx_biE hF; obtain ⟨y26, e_y26, hF⟩ := hF
      refine rx_cv (rx_rV C (w_X9_errs e_y26 b_m) Y_X9_errs V_X9_errs m_X9_197 (Or.inl ⟨_, _, _, _, b_m.1, rfl⟩) ⟨⟨rfl, rfl⟩, ⟨(Nat.le_of_ble_eq_true rfl), (Nat.le_of_ble_eq_true rfl)⟩, ⟨(Nat.le_of_ble_eq_true rfl), (Nat.le_of_ble_eq_true rfl)⟩⟩ rfl rfl (Nat.le_of_ble_eq_true rfl) dX9_readsBridge_27) (fun hh n1 hpp => ?_)
      obtain ⟨hn, c_m, ff⟩ := hpp
      replace hn : n = n1 := Eq.symm hn
      subst hn
      replace b_m : bM k m y26 hh := c_m
      clear c_m
      replace ff : rx_fr [(m, 9)] _ hh := ff
      replace fr := rx_frt fr ff (fun a ha => ⟨ha.1, trivial⟩)
      obtain rfl := Option.some.inj hF
      refine rx_sub [0] rfl ?_
      exact KJ6 _ b_m fr
  replace hF := e_zj2
  clear e_zj2
  refine rx_if_ne C dX9_readsBridge_6 14 (by decide) (fun c27 => ?_) (fun c27 => ?_)
  · rw [if_neg c27] at hF
    obtain rfl := Option.some.inj hF
    refine rx_sub [0] rfl ?_
    exact KJ3 _ b_m fr
  · rw [if_pos c27] at hF
    refine rx_aload_n C dX9_readsBridge_9 0 rfl ?_
    refine rx_iconst C dX9_readsBridge_10 (1 : Int32) (by decide) ?_
    replace hF := rx_biE hF; obtain ⟨y28, e_y28, hF⟩ := hF
    refine rx_cv (rx_rV C (w_X9_errs e_y28 b_m) Y_X9_errs V_X9_errs m_X9_197 (Or.inl ⟨_, _, _, _, b_m.1, rfl⟩) ⟨⟨rfl, rfl⟩, ⟨(Nat.le_of_ble_eq_true rfl), (Nat.le_of_ble_eq_true rfl)⟩, ⟨(Nat.le_of_ble_eq_true rfl), (Nat.le_of_ble_eq_true rfl)⟩⟩ rfl rfl (Nat.le_of_ble_eq_true rfl) dX9_readsBridge_11) (fun hh n1 hpp => ?_)
    obtain ⟨hn, c_m, ff⟩ := hpp
    replace hn : n = n1 := Eq.symm hn
    subst hn
    replace b_m : bM k m y28 hh := c_m
    clear c_m
    replace ff : rx_fr [(m, 9)] _ hh := ff
    replace fr := rx_frt fr ff (fun a ha => ⟨ha.1, trivial⟩)
    obtain rfl := Option.some.inj hF
    refine rx_sub [0] rfl ?_
    exact KJ3 _ b_m fr
def F_X9_readsText_54 (v8 : Int32) (v9 : Int32) (v10 : Int32) (v11 : Int32) : Nat → ob → Int32 → Option (Int32 × ob)
  | 0, _, _ => none
  | fu + 1, om, x5 => if (144 : Int32) ≤ x5 then (some (x5, om)) else ((rx_ast 144 (om.2 1) x5 ((0 : Int32))).bind fun f15 => rx_le (om.1, va_up om.2 1 f15) fun o_m_16 => F_X9_readsText_54 v8 v9 v10 v11 fu o_m_16 ((x5 + 1)))
def F_X9_readsText_105 (v8 : Int32) (v9 : Int32) (v10 : Int32) (v11 : Int32) (v26 : Int32) : Nat → ob → Option (ob)
  | 0, _ => none
  | fu + 1, om => if (om.1 15) = (0 : Int32) then ((rx_ald 144 (om.2 1) ((8 : Int32))).bind fun v30 => if v30 < (3 : Int32) then ((F_X9_readsPerson om).bind fun y32 => F_X9_readsText_105 v8 v9 v10 v11 v26 fu y32) else ((F_X9_isPersonHere om).bind fun y33 => if y33 = (0 : Int32) then (some om) else ((F_X9_readsPerson om).bind fun y35 => F_X9_readsText_105 v8 v9 v10 v11 v26 fu y35))) else (some om)
def F_X9_readsText_137 (v8 : Int32) (v9 : Int32) (v10 : Int32) (v11 : Int32) (v26 : Int32) : Nat → ob → Option (ob)
  | 0, _ => none
  | fu + 1, om => if (om.1 15) = (0 : Int32) then ((rx_ald 144 (om.2 1) ((9 : Int32))).bind fun v40 => if v40 < (1 : Int32) then ((F_X9_readsBridge om).bind fun y42 => F_X9_readsText_137 v8 v9 v10 v11 v26 fu y42) else (if (om.1 13) = (0 : Int32) then (some om) else ((F_X9_readsBridge om).bind fun y44 => F_X9_readsText_137 v8 v9 v10 v11 v26 fu y44))) else (some om)
def F_X9_readsText (om : ob) : Option (ob) := (F_X9_mustWord om 1).bind fun y1 => (F_X9_number0 y1 ((0 : Int32)) ((90 : Int32))).bind fun y2 => (F_X9_number0 y2.2 ((0 : Int32)) ((9 : Int32))).bind fun y3 => (F_X9_number0 y3.2 ((0 : Int32)) ((99 : Int32))).bind fun y4 => (F_X9_number0 y4.2 ((0 : Int32)) ((99 : Int32))).bind fun y5 => (F_X9_semicolon y5.2).bind fun y6 => if (y6.1 15) = (0 : Int32) then (rx_le y2.1 fun v8 => rx_le y3.1 fun v9 => rx_le y4.1 fun v10 => rx_le y5.1 fun v11 => (F_X9_readsText_54 v8 v9 v10 v11 100000 y6 ((0 : Int32))).bind fun zl17 => (rx_ast 144 (zl17.2.2 1) ((1 : Int32)) v8).bind fun f18 => rx_le (zl17.2.1, va_up zl17.2.2 1 f18) fun o_m_19 => (rx_ast 144 (o_m_19.2 1) ((2 : Int32)) v9).bind fun f20 => rx_le (o_m_19.1, va_up o_m_19.2 1 f20) fun o_m_21 => (rx_ast 144 (o_m_21.2 1) ((3 : Int32)) v10).bind fun f22 => rx_le (o_m_21.1, va_up o_m_21.2 1 f22) fun o_m_23 => (rx_ast 144 (o_m_23.2 1) ((4 : Int32)) v11).bind fun f24 => rx_le (o_m_23.1, va_up o_m_23.2 1 f24) fun o_m_25 => rx_le zl17.1 fun v26 => (F_X9_readsText_105 v8 v9 v10 v11 v26 100000 o_m_25).bind fun zl36 => (F_X9_readsText_137 v8 v9 v10 v11 v26 100000 zl36).bind fun zl45 => some zl45) else (some y6)
set_option maxRecDepth 100000 in
set_option maxHeartbeats 4000000 in
theorem w_X9_readsText {m : Nat} {om : ob} {y : ob} (hF : F_X9_readsText om = some y) (b_m : bM k m om h) : Met l yX9_readsText (rx_ws yX9_readsText cX9_readsText 6 none) (rx_rm 7 153) (va_Pc [.ref m] (rx_G G k h n)) (va_Qv (fun u => u.2 = n ∧ bM k m y u.1 ∧ rx_fr [(m, 9)] h u.1) (rx_B G k) (rx_A k)) 0 0 (rx_A k) := by
  refine rx_start [(0, .ref m)] rfl (Nat.le_of_ble_eq_true rfl) (by decide) rfl (fun P9 E9 S9 M9 A9 B9 me9 c9 C hname => ?_)
  unfold F_X9_readsText at hF
  have fr : rx_fr [(m, 9)] h h := rx_fr0
  refine rx_aload_n C dX9_readsText_0 0 rfl ?_
  refine rx_ldcS (t := 1) C (List.mem_of_getElem? (i := 18) rfl) dX9_readsText_1 ?_
  replace hF := rx_biE hF; obtain ⟨y1, e_y1, hF⟩ := hF
  refine rx_cv (rx_rV C (w_X9_mustWord e_y1 b_m (by decide)) Y_X9_mustWord V_X9_mustWord m_X9_210 (Or.inl ⟨_, _, _, _, b_m.1, rfl⟩) ⟨⟨rfl, rfl⟩, ⟨(Nat.le_of_ble_eq_true rfl), (Nat.le_of_ble_eq_true rfl)⟩, ⟨(Nat.le_of_ble_eq_true rfl), (Nat.le_of_ble_eq_true rfl)⟩⟩ rfl rfl (Nat.le_of_ble_eq_true rfl) dX9_readsText_3) (fun hh n1 hpp => ?_)
  obtain ⟨hn, c_m, ff⟩ := hpp
  replace hn : n = n1 := Eq.symm hn
  subst hn
  replace b_m : bM k m y1 hh := c_m
  clear c_m
  replace ff : rx_fr [(m, 9)] _ hh := ff
  replace fr := rx_frt fr ff (fun a ha => ⟨ha.1, trivial⟩)
  refine rx_aload_n C dX9_readsText_6 0 rfl ?_
  refine rx_iconst C dX9_readsText_7 (0 : Int32) (by decide) ?_
  refine rx_bipush C dX9_readsText_8 (90 : Int32) (by decide) ?_
  replace hF := rx_biE hF; obtain ⟨y2, e_y2, hF⟩ := hF
  refine rx_ci (rx_rV C (w_X9_number0 e_y2 b_m) Y_X9_number0 V_X9_number0 m_X9_214 (Or.inl ⟨_, _, _, _, b_m.1, rfl⟩) ⟨⟨rfl, rfl⟩, ⟨(Nat.le_of_ble_eq_true rfl), (Nat.le_of_ble_eq_true rfl)⟩, ⟨(Nat.le_of_ble_eq_true rfl), (Nat.le_of_ble_eq_true rfl)⟩⟩ rfl rfl (Nat.le_of_ble_eq_true rfl) dX9_readsText_10) (fun r hh n1 hpp => ?_)
  obtain ⟨rfl, hn, c_m, ff⟩ := hpp
  replace hn : n = n1 := Eq.symm hn
  subst hn
  replace b_m : bM k m y2.2 hh := c_m
  clear c_m
  replace ff : rx_fr [(m, 9)] _ hh := ff
  replace fr := rx_frt fr ff (fun a ha => ⟨ha.1, trivial⟩)
  refine rx_istore_n C dX9_readsText_13 (by decide) [(1, .int y2.1), (0, .ref m)] rfl ?_
  refine rx_aload_n C dX9_readsText_14 1 rfl ?_
  refine rx_iconst C dX9_readsText_15 (0 : Int32) (by decide) ?_
  refine rx_bipush C dX9_readsText_16 (9 : Int32) (by decide) ?_
  replace hF := rx_biE hF; obtain ⟨y3, e_y3, hF⟩ := hF
  refine rx_ci (rx_rV C (w_X9_number0 e_y3 b_m) Y_X9_number0 V_X9_number0 m_X9_214 (Or.inl ⟨_, _, _, _, b_m.1, rfl⟩) ⟨⟨rfl, rfl⟩, ⟨(Nat.le_of_ble_eq_true rfl), (Nat.le_of_ble_eq_true rfl)⟩, ⟨(Nat.le_of_ble_eq_true rfl), (Nat.le_of_ble_eq_true rfl)⟩⟩ rfl rfl (Nat.le_of_ble_eq_true rfl) dX9_readsText_18) (fun r hh n1 hpp => ?_)
  obtain ⟨rfl, hn, c_m, ff⟩ := hpp
  replace hn : n = n1 := Eq.symm hn
  subst hn
  replace b_m : bM k m y3.2 hh := c_m
  clear c_m
  replace ff : rx_fr [(m, 9)] _ hh := ff
  replace fr := rx_frt fr ff (fun a ha => ⟨ha.1, trivial⟩)
  refine rx_istore_n C dX9_readsText_21 (by decide) [(2, .int y3.1), (1, .int y2.1), (0, .ref m)] rfl ?_
  refine rx_aload_n C dX9_readsText_22 2 rfl ?_
  refine rx_iconst C dX9_readsText_23 (0 : Int32) (by decide) ?_
  refine rx_bipush C dX9_readsText_24 (99 : Int32) (by decide) ?_
  replace hF := rx_biE hF; obtain ⟨y4, e_y4, hF⟩ := hF
  refine rx_ci (rx_rV C (w_X9_number0 e_y4 b_m) Y_X9_number0 V_X9_number0 m_X9_214 (Or.inl ⟨_, _, _, _, b_m.1, rfl⟩) ⟨⟨rfl, rfl⟩, ⟨(Nat.le_of_ble_eq_true rfl), (Nat.le_of_ble_eq_true rfl)⟩, ⟨(Nat.le_of_ble_eq_true rfl), (Nat.le_of_ble_eq_true rfl)⟩⟩ rfl rfl (Nat.le_of_ble_eq_true rfl) dX9_readsText_26) (fun r hh n1 hpp => ?_)
  obtain ⟨rfl, hn, c_m, ff⟩ := hpp
  replace hn : n = n1 := Eq.symm hn
  subst hn
  replace b_m : bM k m y4.2 hh := c_m
  clear c_m
  replace ff : rx_fr [(m, 9)] _ hh := ff
  replace fr := rx_frt fr ff (fun a ha => ⟨ha.1, trivial⟩)
  refine rx_istore_n C dX9_readsText_29 (by decide) [(3, .int y4.1), (2, .int y3.1), (1, .int y2.1), (0, .ref m)] rfl ?_
  refine rx_aload_n C dX9_readsText_30 3 rfl ?_
  refine rx_iconst C dX9_readsText_31 (0 : Int32) (by decide) ?_
  refine rx_bipush C dX9_readsText_32 (99 : Int32) (by decide) ?_
  replace hF := rx_biE hF; obtain ⟨y5, e_y5, hF⟩ := hF
  refine rx_ci (rx_rV C (w_X9_number0 e_y5 b_m) Y_X9_number0 V_X9_number0 m_X9_214 (Or.inl ⟨_, _, _, _, b_m.1, rfl⟩) ⟨⟨rfl, rfl⟩, ⟨(Nat.le_of_ble_eq_true rfl), (Nat.le_of_ble_eq_true rfl)⟩, ⟨(Nat.le_of_ble_eq_true rfl), (Nat.le_of_ble_eq_true rfl)⟩⟩ rfl rfl (Nat.le_of_ble_eq_true rfl) dX9_readsText_34) (fun r hh n1 hpp => ?_)
  obtain ⟨rfl, hn, c_m, ff⟩ := hpp
  replace hn : n = n1 := Eq.symm hn
  subst hn
  replace b_m : bM k m y5.2 hh := c_m
  clear c_m
  replace ff : rx_fr [(m, 9)] _ hh := ff
  replace fr := rx_frt fr ff (fun a ha => ⟨ha.1, trivial⟩)
  refine rx_istore C dX9_readsText_37 (by decide) [(4, .int y5.1), (3, .int y4.1), (2, .int y3.1), (1, .int y2.1), (0, .ref m)] rfl ?_
  refine rx_aload_n C dX9_readsText_39 4 rfl ?_
  replace hF := rx_biE hF; obtain ⟨y6, e_y6, hF⟩ := hF
  refine rx_cv (rx_rV C (w_X9_semicolon e_y6 b_m) Y_X9_semicolon V_X9_semicolon m_X9_217 (Or.inl ⟨_, _, _, _, b_m.1, rfl⟩) ⟨⟨rfl, rfl⟩, ⟨(Nat.le_of_ble_eq_true rfl), (Nat.le_of_ble_eq_true rfl)⟩, ⟨(Nat.le_of_ble_eq_true rfl), (Nat.le_of_ble_eq_true rfl)⟩⟩ rfl rfl (Nat.le_of_ble_eq_true rfl) dX9_readsText_40) (fun hh n1 hpp => ?_)
  obtain ⟨hn, c_m, ff⟩ := hpp
  replace hn : n = n1 := Eq.symm hn
  subst hn
  replace b_m : bM k m y6 hh := c_m
  clear c_m
  replace ff : rx_fr [(m, 9)] _ hh := ff
  replace fr := rx_frt fr ff (fun a ha => ⟨ha.1, trivial⟩)
  refine rx_aload_n C dX9_readsText_43 4 rfl ?_
  refine rx_getf C f_X9_160 dX9_readsText_44 b_m.1 rfl ?_
  refine rx_if_eq C dX9_readsText_47 51 (by decide) (fun c7 => ?_) (fun c7 => ?_)
  · rw [if_pos c7] at hF
    refine rx_iconst C dX9_readsText_51 (0 : Int32) (by decide) ?_
    refine rx_istore C dX9_readsText_52 (by decide) [(5, .int ((0 : Int32))), (4, .int y5.1), (3, .int y4.1), (2, .int y3.1), (1, .int y2.1), (0, .ref m)] rfl ?_
    replace hF := rx_leE hF; obtain ⟨v8, e_v8, hF⟩ := hF
    rw [e_v8]
    replace hF := rx_leE hF; obtain ⟨v9, e_v9, hF⟩ := hF
    rw [e_v9]
    replace hF := rx_leE hF; obtain ⟨v10, e_v10, hF⟩ := hF
    rw [e_v10]
    replace hF := rx_leE hF; obtain ⟨v11, e_v11, hF⟩ := hF
    rw [e_v11]
    have loop13 : ∀ (fu : Nat) (zz : Int32 × ob) (om : ob) (x5 : Int32) (hh : hp), F_X9_readsText_54 v8 v9 v10 v11 fu om x5 = some zz → bM k m om hh → rx_fr [(m, 9)] h hh → (∀ hh : hp, bM k m zz.2 hh → rx_fr [(m, 9)] h hh → rx_W P9 l E9 (rx_rm 7 153) S9 M9 A9 B9 me9 c9 (MQ B9 (va_Qv (fun u => u.2 = n ∧ bM k m y u.1 ∧ rx_fr [(m, 9)] h u.1) (rx_B G k) (rx_A k)) A9 S9 0 0 (rx_A k)) G k 6 0 0 hh n 76 [(0, .ref m), (1, .int v8), (2, .int v9), (3, .int v10), (4, .int v11), (5, .int zz.1)] []) → rx_W P9 l E9 (rx_rm 7 153) S9 M9 A9 B9 me9 c9 (MQ B9 (va_Qv (fun u => u.2 = n ∧ bM k m y u.1 ∧ rx_fr [(m, 9)] h u.1) (rx_B G k) (rx_A k)) A9 S9 0 0 (rx_A k)) G k 6 0 0 hh n 54 [(0, .ref m), (1, .int v8), (2, .int v9), (3, .int v10), (4, .int v11), (5, .int x5)] [] := by
      intro fu
      induction fu with
      | zero => intro zz om x5 hh hF b_m fr KK; exact absurd hF (by simp [F_X9_readsText_54])
      | succ fu ih_loop13 =>
        intro zz om x5 hh hF b_m fr KK
        unfold F_X9_readsText_54 at hF
        refine rx_iload C dX9_readsText_54 5 rfl ?_
        refine rx_sipush C dX9_readsText_56 (144 : Int32) (by decide) ?_
        refine rx_icmp_ge C dX9_readsText_59 76 (by decide) (fun c14 => ?_) (fun c14 => ?_)
        · rw [if_pos c14] at hF
          obtain rfl := Option.some.inj hF
          refine rx_sub [0, 1, 2, 3, 4, 5] rfl ?_
          exact KK _ b_m fr
        · rw [if_neg c14] at hF
          refine rx_aload_n C dX9_readsText_62 0 rfl ?_
          refine rx_getf C f_X9_13 dX9_readsText_63 b_m.1 rfl ?_
          refine rx_iload C dX9_readsText_66 5 rfl ?_
          refine rx_iconst C dX9_readsText_68 (0 : Int32) (by decide) ?_
          replace hF := rx_biE hF; obtain ⟨f15, e_f15, hF⟩ := hF
          replace hF := rx_leE hF; obtain ⟨o_m_16, e_o_m_16, hF⟩ := hF
          refine rx_aM1 C dX9_readsText_69 b_m e_f15 e_o_m_16 (fun hh c_m ff => ?_)
          replace b_m := c_m
          replace fr := rx_frt fr ff (fun a ha => ⟨ha.1, trivial⟩)
          refine rx_iinc C dX9_readsText_70 5 rfl (x5 + 1) rfl (by decide) [(5, .int ((x5 + 1))), (0, .ref m), (1, .int v8), (2, .int v9), (3, .int v10), (4, .int v11)] rfl ?_
          refine rx_goto C dX9_readsText_73 54 (by decide) ?_
          refine rx_sub [1, 2, 3, 4, 5, 0] rfl ?_
          exact ih_loop13 _ _ _ _ hF b_m fr KK
    refine rx_sub [5, 4, 3, 2, 1, 0] rfl ?_
    replace hF := rx_biE hF; obtain ⟨zl17, e_zl17, hF⟩ := hF
    refine loop13 _ zl17 _ _ _ e_zl17 b_m fr (fun hh b_m fr => ?_)
    refine rx_aload_n C dX9_readsText_76 0 rfl ?_
    refine rx_getf C f_X9_13 dX9_readsText_77 b_m.1 rfl ?_
    refine rx_iconst C dX9_readsText_80 (1 : Int32) (by decide) ?_
    refine rx_iload_n C dX9_readsText_81 1 rfl ?_
    replace hF := rx_biE hF; obtain ⟨f18, e_f18, hF⟩ := hF
    replace hF := rx_leE hF; obtain ⟨o_m_19, e_o_m_19, hF⟩ := hF
    refine rx_aM1 C dX9_readsText_82 b_m e_f18 e_o_m_19 (fun hh c_m ff => ?_)
    replace b_m := c_m
    replace fr := rx_frt fr ff (fun a ha => ⟨ha.1, trivial⟩)
    refine rx_aload_n C dX9_readsText_83 0 rfl ?_
    refine rx_getf C f_X9_13 dX9_readsText_84 b_m.1 rfl ?_
    refine rx_iconst C dX9_readsText_87 (2 : Int32) (by decide) ?_
    refine rx_iload_n C dX9_readsText_88 2 rfl ?_
    replace hF := rx_biE hF; obtain ⟨f20, e_f20, hF⟩ := hF
    replace hF := rx_leE hF; obtain ⟨o_m_21, e_o_m_21, hF⟩ := hF
    refine rx_aM1 C dX9_readsText_89 b_m e_f20 e_o_m_21 (fun hh c_m ff => ?_)
    replace b_m := c_m
    replace fr := rx_frt fr ff (fun a ha => ⟨ha.1, trivial⟩)
    refine rx_aload_n C dX9_readsText_90 0 rfl ?_
    refine rx_getf C f_X9_13 dX9_readsText_91 b_m.1 rfl ?_
    refine rx_iconst C dX9_readsText_94 (3 : Int32) (by decide) ?_
    refine rx_iload_n C dX9_readsText_95 3 rfl ?_
    replace hF := rx_biE hF; obtain ⟨f22, e_f22, hF⟩ := hF
    replace hF := rx_leE hF; obtain ⟨o_m_23, e_o_m_23, hF⟩ := hF
    refine rx_aM1 C dX9_readsText_96 b_m e_f22 e_o_m_23 (fun hh c_m ff => ?_)
    replace b_m := c_m
    replace fr := rx_frt fr ff (fun a ha => ⟨ha.1, trivial⟩)
    refine rx_aload_n C dX9_readsText_97 0 rfl ?_
    refine rx_getf C f_X9_13 dX9_readsText_98 b_m.1 rfl ?_
    refine rx_iconst C dX9_readsText_101 (4 : Int32) (by decide) ?_
    refine rx_iload C dX9_readsText_102 4 rfl ?_
    replace hF := rx_biE hF; obtain ⟨f24, e_f24, hF⟩ := hF
    replace hF := rx_leE hF; obtain ⟨o_m_25, e_o_m_25, hF⟩ := hF
    refine rx_aM1 C dX9_readsText_104 b_m e_f24 e_o_m_25 (fun hh c_m ff => ?_)
    replace b_m := c_m
    replace fr := rx_frt fr ff (fun a ha => ⟨ha.1, trivial⟩)
    replace hF := rx_leE hF; obtain ⟨v26, e_v26, hF⟩ := hF
    rw [e_v26]
    have loop28 : ∀ (fu : Nat) (zz : ob) (om : ob)  (hh : hp), F_X9_readsText_105 v8 v9 v10 v11 v26 fu om = some zz → bM k m om hh → rx_fr [(m, 9)] h hh → (∀ hh : hp, bM k m zz hh → rx_fr [(m, 9)] h hh → rx_W P9 l E9 (rx_rm 7 153) S9 M9 A9 B9 me9 c9 (MQ B9 (va_Qv (fun u => u.2 = n ∧ bM k m y u.1 ∧ rx_fr [(m, 9)] h u.1) (rx_B G k) (rx_A k)) A9 S9 0 0 (rx_A k)) G k 6 0 0 hh n 137 [(0, .ref m), (1, .int v8), (2, .int v9), (3, .int v10), (4, .int v11), (5, .int v26)] []) → rx_W P9 l E9 (rx_rm 7 153) S9 M9 A9 B9 me9 c9 (MQ B9 (va_Qv (fun u => u.2 = n ∧ bM k m y u.1 ∧ rx_fr [(m, 9)] h u.1) (rx_B G k) (rx_A k)) A9 S9 0 0 (rx_A k)) G k 6 0 0 hh n 105 [(0, .ref m), (1, .int v8), (2, .int v9), (3, .int v10), (4, .int v11), (5, .int v26)] [] := by
      intro fu
      induction fu with
      | zero => intro zz om hh hF b_m fr KK; exact absurd hF (by simp [F_X9_readsText_105])
      | succ fu ih_loop28 =>
        intro zz om hh hF b_m fr KK
        unfold F_X9_readsText_105 at hF
        refine rx_aload_n C dX9_readsText_105 0 rfl ?_
        refine rx_getf C f_X9_160 dX9_readsText_106 b_m.1 rfl ?_
        refine rx_if_ne C dX9_readsText_109 137 (by decide) (fun c29 => ?_) (fun c29 => ?_)
        · rw [if_neg c29] at hF
          obtain rfl := Option.some.inj hF
          refine rx_sub [0, 1, 2, 3, 4, 5] rfl ?_
          exact KK _ b_m fr
        · rw [if_pos c29] at hF
          refine rx_aload_n C dX9_readsText_112 0 rfl ?_
          refine rx_getf C f_X9_13 dX9_readsText_113 b_m.1 rfl ?_
          refine rx_bipush C dX9_readsText_116 (8 : Int32) (by decide) ?_
          replace hF := rx_biE hF; obtain ⟨v30, e_v30, hF⟩ := hF
          refine rx_aldF C dX9_readsText_118 b_m.2.1 e_v30 ?_
          refine rx_iconst C dX9_readsText_119 (3 : Int32) (by decide) ?_
          refine rx_icmp_lt C dX9_readsText_120 130 (by decide) (fun c31 => ?_) (fun c31 => ?_)
          · rw [if_pos c31] at hF
            refine rx_aload_n C dX9_readsText_130 0 rfl ?_
            replace hF := rx_biE hF; obtain ⟨y32, e_y32, hF⟩ := hF
            refine rx_cv (rx_rV C (w_X9_readsPerson e_y32 b_m) Y_X9_readsPerson V_X9_readsPerson m_X9_224 (Or.inl ⟨_, _, _, _, b_m.1, rfl⟩) ⟨⟨rfl, rfl⟩, ⟨(Nat.le_of_ble_eq_true rfl), (Nat.le_of_ble_eq_true rfl)⟩, ⟨(Nat.le_of_ble_eq_true rfl), (Nat.le_of_ble_eq_true rfl)⟩⟩ rfl rfl (Nat.le_of_ble_eq_true rfl) dX9_readsText_131) (fun hh n1 hpp => ?_)
            obtain ⟨hn, c_m, ff⟩ := hpp
            replace hn : n = n1 := Eq.symm hn
            subst hn
            replace b_m : bM k m y32 hh := c_m
            clear c_m
            replace ff : rx_fr [(m, 9)] _ hh := ff
            replace fr := rx_frt fr ff (fun a ha => ⟨ha.1, trivial⟩)
            refine rx_goto C dX9_readsText_134 105 (by decide) ?_
            refine rx_sub [0, 1, 2, 3, 4, 5] rfl ?_
            exact ih_loop28 _ _ _ hF b_m fr KK
          · rw [if_neg c31] at hF
            refine rx_aload_n C dX9_readsText_123 0 rfl ?_
            replace hF := rx_biE hF; obtain ⟨y33, e_y33, hF⟩ := hF
            refine rx_ci (rx_rV C (w_X9_isPersonHere e_y33 b_m) Y_X9_isPersonHere V_X9_isPersonHere m_X9_220 (Or.inl ⟨_, _, _, _, b_m.1, rfl⟩) ⟨⟨rfl, rfl⟩, ⟨(Nat.le_of_ble_eq_true rfl), (Nat.le_of_ble_eq_true rfl)⟩, ⟨(Nat.le_of_ble_eq_true rfl), (Nat.le_of_ble_eq_true rfl)⟩⟩ rfl rfl (Nat.le_of_ble_eq_true rfl) dX9_readsText_124) (fun r hh n1 hpp => ?_)
            obtain ⟨rfl, bo_y33, hu⟩ := hpp
            cases hu
            refine rx_if_eq C dX9_readsText_127 137 (by decide) (fun c34 => ?_) (fun c34 => ?_)
            · rw [if_pos c34] at hF
              obtain rfl := Option.some.inj hF
              refine rx_sub [0, 1, 2, 3, 4, 5] rfl ?_
              exact KK _ b_m fr
            · rw [if_neg c34] at hF
              refine rx_aload_n C dX9_readsText_130 0 rfl ?_
              replace hF := rx_biE hF; obtain ⟨y35, e_y35, hF⟩ := hF
              refine rx_cv (rx_rV C (w_X9_readsPerson e_y35 b_m) Y_X9_readsPerson V_X9_readsPerson m_X9_224 (Or.inl ⟨_, _, _, _, b_m.1, rfl⟩) ⟨⟨rfl, rfl⟩, ⟨(Nat.le_of_ble_eq_true rfl), (Nat.le_of_ble_eq_true rfl)⟩, ⟨(Nat.le_of_ble_eq_true rfl), (Nat.le_of_ble_eq_true rfl)⟩⟩ rfl rfl (Nat.le_of_ble_eq_true rfl) dX9_readsText_131) (fun hh n1 hpp => ?_)
              obtain ⟨hn, c_m, ff⟩ := hpp
              replace hn : n = n1 := Eq.symm hn
              subst hn
              replace b_m : bM k m y35 hh := c_m
              clear c_m
              replace ff : rx_fr [(m, 9)] _ hh := ff
              replace fr := rx_frt fr ff (fun a ha => ⟨ha.1, trivial⟩)
              refine rx_goto C dX9_readsText_134 105 (by decide) ?_
              refine rx_sub [0, 1, 2, 3, 4, 5] rfl ?_
              exact ih_loop28 _ _ _ hF b_m fr KK
    refine rx_sub [0, 1, 2, 3, 4, 5] rfl ?_
    replace hF := rx_biE hF; obtain ⟨zl36, e_zl36, hF⟩ := hF
    refine loop28 _ zl36 _ _ e_zl36 b_m fr (fun hh b_m fr => ?_)
    have loop38 : ∀ (fu : Nat) (zz : ob) (om : ob)  (hh : hp), F_X9_readsText_137 v8 v9 v10 v11 v26 fu om = some zz → bM k m om hh → rx_fr [(m, 9)] h hh → (∀ hh : hp, bM k m zz hh → rx_fr [(m, 9)] h hh → rx_W P9 l E9 (rx_rm 7 153) S9 M9 A9 B9 me9 c9 (MQ B9 (va_Qv (fun u => u.2 = n ∧ bM k m y u.1 ∧ rx_fr [(m, 9)] h u.1) (rx_B G k) (rx_A k)) A9 S9 0 0 (rx_A k)) G k 6 0 0 hh n 169 [(0, .ref m), (1, .int v8), (2, .int v9), (3, .int v10), (4, .int v11), (5, .int v26)] []) → rx_W P9 l E9 (rx_rm 7 153) S9 M9 A9 B9 me9 c9 (MQ B9 (va_Qv (fun u => u.2 = n ∧ bM k m y u.1 ∧ rx_fr [(m, 9)] h u.1) (rx_B G k) (rx_A k)) A9 S9 0 0 (rx_A k)) G k 6 0 0 hh n 137 [(0, .ref m), (1, .int v8), (2, .int v9), (3, .int v10), (4, .int v11), (5, .int v26)] [] := by
      intro fu
      induction fu with
      | zero => intro zz om hh hF b_m fr KK; exact absurd hF (by simp [F_X9_readsText_137])
      | succ fu ih_loop38 =>
        intro zz om hh hF b_m fr KK
        unfold F_X9_readsText_137 at hF
        refine rx_aload_n C dX9_readsText_137 0 rfl ?_
        refine rx_getf C f_X9_160 dX9_readsText_138 b_m.1 rfl ?_
        refine rx_if_ne C dX9_readsText_141 169 (by decide) (fun c39 => ?_) (fun c39 => ?_)
        · rw [if_neg c39] at hF
          obtain rfl := Option.some.inj hF
          refine rx_sub [0, 1, 2, 3, 4, 5] rfl ?_
          exact KK _ b_m fr
        · rw [if_pos c39] at hF
          refine rx_aload_n C dX9_readsText_144 0 rfl ?_
          refine rx_getf C f_X9_13 dX9_readsText_145 b_m.1 rfl ?_
          refine rx_bipush C dX9_readsText_148 (9 : Int32) (by decide) ?_
          replace hF := rx_biE hF; obtain ⟨v40, e_v40, hF⟩ := hF
          refine rx_aldF C dX9_readsText_150 b_m.2.1 e_v40 ?_
          refine rx_iconst C dX9_readsText_151 (1 : Int32) (by decide) ?_
          refine rx_icmp_lt C dX9_readsText_152 162 (by decide) (fun c41 => ?_) (fun c41 => ?_)
          · rw [if_pos c41] at hF
            refine rx_aload_n C dX9_readsText_162 0 rfl ?_
            replace hF := rx_biE hF; obtain ⟨y42, e_y42, hF⟩ := hF
            refine rx_cv (rx_rV C (w_X9_readsBridge e_y42 b_m) Y_X9_readsBridge V_X9_readsBridge m_X9_227 (Or.inl ⟨_, _, _, _, b_m.1, rfl⟩) ⟨⟨rfl, rfl⟩, ⟨(Nat.le_of_ble_eq_true rfl), (Nat.le_of_ble_eq_true rfl)⟩, ⟨(Nat.le_of_ble_eq_true rfl), (Nat.le_of_ble_eq_true rfl)⟩⟩ rfl rfl (Nat.le_of_ble_eq_true rfl) dX9_readsText_163) (fun hh n1 hpp => ?_)
            obtain ⟨hn, c_m, ff⟩ := hpp
            replace hn : n = n1 := Eq.symm hn
            subst hn
            replace b_m : bM k m y42 hh := c_m
            clear c_m
            replace ff : rx_fr [(m, 9)] _ hh := ff
            replace fr := rx_frt fr ff (fun a ha => ⟨ha.1, trivial⟩)
            refine rx_goto C dX9_readsText_166 137 (by decide) ?_
            refine rx_sub [0, 1, 2, 3, 4, 5] rfl ?_
            exact ih_loop38 _ _ _ hF b_m fr KK
          · rw [if_neg c41] at hF
            refine rx_aload_n C dX9_readsText_155 0 rfl ?_
            refine rx_getf C f_X9_178 dX9_readsText_156 b_m.1 rfl ?_
            refine rx_if_eq C dX9_readsText_159 169 (by decide) (fun c43 => ?_) (fun c43 => ?_)
            · rw [if_pos c43] at hF
              obtain rfl := Option.some.inj hF
              refine rx_sub [0, 1, 2, 3, 4, 5] rfl ?_
              exact KK _ b_m fr
            · rw [if_neg c43] at hF
              refine rx_aload_n C dX9_readsText_162 0 rfl ?_
              replace hF := rx_biE hF; obtain ⟨y44, e_y44, hF⟩ := hF
              refine rx_cv (rx_rV C (w_X9_readsBridge e_y44 b_m) Y_X9_readsBridge V_X9_readsBridge m_X9_227 (Or.inl ⟨_, _, _, _, b_m.1, rfl⟩) ⟨⟨rfl, rfl⟩, ⟨(Nat.le_of_ble_eq_true rfl), (Nat.le_of_ble_eq_true rfl)⟩, ⟨(Nat.le_of_ble_eq_true rfl), (Nat.le_of_ble_eq_true rfl)⟩⟩ rfl rfl (Nat.le_of_ble_eq_true rfl) dX9_readsText_163) (fun hh n1 hpp => ?_)
              obtain ⟨hn, c_m, ff⟩ := hpp
              replace hn : n = n1 := Eq.symm hn
              subst hn
              replace b_m : bM k m y44 hh := c_m
              clear c_m
              replace ff : rx_fr [(m, 9)] _ hh := ff
              replace fr := rx_frt fr ff (fun a ha => ⟨ha.1, trivial⟩)
              refine rx_goto C dX9_readsText_166 137 (by decide) ?_
              refine rx_sub [0, 1, 2, 3, 4, 5] rfl ?_
              exact ih_loop38 _ _ _ hF b_m fr KK
    refine rx_sub [0, 1, 2, 3, 4, 5] rfl ?_
    replace hF := rx_biE hF; obtain ⟨zl45, e_zl45, hF⟩ := hF
    refine loop38 _ zl45 _ _ e_zl45 b_m fr (fun hh b_m fr => ?_)
    obtain rfl := Option.some.inj hF
    exact rx_vret C dX9_readsText_169 (Nat.le_refl _) (Nat.le_refl _) ⟨rfl, b_m, fr⟩
  · rw [if_neg c7] at hF
    obtain rfl := Option.some.inj hF
    exact rx_vret C dX9_readsText_50 (Nat.le_refl _) (Nat.le_refl _) ⟨rfl, b_m, fr⟩
def F_X9_loadGame (om : ob) (x1 : Int32) : Option (Int32 × ob) := rx_le (upd om.1 0 ((0 : Int32)), om.2) fun o_m_1 => (F_X9_in x1 ((0 : Int32)) ((o_m_1.1 9))).bind fun y2 => (F_X9_fails o_m_1 y2 ((1 : Int32))).bind fun y3 => if y3.1 = (0 : Int32) then ((F_X9_copies_1_2 y3.2 ((0 : Int32)) ((0 : Int32)) ((144 : Int32))).bind fun y5 => (F_X9_starts y5 x1).bind fun y6 => (F_X9_readsText y6).bind fun y7 => if (y7.1 15) = (0 : Int32) then (rx_le (upd y7.1 6 ((0 : Int32)), y7.2) fun o_m_9 => rx_le (upd o_m_9.1 7 ((0 : Int32)), o_m_9.2) fun o_m_10 => (rx_ald 144 (o_m_10.2 1) ((8 : Int32))).bind fun v11 => some (v11, o_m_10)) else ((F_X9_copies_2_1 y7 ((0 : Int32)) ((0 : Int32)) ((144 : Int32))).bind fun y12 => some ((-1 : Int32), y12))) else (some ((0 : Int32), y3.2))
set_option maxRecDepth 100000 in
set_option maxHeartbeats 4000000 in
theorem w_X9_loadGame {m : Nat} {om : ob} {x1 : Int32} {y : Int32 × ob} (hF : F_X9_loadGame om x1 = some y) (b_m : bM k m om h) : Met l yX9_loadGame (rx_ws yX9_loadGame cX9_loadGame 2 (some .int)) (rx_rm 8 178) (va_Pc [.ref m, .int x1] (rx_G G k h n)) (va_Qi (fun r u => y.1 = r ∧ u.2 = n ∧ bM k m y.2 u.1 ∧ rx_fr [(m, 9)] h u.1) (rx_B G k) (rx_A k)) 0 0 (rx_A k) := by
  refine rx_start [(0, .ref m), (1, .int x1)] rfl (Nat.le_of_ble_eq_true rfl) (by decide) rfl (fun P9 E9 S9 M9 A9 B9 me9 c9 C hname => ?_)
  unfold F_X9_loadGame at hF
  have fr : rx_fr [(m, 9)] h h := rx_fr0
  refine rx_aload_n C dX9_loadGame_0 0 rfl ?_
  refine rx_iconst C dX9_loadGame_1 (0 : Int32) (by decide) ?_
  replace hF := rx_leE hF; obtain ⟨o_m_1, e_o_m_1, hF⟩ := hF
  refine rx_pM0 C f_X9_1 dX9_loadGame_2 b_m e_o_m_1 (fun hh c_m ff => ?_)
  replace b_m := c_m
  replace fr := rx_frt fr ff (fun a ha => ⟨ha.1, trivial⟩)
  refine rx_aload_n C dX9_loadGame_5 0 rfl ?_
  refine rx_iload_n C dX9_loadGame_6 1 rfl ?_
  refine rx_iconst C dX9_loadGame_7 (0 : Int32) (by decide) ?_
  refine rx_aload_n C dX9_loadGame_8 0 rfl ?_
  refine rx_getf C f_X9_53 dX9_loadGame_9 b_m.1 rfl ?_
  replace hF := rx_biE hF; obtain ⟨y2, e_y2, hF⟩ := hF
  refine rx_ci (rx_rS C (w_X9_in e_y2 ) Y_X9_in S_X9_in m_X9_200 ⟨⟨rfl, rfl⟩, ⟨(Nat.le_of_ble_eq_true rfl), (Nat.le_of_ble_eq_true rfl)⟩, ⟨(Nat.le_of_ble_eq_true rfl), (Nat.le_of_ble_eq_true rfl)⟩⟩ rfl rfl (Nat.le_of_ble_eq_true rfl) dX9_loadGame_12) (fun r hh n1 hpp => ?_)
  obtain ⟨rfl, bo_y2, hu⟩ := hpp
  cases hu
  refine rx_iconst C dX9_loadGame_15 (1 : Int32) (by decide) ?_
  replace hF := rx_biE hF; obtain ⟨y3, e_y3, hF⟩ := hF
  refine rx_ci (rx_rV C (w_X9_fails e_y3 b_m) Y_X9_fails V_X9_fails m_X9_239 (Or.inl ⟨_, _, _, _, b_m.1, rfl⟩) ⟨⟨rfl, rfl⟩, ⟨(Nat.le_of_ble_eq_true rfl), (Nat.le_of_ble_eq_true rfl)⟩, ⟨(Nat.le_of_ble_eq_true rfl), (Nat.le_of_ble_eq_true rfl)⟩⟩ rfl rfl (Nat.le_of_ble_eq_true rfl) dX9_loadGame_16) (fun r hh n1 hpp => ?_)
  obtain ⟨rfl, bo_y3, hn, c_m, ff⟩ := hpp
  replace hn : n = n1 := Eq.symm hn
  subst hn
  replace b_m : bM k m y3.2 hh := c_m
  clear c_m
  replace ff : rx_fr [(m, 9)] _ hh := ff
  replace fr := rx_frt fr ff (fun a ha => ⟨ha.1, trivial⟩)
  refine rx_if_eq C dX9_loadGame_19 24 (by decide) (fun c4 => ?_) (fun c4 => ?_)
  · rw [if_pos c4] at hF
    refine rx_aload_n C dX9_loadGame_24 0 rfl ?_
    refine rx_getf C f_X9_13 dX9_loadGame_25 b_m.1 rfl ?_
    refine rx_iconst C dX9_loadGame_28 (0 : Int32) (by decide) ?_
    refine rx_aload_n C dX9_loadGame_29 0 rfl ?_
    refine rx_getf C f_X9_17 dX9_loadGame_30 b_m.1 rfl ?_
    refine rx_iconst C dX9_loadGame_33 (0 : Int32) (by decide) ?_
    refine rx_sipush C dX9_loadGame_34 (144 : Int32) (by decide) ?_
    replace hF := rx_biE hF; obtain ⟨y5, e_y5, hF⟩ := hF
    refine rx_cv (rx_rS C (w_X9_copies_1_2 e_y5 b_m) Y_X9_copies S_X9_copies m_X9_243 ⟨⟨rfl, rfl⟩, ⟨(Nat.le_of_ble_eq_true rfl), (Nat.le_of_ble_eq_true rfl)⟩, ⟨(Nat.le_of_ble_eq_true rfl), (Nat.le_of_ble_eq_true rfl)⟩⟩ rfl rfl (Nat.le_of_ble_eq_true rfl) dX9_loadGame_37) (fun hh n1 hpp => ?_)
    obtain ⟨hn, c_m, ff⟩ := hpp
    replace hn : n = n1 := Eq.symm hn
    subst hn
    replace b_m : bM k m y5 hh := c_m
    clear c_m
    replace ff : rx_fr [(m, 9)] _ hh := ff
    replace fr := rx_frt fr ff (fun a ha => ⟨ha.1, trivial⟩)
    refine rx_aload_n C dX9_loadGame_40 0 rfl ?_
    refine rx_iload_n C dX9_loadGame_41 1 rfl ?_
    replace hF := rx_biE hF; obtain ⟨y6, e_y6, hF⟩ := hF
    refine rx_cv (rx_rV C (w_X9_starts e_y6 b_m) Y_X9_starts V_X9_starts m_X9_247 (Or.inl ⟨_, _, _, _, b_m.1, rfl⟩) ⟨⟨rfl, rfl⟩, ⟨(Nat.le_of_ble_eq_true rfl), (Nat.le_of_ble_eq_true rfl)⟩, ⟨(Nat.le_of_ble_eq_true rfl), (Nat.le_of_ble_eq_true rfl)⟩⟩ rfl rfl (Nat.le_of_ble_eq_true rfl) dX9_loadGame_42) (fun hh n1 hpp => ?_)
    obtain ⟨hn, c_m, ff⟩ := hpp
    replace hn : n = n1 := Eq.symm hn
    subst hn
    replace b_m : bM k m y6 hh := c_m
    clear c_m
    replace ff : rx_fr [(m, 9)] _ hh := ff
    replace fr := rx_frt fr ff (fun a ha => ⟨ha.1, trivial⟩)
    refine rx_aload_n C dX9_loadGame_45 0 rfl ?_
    replace hF := rx_biE hF; obtain ⟨y7, e_y7, hF⟩ := hF
    refine rx_cv (rx_rV C (w_X9_readsText e_y7 b_m) Y_X9_readsText V_X9_readsText m_X9_250 (Or.inl ⟨_, _, _, _, b_m.1, rfl⟩) ⟨⟨rfl, rfl⟩, ⟨(Nat.le_of_ble_eq_true rfl), (Nat.le_of_ble_eq_true rfl)⟩, ⟨(Nat.le_of_ble_eq_true rfl), (Nat.le_of_ble_eq_true rfl)⟩⟩ rfl rfl (Nat.le_of_ble_eq_true rfl) dX9_loadGame_46) (fun hh n1 hpp => ?_)
    obtain ⟨hn, c_m, ff⟩ := hpp
    replace hn : n = n1 := Eq.symm hn
    subst hn
    replace b_m : bM k m y7 hh := c_m
    clear c_m
    replace ff : rx_fr [(m, 9)] _ hh := ff
    replace fr := rx_frt fr ff (fun a ha => ⟨ha.1, trivial⟩)
    refine rx_aload_n C dX9_loadGame_49 0 rfl ?_
    refine rx_getf C f_X9_160 dX9_loadGame_50 b_m.1 rfl ?_
    refine rx_if_eq C dX9_loadGame_53 74 (by decide) (fun c8 => ?_) (fun c8 => ?_)
    · rw [if_pos c8] at hF
      refine rx_aload_n C dX9_loadGame_74 0 rfl ?_
      refine rx_iconst C dX9_loadGame_75 (0 : Int32) (by decide) ?_
      replace hF := rx_leE hF; obtain ⟨o_m_9, e_o_m_9, hF⟩ := hF
      refine rx_pM6 C f_X9_253 dX9_loadGame_76 b_m e_o_m_9 (fun hh c_m ff => ?_)
      replace b_m := c_m
      replace fr := rx_frt fr ff (fun a ha => ⟨ha.1, trivial⟩)
      refine rx_aload_n C dX9_loadGame_79 0 rfl ?_
      refine rx_iconst C dX9_loadGame_80 (0 : Int32) (by decide) ?_
      replace hF := rx_leE hF; obtain ⟨o_m_10, e_o_m_10, hF⟩ := hF
      refine rx_pM7 C f_X9_256 dX9_loadGame_81 b_m e_o_m_10 (Or.inl rfl) (fun hh c_m ff => ?_)
      replace b_m := c_m
      replace fr := rx_frt fr ff (fun a ha => ⟨ha.1, trivial⟩)
      refine rx_aload_n C dX9_loadGame_84 0 rfl ?_
      refine rx_getf C f_X9_13 dX9_loadGame_85 b_m.1 rfl ?_
      refine rx_bipush C dX9_loadGame_88 (8 : Int32) (by decide) ?_
      replace hF := rx_biE hF; obtain ⟨v11, e_v11, hF⟩ := hF
      refine rx_aldF C dX9_loadGame_90 b_m.2.1 e_v11 ?_
      obtain rfl := Option.some.inj hF
      exact rx_iret C dX9_loadGame_91 (Nat.le_refl _) (Nat.le_refl _) ⟨rfl, rfl, b_m, fr⟩
    · rw [if_neg c8] at hF
      refine rx_aload_n C dX9_loadGame_56 0 rfl ?_
      refine rx_getf C f_X9_17 dX9_loadGame_57 b_m.1 rfl ?_
      refine rx_iconst C dX9_loadGame_60 (0 : Int32) (by decide) ?_
      refine rx_aload_n C dX9_loadGame_61 0 rfl ?_
      refine rx_getf C f_X9_13 dX9_loadGame_62 b_m.1 rfl ?_
      refine rx_iconst C dX9_loadGame_65 (0 : Int32) (by decide) ?_
      refine rx_sipush C dX9_loadGame_66 (144 : Int32) (by decide) ?_
      replace hF := rx_biE hF; obtain ⟨y12, e_y12, hF⟩ := hF
      refine rx_cv (rx_rS C (w_X9_copies_2_1 e_y12 b_m) Y_X9_copies S_X9_copies m_X9_243 ⟨⟨rfl, rfl⟩, ⟨(Nat.le_of_ble_eq_true rfl), (Nat.le_of_ble_eq_true rfl)⟩, ⟨(Nat.le_of_ble_eq_true rfl), (Nat.le_of_ble_eq_true rfl)⟩⟩ rfl rfl (Nat.le_of_ble_eq_true rfl) dX9_loadGame_69) (fun hh n1 hpp => ?_)
      obtain ⟨hn, c_m, ff⟩ := hpp
      replace hn : n = n1 := Eq.symm hn
      subst hn
      replace b_m : bM k m y12 hh := c_m
      clear c_m
      replace ff : rx_fr [(m, 9)] _ hh := ff
      replace fr := rx_frt fr ff (fun a ha => ⟨ha.1, trivial⟩)
      refine rx_iconst C dX9_loadGame_72 (-1 : Int32) (by decide) ?_
      obtain rfl := Option.some.inj hF
      exact rx_iret C dX9_loadGame_73 (Nat.le_refl _) (Nat.le_refl _) ⟨rfl, rfl, b_m, fr⟩
  · rw [if_neg c4] at hF
    refine rx_iconst C dX9_loadGame_22 (0 : Int32) (by decide) ?_
    obtain rfl := Option.some.inj hF
    exact rx_iret C dX9_loadGame_23 (Nat.le_refl _) (Nat.le_refl _) ⟨rfl, rfl, b_m, fr⟩
def F_X9_turn (om : ob) : Option (Int32 × ob) := rx_le (upd om.1 0 ((0 : Int32)), om.2) fun o_m_1 => (rx_ald 144 (o_m_1.2 1) ((0 : Int32))).bind fun v2 => some (v2, o_m_1)
set_option maxRecDepth 100000 in
set_option maxHeartbeats 4000000 in
theorem w_X9_turn {m : Nat} {om : ob} {y : Int32 × ob} (hF : F_X9_turn om = some y) (b_m : bM k m om h) : Met l yX9_turn (rx_ws yX9_turn cX9_turn 1 (some .int)) (rx_rm 0 0) (va_Pc [.ref m] (rx_G G k h n)) (va_Qi (fun r u => y.1 = r ∧ u.2 = n ∧ bM k m y.2 u.1 ∧ rx_fr [(m, 9)] h u.1) (rx_B G k) (rx_A k)) 0 0 (rx_A k) := by
  refine rx_start [(0, .ref m)] rfl (Nat.le_of_ble_eq_true rfl) (by decide) rfl (fun P9 E9 S9 M9 A9 B9 me9 c9 C hname => ?_)
  unfold F_X9_turn at hF
  have fr : rx_fr [(m, 9)] h h := rx_fr0
  refine rx_aload_n C dX9_turn_0 0 rfl ?_
  refine rx_iconst C dX9_turn_1 (0 : Int32) (by decide) ?_
  replace hF := rx_leE hF; obtain ⟨o_m_1, e_o_m_1, hF⟩ := hF
  refine rx_pM0 C f_X9_1 dX9_turn_2 b_m e_o_m_1 (fun hh c_m ff => ?_)
  replace b_m := c_m
  replace fr := rx_frt fr ff (fun a ha => ⟨ha.1, trivial⟩)
  refine rx_aload_n C dX9_turn_5 0 rfl ?_
  refine rx_getf C f_X9_13 dX9_turn_6 b_m.1 rfl ?_
  refine rx_iconst C dX9_turn_9 (0 : Int32) (by decide) ?_
  replace hF := rx_biE hF; obtain ⟨v2, e_v2, hF⟩ := hF
  refine rx_aldF C dX9_turn_10 b_m.2.1 e_v2 ?_
  obtain rfl := Option.some.inj hF
  exact rx_iret C dX9_turn_11 (Nat.le_refl _) (Nat.le_refl _) ⟨rfl, rfl, b_m, fr⟩
def F_X9_limitAngle (om : ob) : Option (Int32 × ob) := rx_le (upd om.1 0 ((0 : Int32)), om.2) fun o_m_1 => (rx_ald 144 (o_m_1.2 1) ((1 : Int32))).bind fun v2 => some (v2, o_m_1)
set_option maxRecDepth 100000 in
set_option maxHeartbeats 4000000 in
theorem w_X9_limitAngle {m : Nat} {om : ob} {y : Int32 × ob} (hF : F_X9_limitAngle om = some y) (b_m : bM k m om h) : Met l yX9_limitAngle (rx_ws yX9_limitAngle cX9_limitAngle 1 (some .int)) (rx_rm 0 0) (va_Pc [.ref m] (rx_G G k h n)) (va_Qi (fun r u => y.1 = r ∧ u.2 = n ∧ bM k m y.2 u.1 ∧ rx_fr [(m, 9)] h u.1) (rx_B G k) (rx_A k)) 0 0 (rx_A k) := by
  refine rx_start [(0, .ref m)] rfl (Nat.le_of_ble_eq_true rfl) (by decide) rfl (fun P9 E9 S9 M9 A9 B9 me9 c9 C hname => ?_)
  unfold F_X9_limitAngle at hF
  have fr : rx_fr [(m, 9)] h h := rx_fr0
  refine rx_aload_n C dX9_limitAngle_0 0 rfl ?_
  refine rx_iconst C dX9_limitAngle_1 (0 : Int32) (by decide) ?_
  replace hF := rx_leE hF; obtain ⟨o_m_1, e_o_m_1, hF⟩ := hF
  refine rx_pM0 C f_X9_1 dX9_limitAngle_2 b_m e_o_m_1 (fun hh c_m ff => ?_)
  replace b_m := c_m
  replace fr := rx_frt fr ff (fun a ha => ⟨ha.1, trivial⟩)
  refine rx_aload_n C dX9_limitAngle_5 0 rfl ?_
  refine rx_getf C f_X9_13 dX9_limitAngle_6 b_m.1 rfl ?_
  refine rx_iconst C dX9_limitAngle_9 (1 : Int32) (by decide) ?_
  replace hF := rx_biE hF; obtain ⟨v2, e_v2, hF⟩ := hF
  refine rx_aldF C dX9_limitAngle_10 b_m.2.1 e_v2 ?_
  obtain rfl := Option.some.inj hF
  exact rx_iret C dX9_limitAngle_11 (Nat.le_refl _) (Nat.le_refl _) ⟨rfl, rfl, b_m, fr⟩
def F_X9_tollBox (om : ob) : Option (Int32 × ob) := rx_le (upd om.1 0 ((0 : Int32)), om.2) fun o_m_1 => (rx_ald 144 (o_m_1.2 1) ((5 : Int32))).bind fun v2 => some (v2, o_m_1)
set_option maxRecDepth 100000 in
set_option maxHeartbeats 4000000 in
theorem w_X9_tollBox {m : Nat} {om : ob} {y : Int32 × ob} (hF : F_X9_tollBox om = some y) (b_m : bM k m om h) : Met l yX9_tollBox (rx_ws yX9_tollBox cX9_tollBox 1 (some .int)) (rx_rm 0 0) (va_Pc [.ref m] (rx_G G k h n)) (va_Qi (fun r u => y.1 = r ∧ u.2 = n ∧ bM k m y.2 u.1 ∧ rx_fr [(m, 9)] h u.1) (rx_B G k) (rx_A k)) 0 0 (rx_A k) := by
  refine rx_start [(0, .ref m)] rfl (Nat.le_of_ble_eq_true rfl) (by decide) rfl (fun P9 E9 S9 M9 A9 B9 me9 c9 C hname => ?_)
  unfold F_X9_tollBox at hF
  have fr : rx_fr [(m, 9)] h h := rx_fr0
  refine rx_aload_n C dX9_tollBox_0 0 rfl ?_
  refine rx_iconst C dX9_tollBox_1 (0 : Int32) (by decide) ?_
  replace hF := rx_leE hF; obtain ⟨o_m_1, e_o_m_1, hF⟩ := hF
  refine rx_pM0 C f_X9_1 dX9_tollBox_2 b_m e_o_m_1 (fun hh c_m ff => ?_)
  replace b_m := c_m
  replace fr := rx_frt fr ff (fun a ha => ⟨ha.1, trivial⟩)
  refine rx_aload_n C dX9_tollBox_5 0 rfl ?_
  refine rx_getf C f_X9_13 dX9_tollBox_6 b_m.1 rfl ?_
  refine rx_iconst C dX9_tollBox_9 (5 : Int32) (by decide) ?_
  replace hF := rx_biE hF; obtain ⟨v2, e_v2, hF⟩ := hF
  refine rx_aldF C dX9_tollBox_10 b_m.2.1 e_v2 ?_
  obtain rfl := Option.some.inj hF
  exact rx_iret C dX9_tollBox_11 (Nat.le_refl _) (Nat.le_refl _) ⟨rfl, rfl, b_m, fr⟩
def F_X9_groundCoins (om : ob) (x1 : Int32) : Option (Int32 × ob) := rx_le (upd om.1 0 ((0 : Int32)), om.2) fun o_m_1 => (F_X9_truth x1).bind fun y2 => (rx_ald 144 (o_m_1.2 1) (((6 : Int32) + y2))).bind fun v3 => some (v3, o_m_1)
set_option maxRecDepth 100000 in
set_option maxHeartbeats 4000000 in
theorem w_X9_groundCoins {m : Nat} {om : ob} {x1 : Int32} {y : Int32 × ob} (hF : F_X9_groundCoins om x1 = some y) (b_m : bM k m om h) : Met l yX9_groundCoins (rx_ws yX9_groundCoins cX9_groundCoins 2 (some .int)) (rx_rm 1 20) (va_Pc [.ref m, .int x1] (rx_G G k h n)) (va_Qi (fun r u => y.1 = r ∧ u.2 = n ∧ bM k m y.2 u.1 ∧ rx_fr [(m, 9)] h u.1) (rx_B G k) (rx_A k)) 0 0 (rx_A k) := by
  refine rx_start [(0, .ref m), (1, .int x1)] rfl (Nat.le_of_ble_eq_true rfl) (by decide) rfl (fun P9 E9 S9 M9 A9 B9 me9 c9 C hname => ?_)
  unfold F_X9_groundCoins at hF
  have fr : rx_fr [(m, 9)] h h := rx_fr0
  refine rx_aload_n C dX9_groundCoins_0 0 rfl ?_
  refine rx_iconst C dX9_groundCoins_1 (0 : Int32) (by decide) ?_
  replace hF := rx_leE hF; obtain ⟨o_m_1, e_o_m_1, hF⟩ := hF
  refine rx_pM0 C f_X9_1 dX9_groundCoins_2 b_m e_o_m_1 (fun hh c_m ff => ?_)
  replace b_m := c_m
  replace fr := rx_frt fr ff (fun a ha => ⟨ha.1, trivial⟩)
  refine rx_aload_n C dX9_groundCoins_5 0 rfl ?_
  refine rx_getf C f_X9_13 dX9_groundCoins_6 b_m.1 rfl ?_
  refine rx_bipush C dX9_groundCoins_9 (6 : Int32) (by decide) ?_
  refine rx_iload_n C dX9_groundCoins_11 1 rfl ?_
  replace hF := rx_biE hF; obtain ⟨y2, e_y2, hF⟩ := hF
  refine rx_ci (rx_rS C (w_X9_truth e_y2 ) Y_X9_truth S_X9_truth m_X9_85 ⟨⟨rfl, rfl⟩, ⟨(Nat.le_of_ble_eq_true rfl), (Nat.le_of_ble_eq_true rfl)⟩, ⟨(Nat.le_of_ble_eq_true rfl), (Nat.le_of_ble_eq_true rfl)⟩⟩ rfl rfl (Nat.le_of_ble_eq_true rfl) dX9_groundCoins_12) (fun r hh n1 hpp => ?_)
  obtain ⟨rfl, hu⟩ := hpp
  cases hu
  refine rx_iadd C dX9_groundCoins_15 ?_
  replace hF := rx_biE hF; obtain ⟨v3, e_v3, hF⟩ := hF
  refine rx_aldF C dX9_groundCoins_16 b_m.2.1 e_v3 ?_
  obtain rfl := Option.some.inj hF
  exact rx_iret C dX9_groundCoins_17 (Nat.le_refl _) (Nat.le_refl _) ⟨rfl, rfl, b_m, fr⟩
def F_X9_personCount (om : ob) : Option (Int32 × ob) := rx_le (upd om.1 0 ((0 : Int32)), om.2) fun o_m_1 => (rx_ald 144 (o_m_1.2 1) ((8 : Int32))).bind fun v2 => some (v2, o_m_1)
set_option maxRecDepth 100000 in
set_option maxHeartbeats 4000000 in
theorem w_X9_personCount {m : Nat} {om : ob} {y : Int32 × ob} (hF : F_X9_personCount om = some y) (b_m : bM k m om h) : Met l yX9_personCount (rx_ws yX9_personCount cX9_personCount 1 (some .int)) (rx_rm 0 0) (va_Pc [.ref m] (rx_G G k h n)) (va_Qi (fun r u => y.1 = r ∧ u.2 = n ∧ bM k m y.2 u.1 ∧ rx_fr [(m, 9)] h u.1) (rx_B G k) (rx_A k)) 0 0 (rx_A k) := by
  refine rx_start [(0, .ref m)] rfl (Nat.le_of_ble_eq_true rfl) (by decide) rfl (fun P9 E9 S9 M9 A9 B9 me9 c9 C hname => ?_)
  unfold F_X9_personCount at hF
  have fr : rx_fr [(m, 9)] h h := rx_fr0
  refine rx_aload_n C dX9_personCount_0 0 rfl ?_
  refine rx_iconst C dX9_personCount_1 (0 : Int32) (by decide) ?_
  replace hF := rx_leE hF; obtain ⟨o_m_1, e_o_m_1, hF⟩ := hF
  refine rx_pM0 C f_X9_1 dX9_personCount_2 b_m e_o_m_1 (fun hh c_m ff => ?_)
  replace b_m := c_m
  replace fr := rx_frt fr ff (fun a ha => ⟨ha.1, trivial⟩)
  refine rx_aload_n C dX9_personCount_5 0 rfl ?_
  refine rx_getf C f_X9_13 dX9_personCount_6 b_m.1 rfl ?_
  refine rx_bipush C dX9_personCount_9 (8 : Int32) (by decide) ?_
  replace hF := rx_biE hF; obtain ⟨v2, e_v2, hF⟩ := hF
  refine rx_aldF C dX9_personCount_11 b_m.2.1 e_v2 ?_
  obtain rfl := Option.some.inj hF
  exact rx_iret C dX9_personCount_12 (Nat.le_refl _) (Nat.le_refl _) ⟨rfl, rfl, b_m, fr⟩
def F_X9_kings_4 (om : ob) : Nat → Int32 → Int32 → Option (Int32 × Int32)
  | 0, _, _ => none
  | fu + 1, x1, x2 => (rx_ald 144 (om.2 1) ((8 : Int32))).bind fun v3 => if v3 ≤ x2 then (some (x1, x2)) else ((F_X9_of om x2 ((0 : Int32))).bind fun y5 => rx_le ((x1 + y5)) fun v6 => F_X9_kings_4 om fu v6 ((x2 + 1)))
def F_X9_kings (om : ob) : Option (Int32) := (F_X9_kings_4 om 100000 ((0 : Int32)) ((0 : Int32))).bind fun zl7 => some zl7.1
set_option maxRecDepth 100000 in
set_option maxHeartbeats 4000000 in
theorem w_X9_kings {m : Nat} {om : ob} {y : Int32} (hF : F_X9_kings om = some y) (b_m : bM k m om h) : Met l yX9_kings (rx_ws yX9_kings cX9_kings 3 (some .int)) (rx_rm 1 22) (va_Pc [.ref m] (rx_G G k h n)) (va_Qi (fun r u => y = r ∧ u = (h, n)) (rx_B G k) (rx_A k)) 0 0 (rx_A k) := by
  refine rx_start [(0, .ref m)] rfl (Nat.le_of_ble_eq_true rfl) (by decide) rfl (fun P9 E9 S9 M9 A9 B9 me9 c9 C hname => ?_)
  unfold F_X9_kings at hF
  refine rx_iconst C dX9_kings_0 (0 : Int32) (by decide) ?_
  refine rx_istore_n C dX9_kings_1 (by decide) [(1, .int ((0 : Int32))), (0, .ref m)] rfl ?_
  refine rx_iconst C dX9_kings_2 (0 : Int32) (by decide) ?_
  refine rx_istore_n C dX9_kings_3 (by decide) [(2, .int ((0 : Int32))), (1, .int ((0 : Int32))), (0, .ref m)] rfl ?_
  have loop2 : ∀ (fu : Nat) (zz : Int32 × Int32)  (x1 : Int32) (x2 : Int32), F_X9_kings_4 om fu x1 x2 = some zz → bM k m om h → (rx_W P9 l E9 (rx_rm 1 22) S9 M9 A9 B9 me9 c9 (MQ B9 (va_Qi (fun r u => y = r ∧ u = (h, n)) (rx_B G k) (rx_A k)) A9 S9 0 0 (rx_A k)) G k 3 0 0 h n 30 [(0, .ref m), (1, .int zz.1), (2, .int zz.2)] []) → rx_W P9 l E9 (rx_rm 1 22) S9 M9 A9 B9 me9 c9 (MQ B9 (va_Qi (fun r u => y = r ∧ u = (h, n)) (rx_B G k) (rx_A k)) A9 S9 0 0 (rx_A k)) G k 3 0 0 h n 4 [(0, .ref m), (1, .int x1), (2, .int x2)] [] := by
    intro fu
    induction fu with
    | zero => intro zz x1 x2 hF b_m KK; exact absurd hF (by simp [F_X9_kings_4])
    | succ fu ih_loop2 =>
      intro zz x1 x2 hF b_m KK
      unfold F_X9_kings_4 at hF
      refine rx_iload_n C dX9_kings_4 2 rfl ?_
      refine rx_aload_n C dX9_kings_5 0 rfl ?_
      refine rx_getf C f_X9_13 dX9_kings_6 b_m.1 rfl ?_
      refine rx_bipush C dX9_kings_9 (8 : Int32) (by decide) ?_
      replace hF := rx_biE hF; obtain ⟨v3, e_v3, hF⟩ := hF
      refine rx_aldF C dX9_kings_11 b_m.2.1 e_v3 ?_
      refine rx_icmp_ge C dX9_kings_12 30 (by decide) (fun c4 => ?_) (fun c4 => ?_)
      · rw [if_pos c4] at hF
        obtain rfl := Option.some.inj hF
        refine rx_sub [0, 1, 2] rfl ?_
        exact KK
      · rw [if_neg c4] at hF
        refine rx_iload_n C dX9_kings_15 1 rfl ?_
        refine rx_aload_n C dX9_kings_16 0 rfl ?_
        refine rx_iload_n C dX9_kings_17 2 rfl ?_
        refine rx_iconst C dX9_kings_18 (0 : Int32) (by decide) ?_
        replace hF := rx_biE hF; obtain ⟨y5, e_y5, hF⟩ := hF
        refine rx_ci (rx_rV C (w_X9_of e_y5 b_m) Y_X9_of V_X9_of m_X9_60 (Or.inl ⟨_, _, _, _, b_m.1, rfl⟩) ⟨⟨rfl, rfl⟩, ⟨(Nat.le_of_ble_eq_true rfl), (Nat.le_of_ble_eq_true rfl)⟩, ⟨(Nat.le_of_ble_eq_true rfl), (Nat.le_of_ble_eq_true rfl)⟩⟩ rfl rfl (Nat.le_of_ble_eq_true rfl) dX9_kings_19) (fun r hh n1 hpp => ?_)
        obtain ⟨rfl, hu⟩ := hpp
        cases hu
        refine rx_iadd C dX9_kings_22 ?_
        replace hF := rx_leE hF; obtain ⟨v6, e_v6, hF⟩ := hF
        rw [e_v6]
        refine rx_istore_n C dX9_kings_23 (by decide) [(1, .int v6), (0, .ref m), (2, .int x2)] rfl ?_
        refine rx_iinc C dX9_kings_24 2 rfl (x2 + 1) rfl (by decide) [(2, .int ((x2 + 1))), (1, .int v6), (0, .ref m)] rfl ?_
        refine rx_goto C dX9_kings_27 4 (by decide) ?_
        refine rx_sub [2, 1, 0] rfl ?_
        exact ih_loop2 _ _ _ hF b_m KK
  refine rx_sub [2, 1, 0] rfl ?_
  replace hF := rx_biE hF; obtain ⟨zl7, e_zl7, hF⟩ := hF
  refine loop2 _ zl7 _ _ e_zl7 b_m ?_
  refine rx_iload_n C dX9_kings_30 1 rfl ?_
  obtain rfl := Option.some.inj hF
  exact rx_iret C dX9_kings_31 (Nat.le_refl _) (Nat.le_refl _) ⟨rfl, rfl⟩
def F_X9_kingCount (om : ob) : Option (Int32 × ob) := rx_le (upd om.1 0 ((0 : Int32)), om.2) fun o_m_1 => (F_X9_kings o_m_1).bind fun y2 => some (y2, o_m_1)
set_option maxRecDepth 100000 in
set_option maxHeartbeats 4000000 in
theorem w_X9_kingCount {m : Nat} {om : ob} {y : Int32 × ob} (hF : F_X9_kingCount om = some y) (b_m : bM k m om h) : Met l yX9_kingCount (rx_ws yX9_kingCount cX9_kingCount 1 (some .int)) (rx_rm 2 44) (va_Pc [.ref m] (rx_G G k h n)) (va_Qi (fun r u => y.1 = r ∧ u.2 = n ∧ bM k m y.2 u.1 ∧ rx_fr [(m, 9)] h u.1) (rx_B G k) (rx_A k)) 0 0 (rx_A k) := by
  refine rx_start [(0, .ref m)] rfl (Nat.le_of_ble_eq_true rfl) (by decide) rfl (fun P9 E9 S9 M9 A9 B9 me9 c9 C hname => ?_)
  unfold F_X9_kingCount at hF
  have fr : rx_fr [(m, 9)] h h := rx_fr0
  refine rx_aload_n C dX9_kingCount_0 0 rfl ?_
  refine rx_iconst C dX9_kingCount_1 (0 : Int32) (by decide) ?_
  replace hF := rx_leE hF; obtain ⟨o_m_1, e_o_m_1, hF⟩ := hF
  refine rx_pM0 C f_X9_1 dX9_kingCount_2 b_m e_o_m_1 (fun hh c_m ff => ?_)
  replace b_m := c_m
  replace fr := rx_frt fr ff (fun a ha => ⟨ha.1, trivial⟩)
  refine rx_aload_n C dX9_kingCount_5 0 rfl ?_
  replace hF := rx_biE hF; obtain ⟨y2, e_y2, hF⟩ := hF
  refine rx_ci (rx_rV C (w_X9_kings e_y2 b_m) Y_X9_kings V_X9_kings m_X9_260 (Or.inl ⟨_, _, _, _, b_m.1, rfl⟩) ⟨⟨rfl, rfl⟩, ⟨(Nat.le_of_ble_eq_true rfl), (Nat.le_of_ble_eq_true rfl)⟩, ⟨(Nat.le_of_ble_eq_true rfl), (Nat.le_of_ble_eq_true rfl)⟩⟩ rfl rfl (Nat.le_of_ble_eq_true rfl) dX9_kingCount_6) (fun r hh n1 hpp => ?_)
  obtain ⟨rfl, hu⟩ := hpp
  cases hu
  obtain rfl := Option.some.inj hF
  exact rx_iret C dX9_kingCount_9 (Nat.le_refl _) (Nat.le_refl _) ⟨rfl, rfl, b_m, fr⟩
def F_X9_bankCount_9 (x1 : Int32) : Nat → ob → Int32 → Int32 → Option (Int32 × Int32 × ob)
  | 0, _, _, _ => none
  | fu + 1, om, x2, x3 => (rx_ald 144 (om.2 1) ((8 : Int32))).bind fun v4 => if v4 ≤ x3 then (some (x2, x3, om)) else ((F_X9_of om x3 ((1 : Int32))).bind fun y6 => (F_X9_truth x1).bind fun y7 => if y6 = y7 then ((F_X9_truth ((1 : Int32))).bind fun y11 => rx_le ((x2 + y11)) fun v12 => F_X9_bankCount_9 x1 fu om v12 ((x3 + 1))) else ((F_X9_truth ((0 : Int32))).bind fun y9 => rx_le ((x2 + y9)) fun v10 => F_X9_bankCount_9 x1 fu om v10 ((x3 + 1))))
def F_X9_bankCount (om : ob) (x1 : Int32) : Option (Int32 × ob) := rx_le (upd om.1 0 ((0 : Int32)), om.2) fun o_m_1 => (F_X9_bankCount_9 x1 100000 o_m_1 ((0 : Int32)) ((0 : Int32))).bind fun zl13 => some (zl13.1, zl13.2.2)
set_option maxRecDepth 100000 in
set_option maxHeartbeats 4000000 in
theorem w_X9_bankCount {m : Nat} {om : ob} {x1 : Int32} {y : Int32 × ob} (hF : F_X9_bankCount om x1 = some y) (b_m : bM k m om h) : Met l yX9_bankCount (rx_ws yX9_bankCount cX9_bankCount 4 (some .int)) (rx_rm 1 22) (va_Pc [.ref m, .int x1] (rx_G G k h n)) (va_Qi (fun r u => y.1 = r ∧ u.2 = n ∧ bM k m y.2 u.1 ∧ rx_fr [(m, 9)] h u.1) (rx_B G k) (rx_A k)) 0 0 (rx_A k) := by
  refine rx_start [(0, .ref m), (1, .int x1)] rfl (Nat.le_of_ble_eq_true rfl) (by decide) rfl (fun P9 E9 S9 M9 A9 B9 me9 c9 C hname => ?_)
  unfold F_X9_bankCount at hF
  have fr : rx_fr [(m, 9)] h h := rx_fr0
  refine rx_aload_n C dX9_bankCount_0 0 rfl ?_
  refine rx_iconst C dX9_bankCount_1 (0 : Int32) (by decide) ?_
  replace hF := rx_leE hF; obtain ⟨o_m_1, e_o_m_1, hF⟩ := hF
  refine rx_pM0 C f_X9_1 dX9_bankCount_2 b_m e_o_m_1 (fun hh c_m ff => ?_)
  replace b_m := c_m
  replace fr := rx_frt fr ff (fun a ha => ⟨ha.1, trivial⟩)
  refine rx_iconst C dX9_bankCount_5 (0 : Int32) (by decide) ?_
  refine rx_istore_n C dX9_bankCount_6 (by decide) [(2, .int ((0 : Int32))), (0, .ref m), (1, .int x1)] rfl ?_
  refine rx_iconst C dX9_bankCount_7 (0 : Int32) (by decide) ?_
  refine rx_istore_n C dX9_bankCount_8 (by decide) [(3, .int ((0 : Int32))), (2, .int ((0 : Int32))), (0, .ref m), (1, .int x1)] rfl ?_
  have loop3 : ∀ (fu : Nat) (zz : Int32 × Int32 × ob) (om : ob) (x2 : Int32) (x3 : Int32) (hh : hp), F_X9_bankCount_9 x1 fu om x2 x3 = some zz → bM k m om hh → rx_fr [(m, 9)] h hh → (∀ hh : hp, bM k m zz.2.2 hh → rx_fr [(m, 9)] h hh → rx_W P9 l E9 (rx_rm 1 22) S9 M9 A9 B9 me9 c9 (MQ B9 (va_Qi (fun r u => y.1 = r ∧ u.2 = n ∧ bM k m y.2 u.1 ∧ rx_fr [(m, 9)] h u.1) (rx_B G k) (rx_A k)) A9 S9 0 0 (rx_A k)) G k 4 0 0 hh n 50 [(0, .ref m), (1, .int x1), (2, .int zz.1), (3, .int zz.2.1)] []) → rx_W P9 l E9 (rx_rm 1 22) S9 M9 A9 B9 me9 c9 (MQ B9 (va_Qi (fun r u => y.1 = r ∧ u.2 = n ∧ bM k m y.2 u.1 ∧ rx_fr [(m, 9)] h u.1) (rx_B G k) (rx_A k)) A9 S9 0 0 (rx_A k)) G k 4 0 0 hh n 9 [(0, .ref m), (1, .int x1), (2, .int x2), (3, .int x3)] [] := by
    intro fu
    induction fu with
    | zero => intro zz om x2 x3 hh hF b_m fr KK; exact absurd hF (by simp [F_X9_bankCount_9])
    | succ fu ih_loop3 =>
      intro zz om x2 x3 hh hF b_m fr KK
      unfold F_X9_bankCount_9 at hF
      refine rx_iload_n C dX9_bankCount_9 3 rfl ?_
      refine rx_aload_n C dX9_bankCount_10 0 rfl ?_
      refine rx_getf C f_X9_13 dX9_bankCount_11 b_m.1 rfl ?_
      refine rx_bipush C dX9_bankCount_14 (8 : Int32) (by decide) ?_
      replace hF := rx_biE hF; obtain ⟨v4, e_v4, hF⟩ := hF
      refine rx_aldF C dX9_bankCount_16 b_m.2.1 e_v4 ?_
      refine rx_icmp_ge C dX9_bankCount_17 50 (by decide) (fun c5 => ?_) (fun c5 => ?_)
      · rw [if_pos c5] at hF
        obtain rfl := Option.some.inj hF
        refine rx_sub [0, 1, 2, 3] rfl ?_
        exact KK _ b_m fr
      · rw [if_neg c5] at hF
        refine rx_iload_n C dX9_bankCount_20 2 rfl ?_
        refine rx_aload_n C dX9_bankCount_21 0 rfl ?_
        refine rx_iload_n C dX9_bankCount_22 3 rfl ?_
        refine rx_iconst C dX9_bankCount_23 (1 : Int32) (by decide) ?_
        replace hF := rx_biE hF; obtain ⟨y6, e_y6, hF⟩ := hF
        refine rx_ci (rx_rV C (w_X9_of e_y6 b_m) Y_X9_of V_X9_of m_X9_60 (Or.inl ⟨_, _, _, _, b_m.1, rfl⟩) ⟨⟨rfl, rfl⟩, ⟨(Nat.le_of_ble_eq_true rfl), (Nat.le_of_ble_eq_true rfl)⟩, ⟨(Nat.le_of_ble_eq_true rfl), (Nat.le_of_ble_eq_true rfl)⟩⟩ rfl rfl (Nat.le_of_ble_eq_true rfl) dX9_bankCount_24) (fun r hh n1 hpp => ?_)
        obtain ⟨rfl, hu⟩ := hpp
        cases hu
        refine rx_iload_n C dX9_bankCount_27 1 rfl ?_
        replace hF := rx_biE hF; obtain ⟨y7, e_y7, hF⟩ := hF
        refine rx_ci (rx_rS C (w_X9_truth e_y7 ) Y_X9_truth S_X9_truth m_X9_85 ⟨⟨rfl, rfl⟩, ⟨(Nat.le_of_ble_eq_true rfl), (Nat.le_of_ble_eq_true rfl)⟩, ⟨(Nat.le_of_ble_eq_true rfl), (Nat.le_of_ble_eq_true rfl)⟩⟩ rfl rfl (Nat.le_of_ble_eq_true rfl) dX9_bankCount_28) (fun r hh n1 hpp => ?_)
        obtain ⟨rfl, hu⟩ := hpp
        cases hu
        refine rx_icmp_ne C dX9_bankCount_31 38 (by decide) (fun c8 => ?_) (fun c8 => ?_)
        · rw [if_neg c8] at hF
          refine rx_iconst C dX9_bankCount_38 (0 : Int32) (by decide) ?_
          replace hF := rx_biE hF; obtain ⟨y9, e_y9, hF⟩ := hF
          refine rx_ci (rx_rS C (w_X9_truth e_y9 ) Y_X9_truth S_X9_truth m_X9_85 ⟨⟨rfl, rfl⟩, ⟨(Nat.le_of_ble_eq_true rfl), (Nat.le_of_ble_eq_true rfl)⟩, ⟨(Nat.le_of_ble_eq_true rfl), (Nat.le_of_ble_eq_true rfl)⟩⟩ rfl rfl (Nat.le_of_ble_eq_true rfl) dX9_bankCount_39) (fun r hh n1 hpp => ?_)
          obtain ⟨rfl, hu⟩ := hpp
          cases hu
          refine rx_iadd C dX9_bankCount_42 ?_
          replace hF := rx_leE hF; obtain ⟨v10, e_v10, hF⟩ := hF
          rw [e_v10]
          refine rx_istore_n C dX9_bankCount_43 (by decide) [(2, .int v10), (0, .ref m), (1, .int x1), (3, .int x3)] rfl ?_
          refine rx_iinc C dX9_bankCount_44 3 rfl (x3 + 1) rfl (by decide) [(3, .int ((x3 + 1))), (2, .int v10), (0, .ref m), (1, .int x1)] rfl ?_
          refine rx_goto C dX9_bankCount_47 9 (by decide) ?_
          refine rx_sub [2, 3, 1, 0] rfl ?_
          exact ih_loop3 _ _ _ _ _ hF b_m fr KK
        · rw [if_pos c8] at hF
          refine rx_iconst C dX9_bankCount_34 (1 : Int32) (by decide) ?_
          refine rx_goto C dX9_bankCount_35 39 (by decide) ?_
          replace hF := rx_biE hF; obtain ⟨y11, e_y11, hF⟩ := hF
          refine rx_ci (rx_rS C (w_X9_truth e_y11 ) Y_X9_truth S_X9_truth m_X9_85 ⟨⟨rfl, rfl⟩, ⟨(Nat.le_of_ble_eq_true rfl), (Nat.le_of_ble_eq_true rfl)⟩, ⟨(Nat.le_of_ble_eq_true rfl), (Nat.le_of_ble_eq_true rfl)⟩⟩ rfl rfl (Nat.le_of_ble_eq_true rfl) dX9_bankCount_39) (fun r hh n1 hpp => ?_)
          obtain ⟨rfl, hu⟩ := hpp
          cases hu
          refine rx_iadd C dX9_bankCount_42 ?_
          replace hF := rx_leE hF; obtain ⟨v12, e_v12, hF⟩ := hF
          rw [e_v12]
          refine rx_istore_n C dX9_bankCount_43 (by decide) [(2, .int v12), (0, .ref m), (1, .int x1), (3, .int x3)] rfl ?_
          refine rx_iinc C dX9_bankCount_44 3 rfl (x3 + 1) rfl (by decide) [(3, .int ((x3 + 1))), (2, .int v12), (0, .ref m), (1, .int x1)] rfl ?_
          refine rx_goto C dX9_bankCount_47 9 (by decide) ?_
          refine rx_sub [2, 3, 1, 0] rfl ?_
          exact ih_loop3 _ _ _ _ _ hF b_m fr KK
  refine rx_sub [2, 3, 1, 0] rfl ?_
  replace hF := rx_biE hF; obtain ⟨zl13, e_zl13, hF⟩ := hF
  refine loop3 _ zl13 _ _ _ _ e_zl13 b_m fr (fun hh b_m fr => ?_)
  refine rx_iload_n C dX9_bankCount_50 2 rfl ?_
  obtain rfl := Option.some.inj hF
  exact rx_iret C dX9_bankCount_51 (Nat.le_refl _) (Nat.le_refl _) ⟨rfl, rfl, b_m, fr⟩
def F_X9_noOne (om : ob) (x1 : Int32) : Option (Int32 × ob) := (rx_ald 144 (om.2 1) ((8 : Int32))).bind fun v1 => (F_X9_in x1 ((0 : Int32)) ((v1 - (1 : Int32)))).bind fun y2 => (F_X9_fails om y2 ((1 : Int32))).bind fun y3 => some (y3.1, y3.2)
set_option maxRecDepth 100000 in
set_option maxHeartbeats 4000000 in
theorem w_X9_noOne {m : Nat} {om : ob} {x1 : Int32} {y : Int32 × ob} (hF : F_X9_noOne om x1 = some y) (b_m : bM k m om h) : Met l yX9_noOne (rx_ws yX9_noOne cX9_noOne 2 (some .boolean)) (rx_rm 1 22) (va_Pc [.ref m, .int x1] (rx_G G k h n)) (va_Qi (fun r u => y.1 = r ∧ (y.1 = 0 ∨ y.1 = 1) ∧ u.2 = n ∧ bM k m y.2 u.1 ∧ rx_fr [(m, 9)] h u.1) (rx_B G k) (rx_A k)) 0 0 (rx_A k) := by
  refine rx_start [(0, .ref m), (1, .int x1)] rfl (Nat.le_of_ble_eq_true rfl) (by decide) rfl (fun P9 E9 S9 M9 A9 B9 me9 c9 C hname => ?_)
  unfold F_X9_noOne at hF
  have fr : rx_fr [(m, 9)] h h := rx_fr0
  refine rx_aload_n C dX9_noOne_0 0 rfl ?_
  refine rx_iload_n C dX9_noOne_1 1 rfl ?_
  refine rx_iconst C dX9_noOne_2 (0 : Int32) (by decide) ?_
  refine rx_aload_n C dX9_noOne_3 0 rfl ?_
  refine rx_getf C f_X9_13 dX9_noOne_4 b_m.1 rfl ?_
  refine rx_bipush C dX9_noOne_7 (8 : Int32) (by decide) ?_
  replace hF := rx_biE hF; obtain ⟨v1, e_v1, hF⟩ := hF
  refine rx_aldF C dX9_noOne_9 b_m.2.1 e_v1 ?_
  refine rx_iconst C dX9_noOne_10 (1 : Int32) (by decide) ?_
  refine rx_isub C dX9_noOne_11 ?_
  replace hF := rx_biE hF; obtain ⟨y2, e_y2, hF⟩ := hF
  refine rx_ci (rx_rS C (w_X9_in e_y2 ) Y_X9_in S_X9_in m_X9_200 ⟨⟨rfl, rfl⟩, ⟨(Nat.le_of_ble_eq_true rfl), (Nat.le_of_ble_eq_true rfl)⟩, ⟨(Nat.le_of_ble_eq_true rfl), (Nat.le_of_ble_eq_true rfl)⟩⟩ rfl rfl (Nat.le_of_ble_eq_true rfl) dX9_noOne_12) (fun r hh n1 hpp => ?_)
  obtain ⟨rfl, bo_y2, hu⟩ := hpp
  cases hu
  refine rx_iconst C dX9_noOne_15 (1 : Int32) (by decide) ?_
  replace hF := rx_biE hF; obtain ⟨y3, e_y3, hF⟩ := hF
  refine rx_ci (rx_rV C (w_X9_fails e_y3 b_m) Y_X9_fails V_X9_fails m_X9_239 (Or.inl ⟨_, _, _, _, b_m.1, rfl⟩) ⟨⟨rfl, rfl⟩, ⟨(Nat.le_of_ble_eq_true rfl), (Nat.le_of_ble_eq_true rfl)⟩, ⟨(Nat.le_of_ble_eq_true rfl), (Nat.le_of_ble_eq_true rfl)⟩⟩ rfl rfl (Nat.le_of_ble_eq_true rfl) dX9_noOne_16) (fun r hh n1 hpp => ?_)
  obtain ⟨rfl, bo_y3, hn, c_m, ff⟩ := hpp
  replace hn : n = n1 := Eq.symm hn
  subst hn
  replace b_m : bM k m y3.2 hh := c_m
  clear c_m
  replace ff : rx_fr [(m, 9)] _ hh := ff
  replace fr := rx_frt fr ff (fun a ha => ⟨ha.1, trivial⟩)
  obtain rfl := Option.some.inj hF
  exact rx_zret C (rx_nz bo_y3) dX9_noOne_19 (Nat.le_refl _) (Nat.le_refl _) ⟨rfl, bo_y3, rfl, b_m, fr⟩
def F_X9_isKing (om : ob) (x1 : Int32) : Option (Int32 × ob) := rx_le (upd om.1 0 ((0 : Int32)), om.2) fun o_m_1 => (F_X9_noOne o_m_1 x1).bind fun y2 => if y2.1 = (0 : Int32) then ((F_X9_isKingNow y2.2 x1).bind fun y4 => if y4 = (0 : Int32) then (some ((0 : Int32), y2.2)) else (some ((1 : Int32), y2.2))) else (some ((0 : Int32), y2.2))
set_option maxRecDepth 100000 in
set_option maxHeartbeats 4000000 in
theorem w_X9_isKing {m : Nat} {om : ob} {x1 : Int32} {y : Int32 × ob} (hF : F_X9_isKing om x1 = some y) (b_m : bM k m om h) : Met l yX9_isKing (rx_ws yX9_isKing cX9_isKing 2 (some .boolean)) (rx_rm 2 43) (va_Pc [.ref m, .int x1] (rx_G G k h n)) (va_Qi (fun r u => y.1 = r ∧ (y.1 = 0 ∨ y.1 = 1) ∧ u.2 = n ∧ bM k m y.2 u.1 ∧ rx_fr [(m, 9)] h u.1) (rx_B G k) (rx_A k)) 0 0 (rx_A k) := by
  refine rx_start [(0, .ref m), (1, .int x1)] rfl (Nat.le_of_ble_eq_true rfl) (by decide) rfl (fun P9 E9 S9 M9 A9 B9 me9 c9 C hname => ?_)
  unfold F_X9_isKing at hF
  have fr : rx_fr [(m, 9)] h h := rx_fr0
  refine rx_aload_n C dX9_isKing_0 0 rfl ?_
  refine rx_iconst C dX9_isKing_1 (0 : Int32) (by decide) ?_
  replace hF := rx_leE hF; obtain ⟨o_m_1, e_o_m_1, hF⟩ := hF
  refine rx_pM0 C f_X9_1 dX9_isKing_2 b_m e_o_m_1 (fun hh c_m ff => ?_)
  replace b_m := c_m
  replace fr := rx_frt fr ff (fun a ha => ⟨ha.1, trivial⟩)
  refine rx_aload_n C dX9_isKing_5 0 rfl ?_
  refine rx_iload_n C dX9_isKing_6 1 rfl ?_
  replace hF := rx_biE hF; obtain ⟨y2, e_y2, hF⟩ := hF
  refine rx_ci (rx_rV C (w_X9_noOne e_y2 b_m) Y_X9_noOne V_X9_noOne m_X9_263 (Or.inl ⟨_, _, _, _, b_m.1, rfl⟩) ⟨⟨rfl, rfl⟩, ⟨(Nat.le_of_ble_eq_true rfl), (Nat.le_of_ble_eq_true rfl)⟩, ⟨(Nat.le_of_ble_eq_true rfl), (Nat.le_of_ble_eq_true rfl)⟩⟩ rfl rfl (Nat.le_of_ble_eq_true rfl) dX9_isKing_7) (fun r hh n1 hpp => ?_)
  obtain ⟨rfl, bo_y2, hn, c_m, ff⟩ := hpp
  replace hn : n = n1 := Eq.symm hn
  subst hn
  replace b_m : bM k m y2.2 hh := c_m
  clear c_m
  replace ff : rx_fr [(m, 9)] _ hh := ff
  replace fr := rx_frt fr ff (fun a ha => ⟨ha.1, trivial⟩)
  refine rx_if_ne C dX9_isKing_10 25 (by decide) (fun c3 => ?_) (fun c3 => ?_)
  · rw [if_neg c3] at hF
    refine rx_iconst C dX9_isKing_25 (0 : Int32) (by decide) ?_
    obtain rfl := Option.some.inj hF
    exact rx_zret C (rx_nz (Or.inl rfl)) dX9_isKing_26 (Nat.le_refl _) (Nat.le_refl _) ⟨rfl, (Or.inl rfl), rfl, b_m, fr⟩
  · rw [if_pos c3] at hF
    refine rx_aload_n C dX9_isKing_13 0 rfl ?_
    refine rx_iload_n C dX9_isKing_14 1 rfl ?_
    replace hF := rx_biE hF; obtain ⟨y4, e_y4, hF⟩ := hF
    refine rx_ci (rx_rV C (w_X9_isKingNow e_y4 b_m) Y_X9_isKingNow V_X9_isKingNow m_X9_64 (Or.inl ⟨_, _, _, _, b_m.1, rfl⟩) ⟨⟨rfl, rfl⟩, ⟨(Nat.le_of_ble_eq_true rfl), (Nat.le_of_ble_eq_true rfl)⟩, ⟨(Nat.le_of_ble_eq_true rfl), (Nat.le_of_ble_eq_true rfl)⟩⟩ rfl rfl (Nat.le_of_ble_eq_true rfl) dX9_isKing_15) (fun r hh n1 hpp => ?_)
    obtain ⟨rfl, bo_y4, hu⟩ := hpp
    cases hu
    refine rx_if_eq C dX9_isKing_18 25 (by decide) (fun c5 => ?_) (fun c5 => ?_)
    · rw [if_pos c5] at hF
      refine rx_iconst C dX9_isKing_25 (0 : Int32) (by decide) ?_
      obtain rfl := Option.some.inj hF
      exact rx_zret C (rx_nz (Or.inl rfl)) dX9_isKing_26 (Nat.le_refl _) (Nat.le_refl _) ⟨rfl, (Or.inl rfl), rfl, b_m, fr⟩
    · rw [if_neg c5] at hF
      refine rx_iconst C dX9_isKing_21 (1 : Int32) (by decide) ?_
      refine rx_goto C dX9_isKing_22 26 (by decide) ?_
      obtain rfl := Option.some.inj hF
      exact rx_zret C (rx_nz (Or.inr rfl)) dX9_isKing_26 (Nat.le_refl _) (Nat.le_refl _) ⟨rfl, (Or.inr rfl), rfl, b_m, fr⟩
def F_X9_isEast (om : ob) (x1 : Int32) : Option (Int32 × ob) := rx_le (upd om.1 0 ((0 : Int32)), om.2) fun o_m_1 => (F_X9_noOne o_m_1 x1).bind fun y2 => if y2.1 = (0 : Int32) then ((F_X9_of y2.2 x1 ((1 : Int32))).bind fun y4 => if y4 = (1 : Int32) then (some ((1 : Int32), y2.2)) else (some ((0 : Int32), y2.2))) else (some ((0 : Int32), y2.2))
set_option maxRecDepth 100000 in
set_option maxHeartbeats 4000000 in
theorem w_X9_isEast {m : Nat} {om : ob} {x1 : Int32} {y : Int32 × ob} (hF : F_X9_isEast om x1 = some y) (b_m : bM k m om h) : Met l yX9_isEast (rx_ws yX9_isEast cX9_isEast 2 (some .boolean)) (rx_rm 2 43) (va_Pc [.ref m, .int x1] (rx_G G k h n)) (va_Qi (fun r u => y.1 = r ∧ (y.1 = 0 ∨ y.1 = 1) ∧ u.2 = n ∧ bM k m y.2 u.1 ∧ rx_fr [(m, 9)] h u.1) (rx_B G k) (rx_A k)) 0 0 (rx_A k) := by
  refine rx_start [(0, .ref m), (1, .int x1)] rfl (Nat.le_of_ble_eq_true rfl) (by decide) rfl (fun P9 E9 S9 M9 A9 B9 me9 c9 C hname => ?_)
  unfold F_X9_isEast at hF
  have fr : rx_fr [(m, 9)] h h := rx_fr0
  refine rx_aload_n C dX9_isEast_0 0 rfl ?_
  refine rx_iconst C dX9_isEast_1 (0 : Int32) (by decide) ?_
  replace hF := rx_leE hF; obtain ⟨o_m_1, e_o_m_1, hF⟩ := hF
  refine rx_pM0 C f_X9_1 dX9_isEast_2 b_m e_o_m_1 (fun hh c_m ff => ?_)
  replace b_m := c_m
  replace fr := rx_frt fr ff (fun a ha => ⟨ha.1, trivial⟩)
  refine rx_aload_n C dX9_isEast_5 0 rfl ?_
  refine rx_iload_n C dX9_isEast_6 1 rfl ?_
  replace hF := rx_biE hF; obtain ⟨y2, e_y2, hF⟩ := hF
  refine rx_ci (rx_rV C (w_X9_noOne e_y2 b_m) Y_X9_noOne V_X9_noOne m_X9_263 (Or.inl ⟨_, _, _, _, b_m.1, rfl⟩) ⟨⟨rfl, rfl⟩, ⟨(Nat.le_of_ble_eq_true rfl), (Nat.le_of_ble_eq_true rfl)⟩, ⟨(Nat.le_of_ble_eq_true rfl), (Nat.le_of_ble_eq_true rfl)⟩⟩ rfl rfl (Nat.le_of_ble_eq_true rfl) dX9_isEast_7) (fun r hh n1 hpp => ?_)
  obtain ⟨rfl, bo_y2, hn, c_m, ff⟩ := hpp
  replace hn : n = n1 := Eq.symm hn
  subst hn
  replace b_m : bM k m y2.2 hh := c_m
  clear c_m
  replace ff : rx_fr [(m, 9)] _ hh := ff
  replace fr := rx_frt fr ff (fun a ha => ⟨ha.1, trivial⟩)
  refine rx_if_ne C dX9_isEast_10 27 (by decide) (fun c3 => ?_) (fun c3 => ?_)
  · rw [if_neg c3] at hF
    refine rx_iconst C dX9_isEast_27 (0 : Int32) (by decide) ?_
    obtain rfl := Option.some.inj hF
    exact rx_zret C (rx_nz (Or.inl rfl)) dX9_isEast_28 (Nat.le_refl _) (Nat.le_refl _) ⟨rfl, (Or.inl rfl), rfl, b_m, fr⟩
  · rw [if_pos c3] at hF
    refine rx_aload_n C dX9_isEast_13 0 rfl ?_
    refine rx_iload_n C dX9_isEast_14 1 rfl ?_
    refine rx_iconst C dX9_isEast_15 (1 : Int32) (by decide) ?_
    replace hF := rx_biE hF; obtain ⟨y4, e_y4, hF⟩ := hF
    refine rx_ci (rx_rV C (w_X9_of e_y4 b_m) Y_X9_of V_X9_of m_X9_60 (Or.inl ⟨_, _, _, _, b_m.1, rfl⟩) ⟨⟨rfl, rfl⟩, ⟨(Nat.le_of_ble_eq_true rfl), (Nat.le_of_ble_eq_true rfl)⟩, ⟨(Nat.le_of_ble_eq_true rfl), (Nat.le_of_ble_eq_true rfl)⟩⟩ rfl rfl (Nat.le_of_ble_eq_true rfl) dX9_isEast_16) (fun r hh n1 hpp => ?_)
    obtain ⟨rfl, hu⟩ := hpp
    cases hu
    refine rx_iconst C dX9_isEast_19 (1 : Int32) (by decide) ?_
    refine rx_icmp_ne C dX9_isEast_20 27 (by decide) (fun c5 => ?_) (fun c5 => ?_)
    · rw [if_neg c5] at hF
      refine rx_iconst C dX9_isEast_27 (0 : Int32) (by decide) ?_
      obtain rfl := Option.some.inj hF
      exact rx_zret C (rx_nz (Or.inl rfl)) dX9_isEast_28 (Nat.le_refl _) (Nat.le_refl _) ⟨rfl, (Or.inl rfl), rfl, b_m, fr⟩
    · rw [if_pos c5] at hF
      refine rx_iconst C dX9_isEast_23 (1 : Int32) (by decide) ?_
      refine rx_goto C dX9_isEast_24 28 (by decide) ?_
      obtain rfl := Option.some.inj hF
      exact rx_zret C (rx_nz (Or.inr rfl)) dX9_isEast_28 (Nat.le_refl _) (Nat.le_refl _) ⟨rfl, (Or.inr rfl), rfl, b_m, fr⟩
def F_X9_asked (om : ob) (x1 : Int32) (x2 : Int32) : Option (Int32 × ob) := rx_le (upd om.1 0 ((0 : Int32)), om.2) fun o_m_1 => (F_X9_noOne o_m_1 x1).bind fun y2 => if y2.1 = (0 : Int32) then ((F_X9_of y2.2 x1 x2).bind fun y4 => some (y4, y2.2)) else (some ((0 : Int32), y2.2))
set_option maxRecDepth 100000 in
set_option maxHeartbeats 4000000 in
theorem w_X9_asked {m : Nat} {om : ob} {x1 : Int32} {x2 : Int32} {y : Int32 × ob} (hF : F_X9_asked om x1 x2 = some y) (b_m : bM k m om h) : Met l yX9_asked (rx_ws yX9_asked cX9_asked 3 (some .int)) (rx_rm 2 43) (va_Pc [.ref m, .int x1, .int x2] (rx_G G k h n)) (va_Qi (fun r u => y.1 = r ∧ u.2 = n ∧ bM k m y.2 u.1 ∧ rx_fr [(m, 9)] h u.1) (rx_B G k) (rx_A k)) 0 0 (rx_A k) := by
  refine rx_start [(0, .ref m), (1, .int x1), (2, .int x2)] rfl (Nat.le_of_ble_eq_true rfl) (by decide) rfl (fun P9 E9 S9 M9 A9 B9 me9 c9 C hname => ?_)
  unfold F_X9_asked at hF
  have fr : rx_fr [(m, 9)] h h := rx_fr0
  refine rx_aload_n C dX9_asked_0 0 rfl ?_
  refine rx_iconst C dX9_asked_1 (0 : Int32) (by decide) ?_
  replace hF := rx_leE hF; obtain ⟨o_m_1, e_o_m_1, hF⟩ := hF
  refine rx_pM0 C f_X9_1 dX9_asked_2 b_m e_o_m_1 (fun hh c_m ff => ?_)
  replace b_m := c_m
  replace fr := rx_frt fr ff (fun a ha => ⟨ha.1, trivial⟩)
  refine rx_aload_n C dX9_asked_5 0 rfl ?_
  refine rx_iload_n C dX9_asked_6 1 rfl ?_
  replace hF := rx_biE hF; obtain ⟨y2, e_y2, hF⟩ := hF
  refine rx_ci (rx_rV C (w_X9_noOne e_y2 b_m) Y_X9_noOne V_X9_noOne m_X9_263 (Or.inl ⟨_, _, _, _, b_m.1, rfl⟩) ⟨⟨rfl, rfl⟩, ⟨(Nat.le_of_ble_eq_true rfl), (Nat.le_of_ble_eq_true rfl)⟩, ⟨(Nat.le_of_ble_eq_true rfl), (Nat.le_of_ble_eq_true rfl)⟩⟩ rfl rfl (Nat.le_of_ble_eq_true rfl) dX9_asked_7) (fun r hh n1 hpp => ?_)
  obtain ⟨rfl, bo_y2, hn, c_m, ff⟩ := hpp
  replace hn : n = n1 := Eq.symm hn
  subst hn
  replace b_m : bM k m y2.2 hh := c_m
  clear c_m
  replace ff : rx_fr [(m, 9)] _ hh := ff
  replace fr := rx_frt fr ff (fun a ha => ⟨ha.1, trivial⟩)
  refine rx_if_eq C dX9_asked_10 17 (by decide) (fun c3 => ?_) (fun c3 => ?_)
  · rw [if_pos c3] at hF
    refine rx_aload_n C dX9_asked_17 0 rfl ?_
    refine rx_iload_n C dX9_asked_18 1 rfl ?_
    refine rx_iload_n C dX9_asked_19 2 rfl ?_
    replace hF := rx_biE hF; obtain ⟨y4, e_y4, hF⟩ := hF
    refine rx_ci (rx_rV C (w_X9_of e_y4 b_m) Y_X9_of V_X9_of m_X9_60 (Or.inl ⟨_, _, _, _, b_m.1, rfl⟩) ⟨⟨rfl, rfl⟩, ⟨(Nat.le_of_ble_eq_true rfl), (Nat.le_of_ble_eq_true rfl)⟩, ⟨(Nat.le_of_ble_eq_true rfl), (Nat.le_of_ble_eq_true rfl)⟩⟩ rfl rfl (Nat.le_of_ble_eq_true rfl) dX9_asked_20) (fun r hh n1 hpp => ?_)
    obtain ⟨rfl, hu⟩ := hpp
    cases hu
    obtain rfl := Option.some.inj hF
    exact rx_iret C dX9_asked_23 (Nat.le_refl _) (Nat.le_refl _) ⟨rfl, rfl, b_m, fr⟩
  · rw [if_neg c3] at hF
    refine rx_iconst C dX9_asked_13 (0 : Int32) (by decide) ?_
    refine rx_goto C dX9_asked_14 23 (by decide) ?_
    obtain rfl := Option.some.inj hF
    exact rx_iret C dX9_asked_23 (Nat.le_refl _) (Nat.le_refl _) ⟨rfl, rfl, b_m, fr⟩
def F_X9_coins (om : ob) (x1 : Int32) : Option (Int32 × ob) := (F_X9_asked om x1 ((2 : Int32))).bind fun y1 => some (y1.1, y1.2)
set_option maxRecDepth 100000 in
set_option maxHeartbeats 4000000 in
theorem w_X9_coins {m : Nat} {om : ob} {x1 : Int32} {y : Int32 × ob} (hF : F_X9_coins om x1 = some y) (b_m : bM k m om h) : Met l yX9_coins (rx_ws yX9_coins cX9_coins 2 (some .int)) (rx_rm 3 65) (va_Pc [.ref m, .int x1] (rx_G G k h n)) (va_Qi (fun r u => y.1 = r ∧ u.2 = n ∧ bM k m y.2 u.1 ∧ rx_fr [(m, 9)] h u.1) (rx_B G k) (rx_A k)) 0 0 (rx_A k) := by
  refine rx_start [(0, .ref m), (1, .int x1)] rfl (Nat.le_of_ble_eq_true rfl) (by decide) rfl (fun P9 E9 S9 M9 A9 B9 me9 c9 C hname => ?_)
  unfold F_X9_coins at hF
  have fr : rx_fr [(m, 9)] h h := rx_fr0
  refine rx_aload_n C dX9_coins_0 0 rfl ?_
  refine rx_iload_n C dX9_coins_1 1 rfl ?_
  refine rx_iconst C dX9_coins_2 (2 : Int32) (by decide) ?_
  replace hF := rx_biE hF; obtain ⟨y1, e_y1, hF⟩ := hF
  refine rx_ci (rx_rV C (w_X9_asked e_y1 b_m) Y_X9_asked V_X9_asked m_X9_266 (Or.inl ⟨_, _, _, _, b_m.1, rfl⟩) ⟨⟨rfl, rfl⟩, ⟨(Nat.le_of_ble_eq_true rfl), (Nat.le_of_ble_eq_true rfl)⟩, ⟨(Nat.le_of_ble_eq_true rfl), (Nat.le_of_ble_eq_true rfl)⟩⟩ rfl rfl (Nat.le_of_ble_eq_true rfl) dX9_coins_3) (fun r hh n1 hpp => ?_)
  obtain ⟨rfl, hn, c_m, ff⟩ := hpp
  replace hn : n = n1 := Eq.symm hn
  subst hn
  replace b_m : bM k m y1.2 hh := c_m
  clear c_m
  replace ff : rx_fr [(m, 9)] _ hh := ff
  replace fr := rx_frt fr ff (fun a ha => ⟨ha.1, trivial⟩)
  obtain rfl := Option.some.inj hF
  exact rx_iret C dX9_coins_6 (Nat.le_refl _) (Nat.le_refl _) ⟨rfl, rfl, b_m, fr⟩
def F_X9_pride (om : ob) (x1 : Int32) : Option (Int32 × ob) := (F_X9_asked om x1 ((3 : Int32))).bind fun y1 => some (y1.1, y1.2)
set_option maxRecDepth 100000 in
set_option maxHeartbeats 4000000 in
theorem w_X9_pride {m : Nat} {om : ob} {x1 : Int32} {y : Int32 × ob} (hF : F_X9_pride om x1 = some y) (b_m : bM k m om h) : Met l yX9_pride (rx_ws yX9_pride cX9_pride 2 (some .int)) (rx_rm 3 65) (va_Pc [.ref m, .int x1] (rx_G G k h n)) (va_Qi (fun r u => y.1 = r ∧ u.2 = n ∧ bM k m y.2 u.1 ∧ rx_fr [(m, 9)] h u.1) (rx_B G k) (rx_A k)) 0 0 (rx_A k) := by
  refine rx_start [(0, .ref m), (1, .int x1)] rfl (Nat.le_of_ble_eq_true rfl) (by decide) rfl (fun P9 E9 S9 M9 A9 B9 me9 c9 C hname => ?_)
  unfold F_X9_pride at hF
  have fr : rx_fr [(m, 9)] h h := rx_fr0
  refine rx_aload_n C dX9_pride_0 0 rfl ?_
  refine rx_iload_n C dX9_pride_1 1 rfl ?_
  refine rx_iconst C dX9_pride_2 (3 : Int32) (by decide) ?_
  replace hF := rx_biE hF; obtain ⟨y1, e_y1, hF⟩ := hF
  refine rx_ci (rx_rV C (w_X9_asked e_y1 b_m) Y_X9_asked V_X9_asked m_X9_266 (Or.inl ⟨_, _, _, _, b_m.1, rfl⟩) ⟨⟨rfl, rfl⟩, ⟨(Nat.le_of_ble_eq_true rfl), (Nat.le_of_ble_eq_true rfl)⟩, ⟨(Nat.le_of_ble_eq_true rfl), (Nat.le_of_ble_eq_true rfl)⟩⟩ rfl rfl (Nat.le_of_ble_eq_true rfl) dX9_pride_3) (fun r hh n1 hpp => ?_)
  obtain ⟨rfl, hn, c_m, ff⟩ := hpp
  replace hn : n = n1 := Eq.symm hn
  subst hn
  replace b_m : bM k m y1.2 hh := c_m
  clear c_m
  replace ff : rx_fr [(m, 9)] _ hh := ff
  replace fr := rx_frt fr ff (fun a ha => ⟨ha.1, trivial⟩)
  obtain rfl := Option.some.inj hF
  exact rx_iret C dX9_pride_6 (Nat.le_refl _) (Nat.le_refl _) ⟨rfl, rfl, b_m, fr⟩
def F_X9_rags (om : ob) (x1 : Int32) : Option (Int32 × ob) := (F_X9_asked om x1 ((4 : Int32))).bind fun y1 => some (y1.1, y1.2)
set_option maxRecDepth 100000 in
set_option maxHeartbeats 4000000 in
theorem w_X9_rags {m : Nat} {om : ob} {x1 : Int32} {y : Int32 × ob} (hF : F_X9_rags om x1 = some y) (b_m : bM k m om h) : Met l yX9_rags (rx_ws yX9_rags cX9_rags 2 (some .int)) (rx_rm 3 65) (va_Pc [.ref m, .int x1] (rx_G G k h n)) (va_Qi (fun r u => y.1 = r ∧ u.2 = n ∧ bM k m y.2 u.1 ∧ rx_fr [(m, 9)] h u.1) (rx_B G k) (rx_A k)) 0 0 (rx_A k) := by
  refine rx_start [(0, .ref m), (1, .int x1)] rfl (Nat.le_of_ble_eq_true rfl) (by decide) rfl (fun P9 E9 S9 M9 A9 B9 me9 c9 C hname => ?_)
  unfold F_X9_rags at hF
  have fr : rx_fr [(m, 9)] h h := rx_fr0
  refine rx_aload_n C dX9_rags_0 0 rfl ?_
  refine rx_iload_n C dX9_rags_1 1 rfl ?_
  refine rx_iconst C dX9_rags_2 (4 : Int32) (by decide) ?_
  replace hF := rx_biE hF; obtain ⟨y1, e_y1, hF⟩ := hF
  refine rx_ci (rx_rV C (w_X9_asked e_y1 b_m) Y_X9_asked V_X9_asked m_X9_266 (Or.inl ⟨_, _, _, _, b_m.1, rfl⟩) ⟨⟨rfl, rfl⟩, ⟨(Nat.le_of_ble_eq_true rfl), (Nat.le_of_ble_eq_true rfl)⟩, ⟨(Nat.le_of_ble_eq_true rfl), (Nat.le_of_ble_eq_true rfl)⟩⟩ rfl rfl (Nat.le_of_ble_eq_true rfl) dX9_rags_3) (fun r hh n1 hpp => ?_)
  obtain ⟨rfl, hn, c_m, ff⟩ := hpp
  replace hn : n = n1 := Eq.symm hn
  subst hn
  replace b_m : bM k m y1.2 hh := c_m
  clear c_m
  replace ff : rx_fr [(m, 9)] _ hh := ff
  replace fr := rx_frt fr ff (fun a ha => ⟨ha.1, trivial⟩)
  obtain rfl := Option.some.inj hF
  exact rx_iret C dX9_rags_6 (Nat.le_refl _) (Nat.le_refl _) ⟨rfl, rfl, b_m, fr⟩
def F_X9_rank (om : ob) (x1 : Int32) : Option (Int32 × ob) := rx_le (upd om.1 0 ((0 : Int32)), om.2) fun o_m_1 => (F_X9_noOne o_m_1 x1).bind fun y2 => if y2.1 = (0 : Int32) then ((rx_ald 144 (y2.2.2 1) (((92 : Int32) + x1))).bind fun v4 => some (v4, y2.2)) else (some ((0 : Int32), y2.2))
set_option maxRecDepth 100000 in
set_option maxHeartbeats 4000000 in
theorem w_X9_rank {m : Nat} {om : ob} {x1 : Int32} {y : Int32 × ob} (hF : F_X9_rank om x1 = some y) (b_m : bM k m om h) : Met l yX9_rank (rx_ws yX9_rank cX9_rank 2 (some .int)) (rx_rm 2 43) (va_Pc [.ref m, .int x1] (rx_G G k h n)) (va_Qi (fun r u => y.1 = r ∧ u.2 = n ∧ bM k m y.2 u.1 ∧ rx_fr [(m, 9)] h u.1) (rx_B G k) (rx_A k)) 0 0 (rx_A k) := by
  refine rx_start [(0, .ref m), (1, .int x1)] rfl (Nat.le_of_ble_eq_true rfl) (by decide) rfl (fun P9 E9 S9 M9 A9 B9 me9 c9 C hname => ?_)
  unfold F_X9_rank at hF
  have fr : rx_fr [(m, 9)] h h := rx_fr0
  refine rx_aload_n C dX9_rank_0 0 rfl ?_
  refine rx_iconst C dX9_rank_1 (0 : Int32) (by decide) ?_
  replace hF := rx_leE hF; obtain ⟨o_m_1, e_o_m_1, hF⟩ := hF
  refine rx_pM0 C f_X9_1 dX9_rank_2 b_m e_o_m_1 (fun hh c_m ff => ?_)
  replace b_m := c_m
  replace fr := rx_frt fr ff (fun a ha => ⟨ha.1, trivial⟩)
  refine rx_aload_n C dX9_rank_5 0 rfl ?_
  refine rx_iload_n C dX9_rank_6 1 rfl ?_
  replace hF := rx_biE hF; obtain ⟨y2, e_y2, hF⟩ := hF
  refine rx_ci (rx_rV C (w_X9_noOne e_y2 b_m) Y_X9_noOne V_X9_noOne m_X9_263 (Or.inl ⟨_, _, _, _, b_m.1, rfl⟩) ⟨⟨rfl, rfl⟩, ⟨(Nat.le_of_ble_eq_true rfl), (Nat.le_of_ble_eq_true rfl)⟩, ⟨(Nat.le_of_ble_eq_true rfl), (Nat.le_of_ble_eq_true rfl)⟩⟩ rfl rfl (Nat.le_of_ble_eq_true rfl) dX9_rank_7) (fun r hh n1 hpp => ?_)
  obtain ⟨rfl, bo_y2, hn, c_m, ff⟩ := hpp
  replace hn : n = n1 := Eq.symm hn
  subst hn
  replace b_m : bM k m y2.2 hh := c_m
  clear c_m
  replace ff : rx_fr [(m, 9)] _ hh := ff
  replace fr := rx_frt fr ff (fun a ha => ⟨ha.1, trivial⟩)
  refine rx_if_eq C dX9_rank_10 17 (by decide) (fun c3 => ?_) (fun c3 => ?_)
  · rw [if_pos c3] at hF
    refine rx_aload_n C dX9_rank_17 0 rfl ?_
    refine rx_getf C f_X9_13 dX9_rank_18 b_m.1 rfl ?_
    refine rx_bipush C dX9_rank_21 (92 : Int32) (by decide) ?_
    refine rx_iload_n C dX9_rank_23 1 rfl ?_
    refine rx_iadd C dX9_rank_24 ?_
    replace hF := rx_biE hF; obtain ⟨v4, e_v4, hF⟩ := hF
    refine rx_aldF C dX9_rank_25 b_m.2.1 e_v4 ?_
    obtain rfl := Option.some.inj hF
    exact rx_iret C dX9_rank_26 (Nat.le_refl _) (Nat.le_refl _) ⟨rfl, rfl, b_m, fr⟩
  · rw [if_neg c3] at hF
    refine rx_iconst C dX9_rank_13 (0 : Int32) (by decide) ?_
    refine rx_goto C dX9_rank_14 26 (by decide) ?_
    obtain rfl := Option.some.inj hF
    exact rx_iret C dX9_rank_26 (Nat.le_refl _) (Nat.le_refl _) ⟨rfl, rfl, b_m, fr⟩
def F_X9_wearer_17 (x1 : Int32) : Nat → ob → Int32 → Option (Int32 × ob)
  | 0, _, _ => none
  | fu + 1, om, x2 => (F_X9_of om x2 ((4 : Int32))).bind fun y6 => if y6 = x1 then (some (x2, om)) else (F_X9_wearer_17 x1 fu om ((x2 + 1)))
def F_X9_wearer (om : ob) (x1 : Int32) : Option (Int32 × ob) := rx_le (upd om.1 0 ((0 : Int32)), om.2) fun o_m_1 => (F_X9_noOne o_m_1 x1).bind fun y2 => if y2.1 = (0 : Int32) then ((F_X9_wearer_17 x1 100000 y2.2 ((0 : Int32))).bind fun zl8 => some (zl8.1, zl8.2)) else (some ((0 : Int32), y2.2))
set_option maxRecDepth 100000 in
set_option maxHeartbeats 4000000 in
theorem w_X9_wearer {m : Nat} {om : ob} {x1 : Int32} {y : Int32 × ob} (hF : F_X9_wearer om x1 = some y) (b_m : bM k m om h) : Met l yX9_wearer (rx_ws yX9_wearer cX9_wearer 3 (some .int)) (rx_rm 2 43) (va_Pc [.ref m, .int x1] (rx_G G k h n)) (va_Qi (fun r u => y.1 = r ∧ u.2 = n ∧ bM k m y.2 u.1 ∧ rx_fr [(m, 9)] h u.1) (rx_B G k) (rx_A k)) 0 0 (rx_A k) := by
  refine rx_start [(0, .ref m), (1, .int x1)] rfl (Nat.le_of_ble_eq_true rfl) (by decide) rfl (fun P9 E9 S9 M9 A9 B9 me9 c9 C hname => ?_)
  unfold F_X9_wearer at hF
  have fr : rx_fr [(m, 9)] h h := rx_fr0
  refine rx_aload_n C dX9_wearer_0 0 rfl ?_
  refine rx_iconst C dX9_wearer_1 (0 : Int32) (by decide) ?_
  replace hF := rx_leE hF; obtain ⟨o_m_1, e_o_m_1, hF⟩ := hF
  refine rx_pM0 C f_X9_1 dX9_wearer_2 b_m e_o_m_1 (fun hh c_m ff => ?_)
  replace b_m := c_m
  replace fr := rx_frt fr ff (fun a ha => ⟨ha.1, trivial⟩)
  refine rx_aload_n C dX9_wearer_5 0 rfl ?_
  refine rx_iload_n C dX9_wearer_6 1 rfl ?_
  replace hF := rx_biE hF; obtain ⟨y2, e_y2, hF⟩ := hF
  refine rx_ci (rx_rV C (w_X9_noOne e_y2 b_m) Y_X9_noOne V_X9_noOne m_X9_263 (Or.inl ⟨_, _, _, _, b_m.1, rfl⟩) ⟨⟨rfl, rfl⟩, ⟨(Nat.le_of_ble_eq_true rfl), (Nat.le_of_ble_eq_true rfl)⟩, ⟨(Nat.le_of_ble_eq_true rfl), (Nat.le_of_ble_eq_true rfl)⟩⟩ rfl rfl (Nat.le_of_ble_eq_true rfl) dX9_wearer_7) (fun r hh n1 hpp => ?_)
  obtain ⟨rfl, bo_y2, hn, c_m, ff⟩ := hpp
  replace hn : n = n1 := Eq.symm hn
  subst hn
  replace b_m : bM k m y2.2 hh := c_m
  clear c_m
  replace ff : rx_fr [(m, 9)] _ hh := ff
  replace fr := rx_frt fr ff (fun a ha => ⟨ha.1, trivial⟩)
  refine rx_if_eq C dX9_wearer_10 15 (by decide) (fun c3 => ?_) (fun c3 => ?_)
  · rw [if_pos c3] at hF
    refine rx_iconst C dX9_wearer_15 (0 : Int32) (by decide) ?_
    refine rx_istore_n C dX9_wearer_16 (by decide) [(2, .int ((0 : Int32))), (0, .ref m), (1, .int x1)] rfl ?_
    have loop5 : ∀ (fu : Nat) (zz : Int32 × ob) (om : ob) (x2 : Int32) (hh : hp), F_X9_wearer_17 x1 fu om x2 = some zz → bM k m om hh → rx_fr [(m, 9)] h hh → (∀ hh : hp, bM k m zz.2 hh → rx_fr [(m, 9)] h hh → rx_W P9 l E9 (rx_rm 2 43) S9 M9 A9 B9 me9 c9 (MQ B9 (va_Qi (fun r u => y.1 = r ∧ u.2 = n ∧ bM k m y.2 u.1 ∧ rx_fr [(m, 9)] h u.1) (rx_B G k) (rx_A k)) A9 S9 0 0 (rx_A k)) G k 3 0 0 hh n 33 [(0, .ref m), (1, .int x1), (2, .int zz.1)] []) → rx_W P9 l E9 (rx_rm 2 43) S9 M9 A9 B9 me9 c9 (MQ B9 (va_Qi (fun r u => y.1 = r ∧ u.2 = n ∧ bM k m y.2 u.1 ∧ rx_fr [(m, 9)] h u.1) (rx_B G k) (rx_A k)) A9 S9 0 0 (rx_A k)) G k 3 0 0 hh n 17 [(0, .ref m), (1, .int x1), (2, .int x2)] [] := by
      intro fu
      induction fu with
      | zero => intro zz om x2 hh hF b_m fr KK; exact absurd hF (by simp [F_X9_wearer_17])
      | succ fu ih_loop5 =>
        intro zz om x2 hh hF b_m fr KK
        unfold F_X9_wearer_17 at hF
        refine rx_aload_n C dX9_wearer_17 0 rfl ?_
        refine rx_iload_n C dX9_wearer_18 2 rfl ?_
        refine rx_iconst C dX9_wearer_19 (4 : Int32) (by decide) ?_
        replace hF := rx_biE hF; obtain ⟨y6, e_y6, hF⟩ := hF
        refine rx_ci (rx_rV C (w_X9_of e_y6 b_m) Y_X9_of V_X9_of m_X9_60 (Or.inl ⟨_, _, _, _, b_m.1, rfl⟩) ⟨⟨rfl, rfl⟩, ⟨(Nat.le_of_ble_eq_true rfl), (Nat.le_of_ble_eq_true rfl)⟩, ⟨(Nat.le_of_ble_eq_true rfl), (Nat.le_of_ble_eq_true rfl)⟩⟩ rfl rfl (Nat.le_of_ble_eq_true rfl) dX9_wearer_20) (fun r hh n1 hpp => ?_)
        obtain ⟨rfl, hu⟩ := hpp
        cases hu
        refine rx_iload_n C dX9_wearer_23 1 rfl ?_
        refine rx_icmp_eq C dX9_wearer_24 33 (by decide) (fun c7 => ?_) (fun c7 => ?_)
        · rw [if_pos c7] at hF
          obtain rfl := Option.some.inj hF
          refine rx_sub [0, 1, 2] rfl ?_
          exact KK _ b_m fr
        · rw [if_neg c7] at hF
          refine rx_iinc C dX9_wearer_27 2 rfl (x2 + 1) rfl (by decide) [(2, .int ((x2 + 1))), (0, .ref m), (1, .int x1)] rfl ?_
          refine rx_goto C dX9_wearer_30 17 (by decide) ?_
          refine rx_sub [1, 2, 0] rfl ?_
          exact ih_loop5 _ _ _ _ hF b_m fr KK
    refine rx_sub [1, 2, 0] rfl ?_
    replace hF := rx_biE hF; obtain ⟨zl8, e_zl8, hF⟩ := hF
    refine loop5 _ zl8 _ _ _ e_zl8 b_m fr (fun hh b_m fr => ?_)
    refine rx_iload_n C dX9_wearer_33 2 rfl ?_
    obtain rfl := Option.some.inj hF
    exact rx_iret C dX9_wearer_34 (Nat.le_refl _) (Nat.le_refl _) ⟨rfl, rfl, b_m, fr⟩
  · rw [if_neg c3] at hF
    refine rx_iconst C dX9_wearer_13 (0 : Int32) (by decide) ?_
    obtain rfl := Option.some.inj hF
    exact rx_iret C dX9_wearer_14 (Nat.le_refl _) (Nat.le_refl _) ⟨rfl, rfl, b_m, fr⟩
def F_X9_crossings (om : ob) (x1 : Int32) : Option (Int32 × ob) := (F_X9_asked om x1 ((5 : Int32))).bind fun y1 => some (y1.1, y1.2)
set_option maxRecDepth 100000 in
set_option maxHeartbeats 4000000 in
theorem w_X9_crossings {m : Nat} {om : ob} {x1 : Int32} {y : Int32 × ob} (hF : F_X9_crossings om x1 = some y) (b_m : bM k m om h) : Met l yX9_crossings (rx_ws yX9_crossings cX9_crossings 2 (some .int)) (rx_rm 3 65) (va_Pc [.ref m, .int x1] (rx_G G k h n)) (va_Qi (fun r u => y.1 = r ∧ u.2 = n ∧ bM k m y.2 u.1 ∧ rx_fr [(m, 9)] h u.1) (rx_B G k) (rx_A k)) 0 0 (rx_A k) := by
  refine rx_start [(0, .ref m), (1, .int x1)] rfl (Nat.le_of_ble_eq_true rfl) (by decide) rfl (fun P9 E9 S9 M9 A9 B9 me9 c9 C hname => ?_)
  unfold F_X9_crossings at hF
  have fr : rx_fr [(m, 9)] h h := rx_fr0
  refine rx_aload_n C dX9_crossings_0 0 rfl ?_
  refine rx_iload_n C dX9_crossings_1 1 rfl ?_
  refine rx_iconst C dX9_crossings_2 (5 : Int32) (by decide) ?_
  replace hF := rx_biE hF; obtain ⟨y1, e_y1, hF⟩ := hF
  refine rx_ci (rx_rV C (w_X9_asked e_y1 b_m) Y_X9_asked V_X9_asked m_X9_266 (Or.inl ⟨_, _, _, _, b_m.1, rfl⟩) ⟨⟨rfl, rfl⟩, ⟨(Nat.le_of_ble_eq_true rfl), (Nat.le_of_ble_eq_true rfl)⟩, ⟨(Nat.le_of_ble_eq_true rfl), (Nat.le_of_ble_eq_true rfl)⟩⟩ rfl rfl (Nat.le_of_ble_eq_true rfl) dX9_crossings_3) (fun r hh n1 hpp => ?_)
  obtain ⟨rfl, hn, c_m, ff⟩ := hpp
  replace hn : n = n1 := Eq.symm hn
  subst hn
  replace b_m : bM k m y1.2 hh := c_m
  clear c_m
  replace ff : rx_fr [(m, 9)] _ hh := ff
  replace fr := rx_frt fr ff (fun a ha => ⟨ha.1, trivial⟩)
  obtain rfl := Option.some.inj hF
  exact rx_iret C dX9_crossings_6 (Nat.le_refl _) (Nat.le_refl _) ⟨rfl, rfl, b_m, fr⟩
def F_X9_richest_9 : Nat → ob → Int32 → Int32 → Option (Int32 × Int32 × ob)
  | 0, _, _, _ => none
  | fu + 1, om, x1, x2 => (rx_ald 144 (om.2 1) ((8 : Int32))).bind fun v4 => if v4 ≤ x2 then (some (x1, x2, om)) else ((F_X9_of om x2 ((2 : Int32))).bind fun y6 => (F_X9_of om x1 ((2 : Int32))).bind fun y7 => (if y6 ≤ y7 then (some (x1, om)) else (some (x2, om))).bind fun zj8 => F_X9_richest_9  fu zj8.2 zj8.1 ((x2 + 1)))
def F_X9_richest (om : ob) : Option (Int32 × ob) := rx_le (upd om.1 0 ((0 : Int32)), om.2) fun o_m_1 => (F_X9_richest_9  100000 o_m_1 ((0 : Int32)) ((1 : Int32))).bind fun zl11 => some (zl11.1, zl11.2.2)
set_option maxRecDepth 100000 in
set_option maxHeartbeats 4000000 in
theorem w_X9_richest {m : Nat} {om : ob} {y : Int32 × ob} (hF : F_X9_richest om = some y) (b_m : bM k m om h) : Met l yX9_richest (rx_ws yX9_richest cX9_richest 3 (some .int)) (rx_rm 1 22) (va_Pc [.ref m] (rx_G G k h n)) (va_Qi (fun r u => y.1 = r ∧ u.2 = n ∧ bM k m y.2 u.1 ∧ rx_fr [(m, 9)] h u.1) (rx_B G k) (rx_A k)) 0 0 (rx_A k) := by
  refine rx_start [(0, .ref m)] rfl (Nat.le_of_ble_eq_true rfl) (by decide) rfl (fun P9 E9 S9 M9 A9 B9 me9 c9 C hname => ?_)
  unfold F_X9_richest at hF
  have fr : rx_fr [(m, 9)] h h := rx_fr0
  refine rx_aload_n C dX9_richest_0 0 rfl ?_
  refine rx_iconst C dX9_richest_1 (0 : Int32) (by decide) ?_
  replace hF := rx_leE hF; obtain ⟨o_m_1, e_o_m_1, hF⟩ := hF
  refine rx_pM0 C f_X9_1 dX9_richest_2 b_m e_o_m_1 (fun hh c_m ff => ?_)
  replace b_m := c_m
  replace fr := rx_frt fr ff (fun a ha => ⟨ha.1, trivial⟩)
  refine rx_iconst C dX9_richest_5 (0 : Int32) (by decide) ?_
  refine rx_istore_n C dX9_richest_6 (by decide) [(1, .int ((0 : Int32))), (0, .ref m)] rfl ?_
  refine rx_iconst C dX9_richest_7 (1 : Int32) (by decide) ?_
  refine rx_istore_n C dX9_richest_8 (by decide) [(2, .int ((1 : Int32))), (1, .int ((0 : Int32))), (0, .ref m)] rfl ?_
  have loop3 : ∀ (fu : Nat) (zz : Int32 × Int32 × ob) (om : ob) (x1 : Int32) (x2 : Int32) (hh : hp), F_X9_richest_9  fu om x1 x2 = some zz → bM k m om hh → rx_fr [(m, 9)] h hh → (∀ hh : hp, bM k m zz.2.2 hh → rx_fr [(m, 9)] h hh → rx_W P9 l E9 (rx_rm 1 22) S9 M9 A9 B9 me9 c9 (MQ B9 (va_Qi (fun r u => y.1 = r ∧ u.2 = n ∧ bM k m y.2 u.1 ∧ rx_fr [(m, 9)] h u.1) (rx_B G k) (rx_A k)) A9 S9 0 0 (rx_A k)) G k 3 0 0 hh n 43 [(0, .ref m), (1, .int zz.1), (2, .int zz.2.1)] []) → rx_W P9 l E9 (rx_rm 1 22) S9 M9 A9 B9 me9 c9 (MQ B9 (va_Qi (fun r u => y.1 = r ∧ u.2 = n ∧ bM k m y.2 u.1 ∧ rx_fr [(m, 9)] h u.1) (rx_B G k) (rx_A k)) A9 S9 0 0 (rx_A k)) G k 3 0 0 hh n 9 [(0, .ref m), (1, .int x1), (2, .int x2)] [] := by
    intro fu
    induction fu with
    | zero => intro zz om x1 x2 hh hF b_m fr KK; exact absurd hF (by simp [F_X9_richest_9])
    | succ fu ih_loop3 =>
      intro zz om x1 x2 hh hF b_m fr KK
      unfold F_X9_richest_9 at hF
      refine rx_iload_n C dX9_richest_9 2 rfl ?_
      refine rx_aload_n C dX9_richest_10 0 rfl ?_
      refine rx_getf C f_X9_13 dX9_richest_11 b_m.1 rfl ?_
      refine rx_bipush C dX9_richest_14 (8 : Int32) (by decide) ?_
      replace hF := rx_biE hF; obtain ⟨v4, e_v4, hF⟩ := hF
      refine rx_aldF C dX9_richest_16 b_m.2.1 e_v4 ?_
      refine rx_icmp_ge C dX9_richest_17 43 (by decide) (fun c5 => ?_) (fun c5 => ?_)
      · rw [if_pos c5] at hF
        obtain rfl := Option.some.inj hF
        refine rx_sub [0, 1, 2] rfl ?_
        exact KK _ b_m fr
      · rw [if_neg c5] at hF
        refine rx_aload_n C dX9_richest_20 0 rfl ?_
        refine rx_iload_n C dX9_richest_21 2 rfl ?_
        refine rx_iconst C dX9_richest_22 (2 : Int32) (by decide) ?_
        replace hF := rx_biE hF; obtain ⟨y6, e_y6, hF⟩ := hF
        refine rx_ci (rx_rV C (w_X9_of e_y6 b_m) Y_X9_of V_X9_of m_X9_60 (Or.inl ⟨_, _, _, _, b_m.1, rfl⟩) ⟨⟨rfl, rfl⟩, ⟨(Nat.le_of_ble_eq_true rfl), (Nat.le_of_ble_eq_true rfl)⟩, ⟨(Nat.le_of_ble_eq_true rfl), (Nat.le_of_ble_eq_true rfl)⟩⟩ rfl rfl (Nat.le_of_ble_eq_true rfl) dX9_richest_23) (fun r hh n1 hpp => ?_)
        obtain ⟨rfl, hu⟩ := hpp
        cases hu
        refine rx_aload_n C dX9_richest_26 0 rfl ?_
        refine rx_iload_n C dX9_richest_27 1 rfl ?_
        refine rx_iconst C dX9_richest_28 (2 : Int32) (by decide) ?_
        replace hF := rx_biE hF; obtain ⟨y7, e_y7, hF⟩ := hF
        refine rx_ci (rx_rV C (w_X9_of e_y7 b_m) Y_X9_of V_X9_of m_X9_60 (Or.inl ⟨_, _, _, _, b_m.1, rfl⟩) ⟨⟨rfl, rfl⟩, ⟨(Nat.le_of_ble_eq_true rfl), (Nat.le_of_ble_eq_true rfl)⟩, ⟨(Nat.le_of_ble_eq_true rfl), (Nat.le_of_ble_eq_true rfl)⟩⟩ rfl rfl (Nat.le_of_ble_eq_true rfl) dX9_richest_29) (fun r hh n1 hpp => ?_)
        obtain ⟨rfl, hu⟩ := hpp
        cases hu
        replace hF := rx_biE hF; obtain ⟨zj8, e_zj8, hF⟩ := hF
        have KJ9 : ∀ hh : hp, bM k m zj8.2 hh → rx_fr [(m, 9)] h hh → rx_W P9 l E9 (rx_rm 1 22) S9 M9 A9 B9 me9 c9 (MQ B9 (va_Qi (fun r u => y.1 = r ∧ u.2 = n ∧ bM k m y.2 u.1 ∧ rx_fr [(m, 9)] h u.1) (rx_B G k) (rx_A k)) A9 S9 0 0 (rx_A k)) G k 3 0 0 hh n 37 [(0, .ref m), (1, .int zj8.1), (2, .int x2)] [] := by
          intro hh b_m fr
          refine rx_iinc C dX9_richest_37 2 rfl (x2 + 1) rfl (by decide) [(2, .int ((x2 + 1))), (0, .ref m), (1, .int zj8.1)] rfl ?_
          refine rx_goto C dX9_richest_40 9 (by decide) ?_
          refine rx_sub [1, 2, 0] rfl ?_
          exact ih_loop3 _ _ _ _ _ hF b_m fr KK
        replace hF := e_zj8
        clear e_zj8
        refine rx_icmp_le C dX9_richest_32 37 (by decide) (fun c10 => ?_) (fun c10 => ?_)
        · rw [if_pos c10] at hF
          obtain rfl := Option.some.inj hF
          refine rx_sub [0, 1, 2] rfl ?_
          exact KJ9 _ b_m fr
        · rw [if_neg c10] at hF
          refine rx_iload_n C dX9_richest_35 2 rfl ?_
          refine rx_istore_n C dX9_richest_36 (by decide) [(1, .int x2), (0, .ref m), (2, .int x2)] rfl ?_
          obtain rfl := Option.some.inj hF
          refine rx_sub [1, 0, 2] rfl ?_
          exact KJ9 _ b_m fr
  refine rx_sub [2, 1, 0] rfl ?_
  replace hF := rx_biE hF; obtain ⟨zl11, e_zl11, hF⟩ := hF
  refine loop3 _ zl11 _ _ _ _ e_zl11 b_m fr (fun hh b_m fr => ?_)
  refine rx_iload_n C dX9_richest_43 1 rfl ?_
  obtain rfl := Option.some.inj hF
  exact rx_iret C dX9_richest_44 (Nat.le_refl _) (Nat.le_refl _) ⟨rfl, rfl, b_m, fr⟩
def F_X9_bowTo (om : ob) (x1 : Int32) (x2 : Int32) : Option (Int32 × ob) := rx_le (upd om.1 0 ((0 : Int32)), om.2) fun o_m_1 => (F_X9_noOne o_m_1 x1).bind fun y2 => if y2.1 = (0 : Int32) then ((F_X9_noOne y2.2 x2).bind fun y4 => if y4.1 = (0 : Int32) then (if x1 = x2 then ((F_X9_fails y4.2 ((0 : Int32)) ((2 : Int32))).bind fun y7 => if y7.1 = (0 : Int32) then ((F_X9_rankOf y7.2 x2).bind fun y9 => (F_X9_rankOf y7.2 x1).bind fun y10 => (F_X9_of y7.2 x1 ((3 : Int32))).bind fun y11 => (F_X9_isKingNow y7.2 x1).bind fun y12 => (F_X9_bow (((((45 : Int32) + y9) - y10) - y11)) y12).bind fun y13 => some (y13, y7.2)) else (some ((0 : Int32), y7.2))) else ((F_X9_fails y4.2 ((1 : Int32)) ((2 : Int32))).bind fun y14 => if y14.1 = (0 : Int32) then ((F_X9_rankOf y14.2 x2).bind fun y16 => (F_X9_rankOf y14.2 x1).bind fun y17 => (F_X9_of y14.2 x1 ((3 : Int32))).bind fun y18 => (F_X9_isKingNow y14.2 x1).bind fun y19 => (F_X9_bow (((((45 : Int32) + y16) - y17) - y18)) y19).bind fun y20 => some (y20, y14.2)) else (some ((0 : Int32), y14.2)))) else (some ((0 : Int32), y4.2))) else (some ((0 : Int32), y2.2))
set_option maxRecDepth 100000 in
set_option maxHeartbeats 4000000 in
theorem w_X9_bowTo {m : Nat} {om : ob} {x1 : Int32} {x2 : Int32} {y : Int32 × ob} (hF : F_X9_bowTo om x1 x2 = some y) (b_m : bM k m om h) : Met l yX9_bowTo (rx_ws yX9_bowTo cX9_bowTo 3 (some .int)) (rx_rm 2 43) (va_Pc [.ref m, .int x1, .int x2] (rx_G G k h n)) (va_Qi (fun r u => y.1 = r ∧ u.2 = n ∧ bM k m y.2 u.1 ∧ rx_fr [(m, 9)] h u.1) (rx_B G k) (rx_A k)) 0 0 (rx_A k) := by
  refine rx_start [(0, .ref m), (1, .int x1), (2, .int x2)] rfl (Nat.le_of_ble_eq_true rfl) (by decide) rfl (fun P9 E9 S9 M9 A9 B9 me9 c9 C hname => ?_)
  unfold F_X9_bowTo at hF
  have fr : rx_fr [(m, 9)] h h := rx_fr0
  refine rx_aload_n C dX9_bowTo_0 0 rfl ?_
  refine rx_iconst C dX9_bowTo_1 (0 : Int32) (by decide) ?_
  replace hF := rx_leE hF; obtain ⟨o_m_1, e_o_m_1, hF⟩ := hF
  refine rx_pM0 C f_X9_1 dX9_bowTo_2 b_m e_o_m_1 (fun hh c_m ff => ?_)
  replace b_m := c_m
  replace fr := rx_frt fr ff (fun a ha => ⟨ha.1, trivial⟩)
  refine rx_aload_n C dX9_bowTo_5 0 rfl ?_
  refine rx_iload_n C dX9_bowTo_6 1 rfl ?_
  replace hF := rx_biE hF; obtain ⟨y2, e_y2, hF⟩ := hF
  refine rx_ci (rx_rV C (w_X9_noOne e_y2 b_m) Y_X9_noOne V_X9_noOne m_X9_263 (Or.inl ⟨_, _, _, _, b_m.1, rfl⟩) ⟨⟨rfl, rfl⟩, ⟨(Nat.le_of_ble_eq_true rfl), (Nat.le_of_ble_eq_true rfl)⟩, ⟨(Nat.le_of_ble_eq_true rfl), (Nat.le_of_ble_eq_true rfl)⟩⟩ rfl rfl (Nat.le_of_ble_eq_true rfl) dX9_bowTo_7) (fun r hh n1 hpp => ?_)
  obtain ⟨rfl, bo_y2, hn, c_m, ff⟩ := hpp
  replace hn : n = n1 := Eq.symm hn
  subst hn
  replace b_m : bM k m y2.2 hh := c_m
  clear c_m
  replace ff : rx_fr [(m, 9)] _ hh := ff
  replace fr := rx_frt fr ff (fun a ha => ⟨ha.1, trivial⟩)
  refine rx_if_ne C dX9_bowTo_10 39 (by decide) (fun c3 => ?_) (fun c3 => ?_)
  · rw [if_neg c3] at hF
    refine rx_iconst C dX9_bowTo_39 (0 : Int32) (by decide) ?_
    obtain rfl := Option.some.inj hF
    exact rx_iret C dX9_bowTo_40 (Nat.le_refl _) (Nat.le_refl _) ⟨rfl, rfl, b_m, fr⟩
  · rw [if_pos c3] at hF
    refine rx_aload_n C dX9_bowTo_13 0 rfl ?_
    refine rx_iload_n C dX9_bowTo_14 2 rfl ?_
    replace hF := rx_biE hF; obtain ⟨y4, e_y4, hF⟩ := hF
    refine rx_ci (rx_rV C (w_X9_noOne e_y4 b_m) Y_X9_noOne V_X9_noOne m_X9_263 (Or.inl ⟨_, _, _, _, b_m.1, rfl⟩) ⟨⟨rfl, rfl⟩, ⟨(Nat.le_of_ble_eq_true rfl), (Nat.le_of_ble_eq_true rfl)⟩, ⟨(Nat.le_of_ble_eq_true rfl), (Nat.le_of_ble_eq_true rfl)⟩⟩ rfl rfl (Nat.le_of_ble_eq_true rfl) dX9_bowTo_15) (fun r hh n1 hpp => ?_)
    obtain ⟨rfl, bo_y4, hn, c_m, ff⟩ := hpp
    replace hn : n = n1 := Eq.symm hn
    subst hn
    replace b_m : bM k m y4.2 hh := c_m
    clear c_m
    replace ff : rx_fr [(m, 9)] _ hh := ff
    replace fr := rx_frt fr ff (fun a ha => ⟨ha.1, trivial⟩)
    refine rx_if_ne C dX9_bowTo_18 39 (by decide) (fun c5 => ?_) (fun c5 => ?_)
    · rw [if_neg c5] at hF
      refine rx_iconst C dX9_bowTo_39 (0 : Int32) (by decide) ?_
      obtain rfl := Option.some.inj hF
      exact rx_iret C dX9_bowTo_40 (Nat.le_refl _) (Nat.le_refl _) ⟨rfl, rfl, b_m, fr⟩
    · rw [if_pos c5] at hF
      refine rx_aload_n C dX9_bowTo_21 0 rfl ?_
      refine rx_iload_n C dX9_bowTo_22 1 rfl ?_
      refine rx_iload_n C dX9_bowTo_23 2 rfl ?_
      refine rx_icmp_eq C dX9_bowTo_24 31 (by decide) (fun c6 => ?_) (fun c6 => ?_)
      · rw [if_pos c6] at hF
        refine rx_iconst C dX9_bowTo_31 (0 : Int32) (by decide) ?_
        refine rx_iconst C dX9_bowTo_32 (2 : Int32) (by decide) ?_
        replace hF := rx_biE hF; obtain ⟨y7, e_y7, hF⟩ := hF
        refine rx_ci (rx_rV C (w_X9_fails e_y7 b_m) Y_X9_fails V_X9_fails m_X9_239 (Or.inl ⟨_, _, _, _, b_m.1, rfl⟩) ⟨⟨rfl, rfl⟩, ⟨(Nat.le_of_ble_eq_true rfl), (Nat.le_of_ble_eq_true rfl)⟩, ⟨(Nat.le_of_ble_eq_true rfl), (Nat.le_of_ble_eq_true rfl)⟩⟩ rfl rfl (Nat.le_of_ble_eq_true rfl) dX9_bowTo_33) (fun r hh n1 hpp => ?_)
        obtain ⟨rfl, bo_y7, hn, c_m, ff⟩ := hpp
        replace hn : n = n1 := Eq.symm hn
        subst hn
        replace b_m : bM k m y7.2 hh := c_m
        clear c_m
        replace ff : rx_fr [(m, 9)] _ hh := ff
        replace fr := rx_frt fr ff (fun a ha => ⟨ha.1, trivial⟩)
        refine rx_if_eq C dX9_bowTo_36 41 (by decide) (fun c8 => ?_) (fun c8 => ?_)
        · rw [if_pos c8] at hF
          refine rx_bipush C dX9_bowTo_41 (45 : Int32) (by decide) ?_
          refine rx_aload_n C dX9_bowTo_43 0 rfl ?_
          refine rx_iload_n C dX9_bowTo_44 2 rfl ?_
          replace hF := rx_biE hF; obtain ⟨y9, e_y9, hF⟩ := hF
          refine rx_ci (rx_rV C (w_X9_rankOf e_y9 b_m) Y_X9_rankOf V_X9_rankOf m_X9_102 (Or.inl ⟨_, _, _, _, b_m.1, rfl⟩) ⟨⟨rfl, rfl⟩, ⟨(Nat.le_of_ble_eq_true rfl), (Nat.le_of_ble_eq_true rfl)⟩, ⟨(Nat.le_of_ble_eq_true rfl), (Nat.le_of_ble_eq_true rfl)⟩⟩ rfl rfl (Nat.le_of_ble_eq_true rfl) dX9_bowTo_45) (fun r hh n1 hpp => ?_)
          obtain ⟨rfl, hu⟩ := hpp
          cases hu
          refine rx_iadd C dX9_bowTo_48 ?_
          refine rx_aload_n C dX9_bowTo_49 0 rfl ?_
          refine rx_iload_n C dX9_bowTo_50 1 rfl ?_
          replace hF := rx_biE hF; obtain ⟨y10, e_y10, hF⟩ := hF
          refine rx_ci (rx_rV C (w_X9_rankOf e_y10 b_m) Y_X9_rankOf V_X9_rankOf m_X9_102 (Or.inl ⟨_, _, _, _, b_m.1, rfl⟩) ⟨⟨rfl, rfl⟩, ⟨(Nat.le_of_ble_eq_true rfl), (Nat.le_of_ble_eq_true rfl)⟩, ⟨(Nat.le_of_ble_eq_true rfl), (Nat.le_of_ble_eq_true rfl)⟩⟩ rfl rfl (Nat.le_of_ble_eq_true rfl) dX9_bowTo_51) (fun r hh n1 hpp => ?_)
          obtain ⟨rfl, hu⟩ := hpp
          cases hu
          refine rx_isub C dX9_bowTo_54 ?_
          refine rx_aload_n C dX9_bowTo_55 0 rfl ?_
          refine rx_iload_n C dX9_bowTo_56 1 rfl ?_
          refine rx_iconst C dX9_bowTo_57 (3 : Int32) (by decide) ?_
          replace hF := rx_biE hF; obtain ⟨y11, e_y11, hF⟩ := hF
          refine rx_ci (rx_rV C (w_X9_of e_y11 b_m) Y_X9_of V_X9_of m_X9_60 (Or.inl ⟨_, _, _, _, b_m.1, rfl⟩) ⟨⟨rfl, rfl⟩, ⟨(Nat.le_of_ble_eq_true rfl), (Nat.le_of_ble_eq_true rfl)⟩, ⟨(Nat.le_of_ble_eq_true rfl), (Nat.le_of_ble_eq_true rfl)⟩⟩ rfl rfl (Nat.le_of_ble_eq_true rfl) dX9_bowTo_58) (fun r hh n1 hpp => ?_)
          obtain ⟨rfl, hu⟩ := hpp
          cases hu
          refine rx_isub C dX9_bowTo_61 ?_
          refine rx_aload_n C dX9_bowTo_62 0 rfl ?_
          refine rx_iload_n C dX9_bowTo_63 1 rfl ?_
          replace hF := rx_biE hF; obtain ⟨y12, e_y12, hF⟩ := hF
          refine rx_ci (rx_rV C (w_X9_isKingNow e_y12 b_m) Y_X9_isKingNow V_X9_isKingNow m_X9_64 (Or.inl ⟨_, _, _, _, b_m.1, rfl⟩) ⟨⟨rfl, rfl⟩, ⟨(Nat.le_of_ble_eq_true rfl), (Nat.le_of_ble_eq_true rfl)⟩, ⟨(Nat.le_of_ble_eq_true rfl), (Nat.le_of_ble_eq_true rfl)⟩⟩ rfl rfl (Nat.le_of_ble_eq_true rfl) dX9_bowTo_64) (fun r hh n1 hpp => ?_)
          obtain ⟨rfl, bo_y12, hu⟩ := hpp
          cases hu
          replace hF := rx_biE hF; obtain ⟨y13, e_y13, hF⟩ := hF
          refine rx_ci (rx_rS C (w_X9_bow e_y13 ) Y_X9_bow S_X9_bow m_X9_68 ⟨⟨rfl, rfl⟩, ⟨(Nat.le_of_ble_eq_true rfl), (Nat.le_of_ble_eq_true rfl)⟩, ⟨(Nat.le_of_ble_eq_true rfl), (Nat.le_of_ble_eq_true rfl)⟩⟩ rfl rfl (Nat.le_of_ble_eq_true rfl) dX9_bowTo_67) (fun r hh n1 hpp => ?_)
          obtain ⟨rfl, hu⟩ := hpp
          cases hu
          obtain rfl := Option.some.inj hF
          exact rx_iret C dX9_bowTo_70 (Nat.le_refl _) (Nat.le_refl _) ⟨rfl, rfl, b_m, fr⟩
        · rw [if_neg c8] at hF
          refine rx_iconst C dX9_bowTo_39 (0 : Int32) (by decide) ?_
          obtain rfl := Option.some.inj hF
          exact rx_iret C dX9_bowTo_40 (Nat.le_refl _) (Nat.le_refl _) ⟨rfl, rfl, b_m, fr⟩
      · rw [if_neg c6] at hF
        refine rx_iconst C dX9_bowTo_27 (1 : Int32) (by decide) ?_
        refine rx_goto C dX9_bowTo_28 32 (by decide) ?_
        refine rx_iconst C dX9_bowTo_32 (2 : Int32) (by decide) ?_
        replace hF := rx_biE hF; obtain ⟨y14, e_y14, hF⟩ := hF
        refine rx_ci (rx_rV C (w_X9_fails e_y14 b_m) Y_X9_fails V_X9_fails m_X9_239 (Or.inl ⟨_, _, _, _, b_m.1, rfl⟩) ⟨⟨rfl, rfl⟩, ⟨(Nat.le_of_ble_eq_true rfl), (Nat.le_of_ble_eq_true rfl)⟩, ⟨(Nat.le_of_ble_eq_true rfl), (Nat.le_of_ble_eq_true rfl)⟩⟩ rfl rfl (Nat.le_of_ble_eq_true rfl) dX9_bowTo_33) (fun r hh n1 hpp => ?_)
        obtain ⟨rfl, bo_y14, hn, c_m, ff⟩ := hpp
        replace hn : n = n1 := Eq.symm hn
        subst hn
        replace b_m : bM k m y14.2 hh := c_m
        clear c_m
        replace ff : rx_fr [(m, 9)] _ hh := ff
        replace fr := rx_frt fr ff (fun a ha => ⟨ha.1, trivial⟩)
        refine rx_if_eq C dX9_bowTo_36 41 (by decide) (fun c15 => ?_) (fun c15 => ?_)
        · rw [if_pos c15] at hF
          refine rx_bipush C dX9_bowTo_41 (45 : Int32) (by decide) ?_
          refine rx_aload_n C dX9_bowTo_43 0 rfl ?_
          refine rx_iload_n C dX9_bowTo_44 2 rfl ?_
          replace hF := rx_biE hF; obtain ⟨y16, e_y16, hF⟩ := hF
          refine rx_ci (rx_rV C (w_X9_rankOf e_y16 b_m) Y_X9_rankOf V_X9_rankOf m_X9_102 (Or.inl ⟨_, _, _, _, b_m.1, rfl⟩) ⟨⟨rfl, rfl⟩, ⟨(Nat.le_of_ble_eq_true rfl), (Nat.le_of_ble_eq_true rfl)⟩, ⟨(Nat.le_of_ble_eq_true rfl), (Nat.le_of_ble_eq_true rfl)⟩⟩ rfl rfl (Nat.le_of_ble_eq_true rfl) dX9_bowTo_45) (fun r hh n1 hpp => ?_)
          obtain ⟨rfl, hu⟩ := hpp
          cases hu
          refine rx_iadd C dX9_bowTo_48 ?_
          refine rx_aload_n C dX9_bowTo_49 0 rfl ?_
          refine rx_iload_n C dX9_bowTo_50 1 rfl ?_
          replace hF := rx_biE hF; obtain ⟨y17, e_y17, hF⟩ := hF
          refine rx_ci (rx_rV C (w_X9_rankOf e_y17 b_m) Y_X9_rankOf V_X9_rankOf m_X9_102 (Or.inl ⟨_, _, _, _, b_m.1, rfl⟩) ⟨⟨rfl, rfl⟩, ⟨(Nat.le_of_ble_eq_true rfl), (Nat.le_of_ble_eq_true rfl)⟩, ⟨(Nat.le_of_ble_eq_true rfl), (Nat.le_of_ble_eq_true rfl)⟩⟩ rfl rfl (Nat.le_of_ble_eq_true rfl) dX9_bowTo_51) (fun r hh n1 hpp => ?_)
          obtain ⟨rfl, hu⟩ := hpp
          cases hu
          refine rx_isub C dX9_bowTo_54 ?_
          refine rx_aload_n C dX9_bowTo_55 0 rfl ?_
          refine rx_iload_n C dX9_bowTo_56 1 rfl ?_
          refine rx_iconst C dX9_bowTo_57 (3 : Int32) (by decide) ?_
          replace hF := rx_biE hF; obtain ⟨y18, e_y18, hF⟩ := hF
          refine rx_ci (rx_rV C (w_X9_of e_y18 b_m) Y_X9_of V_X9_of m_X9_60 (Or.inl ⟨_, _, _, _, b_m.1, rfl⟩) ⟨⟨rfl, rfl⟩, ⟨(Nat.le_of_ble_eq_true rfl), (Nat.le_of_ble_eq_true rfl)⟩, ⟨(Nat.le_of_ble_eq_true rfl), (Nat.le_of_ble_eq_true rfl)⟩⟩ rfl rfl (Nat.le_of_ble_eq_true rfl) dX9_bowTo_58) (fun r hh n1 hpp => ?_)
          obtain ⟨rfl, hu⟩ := hpp
          cases hu
          refine rx_isub C dX9_bowTo_61 ?_
          refine rx_aload_n C dX9_bowTo_62 0 rfl ?_
          refine rx_iload_n C dX9_bowTo_63 1 rfl ?_
          replace hF := rx_biE hF; obtain ⟨y19, e_y19, hF⟩ := hF
          refine rx_ci (rx_rV C (w_X9_isKingNow e_y19 b_m) Y_X9_isKingNow V_X9_isKingNow m_X9_64 (Or.inl ⟨_, _, _, _, b_m.1, rfl⟩) ⟨⟨rfl, rfl⟩, ⟨(Nat.le_of_ble_eq_true rfl), (Nat.le_of_ble_eq_true rfl)⟩, ⟨(Nat.le_of_ble_eq_true rfl), (Nat.le_of_ble_eq_true rfl)⟩⟩ rfl rfl (Nat.le_of_ble_eq_true rfl) dX9_bowTo_64) (fun r hh n1 hpp => ?_)
          obtain ⟨rfl, bo_y19, hu⟩ := hpp
          cases hu
          replace hF := rx_biE hF; obtain ⟨y20, e_y20, hF⟩ := hF
          refine rx_ci (rx_rS C (w_X9_bow e_y20 ) Y_X9_bow S_X9_bow m_X9_68 ⟨⟨rfl, rfl⟩, ⟨(Nat.le_of_ble_eq_true rfl), (Nat.le_of_ble_eq_true rfl)⟩, ⟨(Nat.le_of_ble_eq_true rfl), (Nat.le_of_ble_eq_true rfl)⟩⟩ rfl rfl (Nat.le_of_ble_eq_true rfl) dX9_bowTo_67) (fun r hh n1 hpp => ?_)
          obtain ⟨rfl, hu⟩ := hpp
          cases hu
          obtain rfl := Option.some.inj hF
          exact rx_iret C dX9_bowTo_70 (Nat.le_refl _) (Nat.le_refl _) ⟨rfl, rfl, b_m, fr⟩
        · rw [if_neg c15] at hF
          refine rx_iconst C dX9_bowTo_39 (0 : Int32) (by decide) ?_
          obtain rfl := Option.some.inj hF
          exact rx_iret C dX9_bowTo_40 (Nat.le_refl _) (Nat.le_refl _) ⟨rfl, rfl, b_m, fr⟩
def F_X9_bowToKeeper (om : ob) (x1 : Int32) : Option (Int32 × ob) := rx_le (upd om.1 0 ((0 : Int32)), om.2) fun o_m_1 => (F_X9_noOne o_m_1 x1).bind fun y2 => if y2.1 = (0 : Int32) then ((F_X9_rankOf y2.2 x1).bind fun y4 => (F_X9_keeperBow y2.2 x1 y4).bind fun y5 => some (y5, y2.2)) else (some ((0 : Int32), y2.2))
set_option maxRecDepth 100000 in
set_option maxHeartbeats 4000000 in
theorem w_X9_bowToKeeper {m : Nat} {om : ob} {x1 : Int32} {y : Int32 × ob} (hF : F_X9_bowToKeeper om x1 = some y) (b_m : bM k m om h) : Met l yX9_bowToKeeper (rx_ws yX9_bowToKeeper cX9_bowToKeeper 2 (some .int)) (rx_rm 3 65) (va_Pc [.ref m, .int x1] (rx_G G k h n)) (va_Qi (fun r u => y.1 = r ∧ u.2 = n ∧ bM k m y.2 u.1 ∧ rx_fr [(m, 9)] h u.1) (rx_B G k) (rx_A k)) 0 0 (rx_A k) := by
  refine rx_start [(0, .ref m), (1, .int x1)] rfl (Nat.le_of_ble_eq_true rfl) (by decide) rfl (fun P9 E9 S9 M9 A9 B9 me9 c9 C hname => ?_)
  unfold F_X9_bowToKeeper at hF
  have fr : rx_fr [(m, 9)] h h := rx_fr0
  refine rx_aload_n C dX9_bowToKeeper_0 0 rfl ?_
  refine rx_iconst C dX9_bowToKeeper_1 (0 : Int32) (by decide) ?_
  replace hF := rx_leE hF; obtain ⟨o_m_1, e_o_m_1, hF⟩ := hF
  refine rx_pM0 C f_X9_1 dX9_bowToKeeper_2 b_m e_o_m_1 (fun hh c_m ff => ?_)
  replace b_m := c_m
  replace fr := rx_frt fr ff (fun a ha => ⟨ha.1, trivial⟩)
  refine rx_aload_n C dX9_bowToKeeper_5 0 rfl ?_
  refine rx_iload_n C dX9_bowToKeeper_6 1 rfl ?_
  replace hF := rx_biE hF; obtain ⟨y2, e_y2, hF⟩ := hF
  refine rx_ci (rx_rV C (w_X9_noOne e_y2 b_m) Y_X9_noOne V_X9_noOne m_X9_263 (Or.inl ⟨_, _, _, _, b_m.1, rfl⟩) ⟨⟨rfl, rfl⟩, ⟨(Nat.le_of_ble_eq_true rfl), (Nat.le_of_ble_eq_true rfl)⟩, ⟨(Nat.le_of_ble_eq_true rfl), (Nat.le_of_ble_eq_true rfl)⟩⟩ rfl rfl (Nat.le_of_ble_eq_true rfl) dX9_bowToKeeper_7) (fun r hh n1 hpp => ?_)
  obtain ⟨rfl, bo_y2, hn, c_m, ff⟩ := hpp
  replace hn : n = n1 := Eq.symm hn
  subst hn
  replace b_m : bM k m y2.2 hh := c_m
  clear c_m
  replace ff : rx_fr [(m, 9)] _ hh := ff
  replace fr := rx_frt fr ff (fun a ha => ⟨ha.1, trivial⟩)
  refine rx_if_eq C dX9_bowToKeeper_10 17 (by decide) (fun c3 => ?_) (fun c3 => ?_)
  · rw [if_pos c3] at hF
    refine rx_aload_n C dX9_bowToKeeper_17 0 rfl ?_
    refine rx_iload_n C dX9_bowToKeeper_18 1 rfl ?_
    refine rx_aload_n C dX9_bowToKeeper_19 0 rfl ?_
    refine rx_iload_n C dX9_bowToKeeper_20 1 rfl ?_
    replace hF := rx_biE hF; obtain ⟨y4, e_y4, hF⟩ := hF
    refine rx_ci (rx_rV C (w_X9_rankOf e_y4 b_m) Y_X9_rankOf V_X9_rankOf m_X9_102 (Or.inl ⟨_, _, _, _, b_m.1, rfl⟩) ⟨⟨rfl, rfl⟩, ⟨(Nat.le_of_ble_eq_true rfl), (Nat.le_of_ble_eq_true rfl)⟩, ⟨(Nat.le_of_ble_eq_true rfl), (Nat.le_of_ble_eq_true rfl)⟩⟩ rfl rfl (Nat.le_of_ble_eq_true rfl) dX9_bowToKeeper_21) (fun r hh n1 hpp => ?_)
    obtain ⟨rfl, hu⟩ := hpp
    cases hu
    replace hF := rx_biE hF; obtain ⟨y5, e_y5, hF⟩ := hF
    refine rx_ci (rx_rV C (w_X9_keeperBow e_y5 b_m) Y_X9_keeperBow V_X9_keeperBow m_X9_72 (Or.inl ⟨_, _, _, _, b_m.1, rfl⟩) ⟨⟨rfl, rfl⟩, ⟨(Nat.le_of_ble_eq_true rfl), (Nat.le_of_ble_eq_true rfl)⟩, ⟨(Nat.le_of_ble_eq_true rfl), (Nat.le_of_ble_eq_true rfl)⟩⟩ rfl rfl (Nat.le_of_ble_eq_true rfl) dX9_bowToKeeper_24) (fun r hh n1 hpp => ?_)
    obtain ⟨rfl, hu⟩ := hpp
    cases hu
    obtain rfl := Option.some.inj hF
    exact rx_iret C dX9_bowToKeeper_27 (Nat.le_refl _) (Nat.le_refl _) ⟨rfl, rfl, b_m, fr⟩
  · rw [if_neg c3] at hF
    refine rx_iconst C dX9_bowToKeeper_13 (0 : Int32) (by decide) ?_
    refine rx_goto C dX9_bowToKeeper_14 27 (by decide) ?_
    obtain rfl := Option.some.inj hF
    exact rx_iret C dX9_bowToKeeper_27 (Nat.le_refl _) (Nat.le_refl _) ⟨rfl, rfl, b_m, fr⟩
def F_X9_isTakenForKing (om : ob) (x1 : Int32) : Option (Int32 × ob) := rx_le (upd om.1 0 ((0 : Int32)), om.2) fun o_m_1 => (F_X9_noOne o_m_1 x1).bind fun y2 => if y2.1 = (0 : Int32) then ((F_X9_rankOf y2.2 x1).bind fun y4 => (F_X9_isTaken y2.2 x1 y4).bind fun y5 => if y5 = (0 : Int32) then (some ((0 : Int32), y2.2)) else (some ((1 : Int32), y2.2))) else (some ((0 : Int32), y2.2))
set_option maxRecDepth 100000 in
set_option maxHeartbeats 4000000 in
theorem w_X9_isTakenForKing {m : Nat} {om : ob} {x1 : Int32} {y : Int32 × ob} (hF : F_X9_isTakenForKing om x1 = some y) (b_m : bM k m om h) : Met l yX9_isTakenForKing (rx_ws yX9_isTakenForKing cX9_isTakenForKing 2 (some .boolean)) (rx_rm 4 87) (va_Pc [.ref m, .int x1] (rx_G G k h n)) (va_Qi (fun r u => y.1 = r ∧ (y.1 = 0 ∨ y.1 = 1) ∧ u.2 = n ∧ bM k m y.2 u.1 ∧ rx_fr [(m, 9)] h u.1) (rx_B G k) (rx_A k)) 0 0 (rx_A k) := by
  refine rx_start [(0, .ref m), (1, .int x1)] rfl (Nat.le_of_ble_eq_true rfl) (by decide) rfl (fun P9 E9 S9 M9 A9 B9 me9 c9 C hname => ?_)
  unfold F_X9_isTakenForKing at hF
  have fr : rx_fr [(m, 9)] h h := rx_fr0
  refine rx_aload_n C dX9_isTakenForKing_0 0 rfl ?_
  refine rx_iconst C dX9_isTakenForKing_1 (0 : Int32) (by decide) ?_
  replace hF := rx_leE hF; obtain ⟨o_m_1, e_o_m_1, hF⟩ := hF
  refine rx_pM0 C f_X9_1 dX9_isTakenForKing_2 b_m e_o_m_1 (fun hh c_m ff => ?_)
  replace b_m := c_m
  replace fr := rx_frt fr ff (fun a ha => ⟨ha.1, trivial⟩)
  refine rx_aload_n C dX9_isTakenForKing_5 0 rfl ?_
  refine rx_iload_n C dX9_isTakenForKing_6 1 rfl ?_
  replace hF := rx_biE hF; obtain ⟨y2, e_y2, hF⟩ := hF
  refine rx_ci (rx_rV C (w_X9_noOne e_y2 b_m) Y_X9_noOne V_X9_noOne m_X9_263 (Or.inl ⟨_, _, _, _, b_m.1, rfl⟩) ⟨⟨rfl, rfl⟩, ⟨(Nat.le_of_ble_eq_true rfl), (Nat.le_of_ble_eq_true rfl)⟩, ⟨(Nat.le_of_ble_eq_true rfl), (Nat.le_of_ble_eq_true rfl)⟩⟩ rfl rfl (Nat.le_of_ble_eq_true rfl) dX9_isTakenForKing_7) (fun r hh n1 hpp => ?_)
  obtain ⟨rfl, bo_y2, hn, c_m, ff⟩ := hpp
  replace hn : n = n1 := Eq.symm hn
  subst hn
  replace b_m : bM k m y2.2 hh := c_m
  clear c_m
  replace ff : rx_fr [(m, 9)] _ hh := ff
  replace fr := rx_frt fr ff (fun a ha => ⟨ha.1, trivial⟩)
  refine rx_if_ne C dX9_isTakenForKing_10 30 (by decide) (fun c3 => ?_) (fun c3 => ?_)
  · rw [if_neg c3] at hF
    refine rx_iconst C dX9_isTakenForKing_30 (0 : Int32) (by decide) ?_
    obtain rfl := Option.some.inj hF
    exact rx_zret C (rx_nz (Or.inl rfl)) dX9_isTakenForKing_31 (Nat.le_refl _) (Nat.le_refl _) ⟨rfl, (Or.inl rfl), rfl, b_m, fr⟩
  · rw [if_pos c3] at hF
    refine rx_aload_n C dX9_isTakenForKing_13 0 rfl ?_
    refine rx_iload_n C dX9_isTakenForKing_14 1 rfl ?_
    refine rx_aload_n C dX9_isTakenForKing_15 0 rfl ?_
    refine rx_iload_n C dX9_isTakenForKing_16 1 rfl ?_
    replace hF := rx_biE hF; obtain ⟨y4, e_y4, hF⟩ := hF
    refine rx_ci (rx_rV C (w_X9_rankOf e_y4 b_m) Y_X9_rankOf V_X9_rankOf m_X9_102 (Or.inl ⟨_, _, _, _, b_m.1, rfl⟩) ⟨⟨rfl, rfl⟩, ⟨(Nat.le_of_ble_eq_true rfl), (Nat.le_of_ble_eq_true rfl)⟩, ⟨(Nat.le_of_ble_eq_true rfl), (Nat.le_of_ble_eq_true rfl)⟩⟩ rfl rfl (Nat.le_of_ble_eq_true rfl) dX9_isTakenForKing_17) (fun r hh n1 hpp => ?_)
    obtain ⟨rfl, hu⟩ := hpp
    cases hu
    replace hF := rx_biE hF; obtain ⟨y5, e_y5, hF⟩ := hF
    refine rx_ci (rx_rV C (w_X9_isTaken e_y5 b_m) Y_X9_isTaken V_X9_isTaken m_X9_75 (Or.inl ⟨_, _, _, _, b_m.1, rfl⟩) ⟨⟨rfl, rfl⟩, ⟨(Nat.le_of_ble_eq_true rfl), (Nat.le_of_ble_eq_true rfl)⟩, ⟨(Nat.le_of_ble_eq_true rfl), (Nat.le_of_ble_eq_true rfl)⟩⟩ rfl rfl (Nat.le_of_ble_eq_true rfl) dX9_isTakenForKing_20) (fun r hh n1 hpp => ?_)
    obtain ⟨rfl, bo_y5, hu⟩ := hpp
    cases hu
    refine rx_if_eq C dX9_isTakenForKing_23 30 (by decide) (fun c6 => ?_) (fun c6 => ?_)
    · rw [if_pos c6] at hF
      refine rx_iconst C dX9_isTakenForKing_30 (0 : Int32) (by decide) ?_
      obtain rfl := Option.some.inj hF
      exact rx_zret C (rx_nz (Or.inl rfl)) dX9_isTakenForKing_31 (Nat.le_refl _) (Nat.le_refl _) ⟨rfl, (Or.inl rfl), rfl, b_m, fr⟩
    · rw [if_neg c6] at hF
      refine rx_iconst C dX9_isTakenForKing_26 (1 : Int32) (by decide) ?_
      refine rx_goto C dX9_isTakenForKing_27 31 (by decide) ?_
      obtain rfl := Option.some.inj hF
      exact rx_zret C (rx_nz (Or.inr rfl)) dX9_isTakenForKing_31 (Nat.le_refl _) (Nat.le_refl _) ⟨rfl, (Or.inr rfl), rfl, b_m, fr⟩
def F_X9_tollOf (om : ob) (x1 : Int32) : Option (Int32 × ob) := rx_le (upd om.1 0 ((0 : Int32)), om.2) fun o_m_1 => (F_X9_noOne o_m_1 x1).bind fun y2 => if y2.1 = (0 : Int32) then ((F_X9_rankOf y2.2 x1).bind fun y4 => (F_X9_tollWith y2.2 x1 y4).bind fun y5 => some (y5, y2.2)) else (some ((0 : Int32), y2.2))
set_option maxRecDepth 100000 in
set_option maxHeartbeats 4000000 in
theorem w_X9_tollOf {m : Nat} {om : ob} {x1 : Int32} {y : Int32 × ob} (hF : F_X9_tollOf om x1 = some y) (b_m : bM k m om h) : Met l yX9_tollOf (rx_ws yX9_tollOf cX9_tollOf 2 (some .int)) (rx_rm 5 109) (va_Pc [.ref m, .int x1] (rx_G G k h n)) (va_Qi (fun r u => y.1 = r ∧ u.2 = n ∧ bM k m y.2 u.1 ∧ rx_fr [(m, 9)] h u.1) (rx_B G k) (rx_A k)) 0 0 (rx_A k) := by
  refine rx_start [(0, .ref m), (1, .int x1)] rfl (Nat.le_of_ble_eq_true rfl) (by decide) rfl (fun P9 E9 S9 M9 A9 B9 me9 c9 C hname => ?_)
  unfold F_X9_tollOf at hF
  have fr : rx_fr [(m, 9)] h h := rx_fr0
  refine rx_aload_n C dX9_tollOf_0 0 rfl ?_
  refine rx_iconst C dX9_tollOf_1 (0 : Int32) (by decide) ?_
  replace hF := rx_leE hF; obtain ⟨o_m_1, e_o_m_1, hF⟩ := hF
  refine rx_pM0 C f_X9_1 dX9_tollOf_2 b_m e_o_m_1 (fun hh c_m ff => ?_)
  replace b_m := c_m
  replace fr := rx_frt fr ff (fun a ha => ⟨ha.1, trivial⟩)
  refine rx_aload_n C dX9_tollOf_5 0 rfl ?_
  refine rx_iload_n C dX9_tollOf_6 1 rfl ?_
  replace hF := rx_biE hF; obtain ⟨y2, e_y2, hF⟩ := hF
  refine rx_ci (rx_rV C (w_X9_noOne e_y2 b_m) Y_X9_noOne V_X9_noOne m_X9_263 (Or.inl ⟨_, _, _, _, b_m.1, rfl⟩) ⟨⟨rfl, rfl⟩, ⟨(Nat.le_of_ble_eq_true rfl), (Nat.le_of_ble_eq_true rfl)⟩, ⟨(Nat.le_of_ble_eq_true rfl), (Nat.le_of_ble_eq_true rfl)⟩⟩ rfl rfl (Nat.le_of_ble_eq_true rfl) dX9_tollOf_7) (fun r hh n1 hpp => ?_)
  obtain ⟨rfl, bo_y2, hn, c_m, ff⟩ := hpp
  replace hn : n = n1 := Eq.symm hn
  subst hn
  replace b_m : bM k m y2.2 hh := c_m
  clear c_m
  replace ff : rx_fr [(m, 9)] _ hh := ff
  replace fr := rx_frt fr ff (fun a ha => ⟨ha.1, trivial⟩)
  refine rx_if_eq C dX9_tollOf_10 17 (by decide) (fun c3 => ?_) (fun c3 => ?_)
  · rw [if_pos c3] at hF
    refine rx_aload_n C dX9_tollOf_17 0 rfl ?_
    refine rx_iload_n C dX9_tollOf_18 1 rfl ?_
    refine rx_aload_n C dX9_tollOf_19 0 rfl ?_
    refine rx_iload_n C dX9_tollOf_20 1 rfl ?_
    replace hF := rx_biE hF; obtain ⟨y4, e_y4, hF⟩ := hF
    refine rx_ci (rx_rV C (w_X9_rankOf e_y4 b_m) Y_X9_rankOf V_X9_rankOf m_X9_102 (Or.inl ⟨_, _, _, _, b_m.1, rfl⟩) ⟨⟨rfl, rfl⟩, ⟨(Nat.le_of_ble_eq_true rfl), (Nat.le_of_ble_eq_true rfl)⟩, ⟨(Nat.le_of_ble_eq_true rfl), (Nat.le_of_ble_eq_true rfl)⟩⟩ rfl rfl (Nat.le_of_ble_eq_true rfl) dX9_tollOf_21) (fun r hh n1 hpp => ?_)
    obtain ⟨rfl, hu⟩ := hpp
    cases hu
    replace hF := rx_biE hF; obtain ⟨y5, e_y5, hF⟩ := hF
    refine rx_ci (rx_rV C (w_X9_tollWith e_y5 b_m) Y_X9_tollWith V_X9_tollWith m_X9_269 (Or.inl ⟨_, _, _, _, b_m.1, rfl⟩) ⟨⟨rfl, rfl⟩, ⟨(Nat.le_of_ble_eq_true rfl), (Nat.le_of_ble_eq_true rfl)⟩, ⟨(Nat.le_of_ble_eq_true rfl), (Nat.le_of_ble_eq_true rfl)⟩⟩ rfl rfl (Nat.le_of_ble_eq_true rfl) dX9_tollOf_24) (fun r hh n1 hpp => ?_)
    obtain ⟨rfl, hu⟩ := hpp
    cases hu
    obtain rfl := Option.some.inj hF
    exact rx_iret C dX9_tollOf_27 (Nat.le_refl _) (Nat.le_refl _) ⟨rfl, rfl, b_m, fr⟩
  · rw [if_neg c3] at hF
    refine rx_iconst C dX9_tollOf_13 (0 : Int32) (by decide) ?_
    refine rx_goto C dX9_tollOf_14 27 (by decide) ?_
    obtain rfl := Option.some.inj hF
    exact rx_iret C dX9_tollOf_27 (Nat.le_refl _) (Nat.le_refl _) ⟨rfl, rfl, b_m, fr⟩
def F_X9_wrongGuesses_9 : Nat → ob → Int32 → Int32 → Option (Int32 × Int32 × ob)
  | 0, _, _, _ => none
  | fu + 1, om, x1, x2 => (rx_ald 144 (om.2 1) ((8 : Int32))).bind fun v4 => if v4 ≤ x2 then (some (x1, x2, om)) else ((F_X9_rankOf om x2).bind fun y6 => (F_X9_isTaken om x2 y6).bind fun y7 => (F_X9_isKingNow om x2).bind fun y8 => if y7 = y8 then ((F_X9_truth ((0 : Int32))).bind fun y11 => rx_le ((x1 + y11)) fun v12 => F_X9_wrongGuesses_9  fu om v12 ((x2 + 1))) else ((F_X9_truth ((1 : Int32))).bind fun y13 => rx_le ((x1 + y13)) fun v14 => F_X9_wrongGuesses_9  fu om v14 ((x2 + 1))))
def F_X9_wrongGuesses (om : ob) : Option (Int32 × ob) := rx_le (upd om.1 0 ((0 : Int32)), om.2) fun o_m_1 => (F_X9_wrongGuesses_9  100000 o_m_1 ((0 : Int32)) ((0 : Int32))).bind fun zl15 => some (zl15.1, zl15.2.2)
set_option maxRecDepth 100000 in
set_option maxHeartbeats 4000000 in
theorem w_X9_wrongGuesses {m : Nat} {om : ob} {y : Int32 × ob} (hF : F_X9_wrongGuesses om = some y) (b_m : bM k m om h) : Met l yX9_wrongGuesses (rx_ws yX9_wrongGuesses cX9_wrongGuesses 3 (some .int)) (rx_rm 4 87) (va_Pc [.ref m] (rx_G G k h n)) (va_Qi (fun r u => y.1 = r ∧ u.2 = n ∧ bM k m y.2 u.1 ∧ rx_fr [(m, 9)] h u.1) (rx_B G k) (rx_A k)) 0 0 (rx_A k) := by
  refine rx_start [(0, .ref m)] rfl (Nat.le_of_ble_eq_true rfl) (by decide) rfl (fun P9 E9 S9 M9 A9 B9 me9 c9 C hname => ?_)
  unfold F_X9_wrongGuesses at hF
  have fr : rx_fr [(m, 9)] h h := rx_fr0
  refine rx_aload_n C dX9_wrongGuesses_0 0 rfl ?_
  refine rx_iconst C dX9_wrongGuesses_1 (0 : Int32) (by decide) ?_
  replace hF := rx_leE hF; obtain ⟨o_m_1, e_o_m_1, hF⟩ := hF
  refine rx_pM0 C f_X9_1 dX9_wrongGuesses_2 b_m e_o_m_1 (fun hh c_m ff => ?_)
  replace b_m := c_m
  replace fr := rx_frt fr ff (fun a ha => ⟨ha.1, trivial⟩)
  refine rx_iconst C dX9_wrongGuesses_5 (0 : Int32) (by decide) ?_
  refine rx_istore_n C dX9_wrongGuesses_6 (by decide) [(1, .int ((0 : Int32))), (0, .ref m)] rfl ?_
  refine rx_iconst C dX9_wrongGuesses_7 (0 : Int32) (by decide) ?_
  refine rx_istore_n C dX9_wrongGuesses_8 (by decide) [(2, .int ((0 : Int32))), (1, .int ((0 : Int32))), (0, .ref m)] rfl ?_
  have loop3 : ∀ (fu : Nat) (zz : Int32 × Int32 × ob) (om : ob) (x1 : Int32) (x2 : Int32) (hh : hp), F_X9_wrongGuesses_9  fu om x1 x2 = some zz → bM k m om hh → rx_fr [(m, 9)] h hh → (∀ hh : hp, bM k m zz.2.2 hh → rx_fr [(m, 9)] h hh → rx_W P9 l E9 (rx_rm 4 87) S9 M9 A9 B9 me9 c9 (MQ B9 (va_Qi (fun r u => y.1 = r ∧ u.2 = n ∧ bM k m y.2 u.1 ∧ rx_fr [(m, 9)] h u.1) (rx_B G k) (rx_A k)) A9 S9 0 0 (rx_A k)) G k 3 0 0 hh n 55 [(0, .ref m), (1, .int zz.1), (2, .int zz.2.1)] []) → rx_W P9 l E9 (rx_rm 4 87) S9 M9 A9 B9 me9 c9 (MQ B9 (va_Qi (fun r u => y.1 = r ∧ u.2 = n ∧ bM k m y.2 u.1 ∧ rx_fr [(m, 9)] h u.1) (rx_B G k) (rx_A k)) A9 S9 0 0 (rx_A k)) G k 3 0 0 hh n 9 [(0, .ref m), (1, .int x1), (2, .int x2)] [] := by
    intro fu
    induction fu with
    | zero => intro zz om x1 x2 hh hF b_m fr KK; exact absurd hF (by simp [F_X9_wrongGuesses_9])
    | succ fu ih_loop3 =>
      intro zz om x1 x2 hh hF b_m fr KK
      unfold F_X9_wrongGuesses_9 at hF
      refine rx_iload_n C dX9_wrongGuesses_9 2 rfl ?_
      refine rx_aload_n C dX9_wrongGuesses_10 0 rfl ?_
      refine rx_getf C f_X9_13 dX9_wrongGuesses_11 b_m.1 rfl ?_
      refine rx_bipush C dX9_wrongGuesses_14 (8 : Int32) (by decide) ?_
      replace hF := rx_biE hF; obtain ⟨v4, e_v4, hF⟩ := hF
      refine rx_aldF C dX9_wrongGuesses_16 b_m.2.1 e_v4 ?_
      refine rx_icmp_ge C dX9_wrongGuesses_17 55 (by decide) (fun c5 => ?_) (fun c5 => ?_)
      · rw [if_pos c5] at hF
        obtain rfl := Option.some.inj hF
        refine rx_sub [0, 1, 2] rfl ?_
        exact KK _ b_m fr
      · rw [if_neg c5] at hF
        refine rx_iload_n C dX9_wrongGuesses_20 1 rfl ?_
        refine rx_aload_n C dX9_wrongGuesses_21 0 rfl ?_
        refine rx_iload_n C dX9_wrongGuesses_22 2 rfl ?_
        refine rx_aload_n C dX9_wrongGuesses_23 0 rfl ?_
        refine rx_iload_n C dX9_wrongGuesses_24 2 rfl ?_
        replace hF := rx_biE hF; obtain ⟨y6, e_y6, hF⟩ := hF
        refine rx_ci (rx_rV C (w_X9_rankOf e_y6 b_m) Y_X9_rankOf V_X9_rankOf m_X9_102 (Or.inl ⟨_, _, _, _, b_m.1, rfl⟩) ⟨⟨rfl, rfl⟩, ⟨(Nat.le_of_ble_eq_true rfl), (Nat.le_of_ble_eq_true rfl)⟩, ⟨(Nat.le_of_ble_eq_true rfl), (Nat.le_of_ble_eq_true rfl)⟩⟩ rfl rfl (Nat.le_of_ble_eq_true rfl) dX9_wrongGuesses_25) (fun r hh n1 hpp => ?_)
        obtain ⟨rfl, hu⟩ := hpp
        cases hu
        replace hF := rx_biE hF; obtain ⟨y7, e_y7, hF⟩ := hF
        refine rx_ci (rx_rV C (w_X9_isTaken e_y7 b_m) Y_X9_isTaken V_X9_isTaken m_X9_75 (Or.inl ⟨_, _, _, _, b_m.1, rfl⟩) ⟨⟨rfl, rfl⟩, ⟨(Nat.le_of_ble_eq_true rfl), (Nat.le_of_ble_eq_true rfl)⟩, ⟨(Nat.le_of_ble_eq_true rfl), (Nat.le_of_ble_eq_true rfl)⟩⟩ rfl rfl (Nat.le_of_ble_eq_true rfl) dX9_wrongGuesses_28) (fun r hh n1 hpp => ?_)
        obtain ⟨rfl, bo_y7, hu⟩ := hpp
        cases hu
        refine rx_aload_n C dX9_wrongGuesses_31 0 rfl ?_
        refine rx_iload_n C dX9_wrongGuesses_32 2 rfl ?_
        replace hF := rx_biE hF; obtain ⟨y8, e_y8, hF⟩ := hF
        refine rx_ci (rx_rV C (w_X9_isKingNow e_y8 b_m) Y_X9_isKingNow V_X9_isKingNow m_X9_64 (Or.inl ⟨_, _, _, _, b_m.1, rfl⟩) ⟨⟨rfl, rfl⟩, ⟨(Nat.le_of_ble_eq_true rfl), (Nat.le_of_ble_eq_true rfl)⟩, ⟨(Nat.le_of_ble_eq_true rfl), (Nat.le_of_ble_eq_true rfl)⟩⟩ rfl rfl (Nat.le_of_ble_eq_true rfl) dX9_wrongGuesses_33) (fun r hh n1 hpp => ?_)
        obtain ⟨rfl, bo_y8, hu⟩ := hpp
        cases hu
        refine rx_icmp_eq C dX9_wrongGuesses_36 43 (by decide) (fun c10 => ?_) (fun c10 => ?_)
        · rw [if_pos c10] at hF
          refine rx_iconst C dX9_wrongGuesses_43 (0 : Int32) (by decide) ?_
          replace hF := rx_biE hF; obtain ⟨y11, e_y11, hF⟩ := hF
          refine rx_ci (rx_rS C (w_X9_truth e_y11 ) Y_X9_truth S_X9_truth m_X9_85 ⟨⟨rfl, rfl⟩, ⟨(Nat.le_of_ble_eq_true rfl), (Nat.le_of_ble_eq_true rfl)⟩, ⟨(Nat.le_of_ble_eq_true rfl), (Nat.le_of_ble_eq_true rfl)⟩⟩ rfl rfl (Nat.le_of_ble_eq_true rfl) dX9_wrongGuesses_44) (fun r hh n1 hpp => ?_)
          obtain ⟨rfl, hu⟩ := hpp
          cases hu
          refine rx_iadd C dX9_wrongGuesses_47 ?_
          replace hF := rx_leE hF; obtain ⟨v12, e_v12, hF⟩ := hF
          rw [e_v12]
          refine rx_istore_n C dX9_wrongGuesses_48 (by decide) [(1, .int v12), (0, .ref m), (2, .int x2)] rfl ?_
          refine rx_iinc C dX9_wrongGuesses_49 2 rfl (x2 + 1) rfl (by decide) [(2, .int ((x2 + 1))), (1, .int v12), (0, .ref m)] rfl ?_
          refine rx_goto C dX9_wrongGuesses_52 9 (by decide) ?_
          refine rx_sub [2, 1, 0] rfl ?_
          exact ih_loop3 _ _ _ _ _ hF b_m fr KK
        · rw [if_neg c10] at hF
          refine rx_iconst C dX9_wrongGuesses_39 (1 : Int32) (by decide) ?_
          refine rx_goto C dX9_wrongGuesses_40 44 (by decide) ?_
          replace hF := rx_biE hF; obtain ⟨y13, e_y13, hF⟩ := hF
          refine rx_ci (rx_rS C (w_X9_truth e_y13 ) Y_X9_truth S_X9_truth m_X9_85 ⟨⟨rfl, rfl⟩, ⟨(Nat.le_of_ble_eq_true rfl), (Nat.le_of_ble_eq_true rfl)⟩, ⟨(Nat.le_of_ble_eq_true rfl), (Nat.le_of_ble_eq_true rfl)⟩⟩ rfl rfl (Nat.le_of_ble_eq_true rfl) dX9_wrongGuesses_44) (fun r hh n1 hpp => ?_)
          obtain ⟨rfl, hu⟩ := hpp
          cases hu
          refine rx_iadd C dX9_wrongGuesses_47 ?_
          replace hF := rx_leE hF; obtain ⟨v14, e_v14, hF⟩ := hF
          rw [e_v14]
          refine rx_istore_n C dX9_wrongGuesses_48 (by decide) [(1, .int v14), (0, .ref m), (2, .int x2)] rfl ?_
          refine rx_iinc C dX9_wrongGuesses_49 2 rfl (x2 + 1) rfl (by decide) [(2, .int ((x2 + 1))), (1, .int v14), (0, .ref m)] rfl ?_
          refine rx_goto C dX9_wrongGuesses_52 9 (by decide) ?_
          refine rx_sub [2, 1, 0] rfl ?_
          exact ih_loop3 _ _ _ _ _ hF b_m fr KK
  refine rx_sub [2, 1, 0] rfl ?_
  replace hF := rx_biE hF; obtain ⟨zl15, e_zl15, hF⟩ := hF
  refine loop3 _ zl15 _ _ _ _ e_zl15 b_m fr (fun hh b_m fr => ?_)
  refine rx_iload_n C dX9_wrongGuesses_55 1 rfl ?_
  obtain rfl := Option.some.inj hF
  exact rx_iret C dX9_wrongGuesses_56 (Nat.le_refl _) (Nat.le_refl _) ⟨rfl, rfl, b_m, fr⟩
def F_X9_stiffest_9 : Nat → ob → Int32 → Int32 → Option (Int32 × Int32 × ob)
  | 0, _, _, _ => none
  | fu + 1, om, x1, x2 => (rx_ald 144 (om.2 1) ((8 : Int32))).bind fun v4 => if v4 ≤ x2 then (some (x1, x2, om)) else ((F_X9_rankOf om x2).bind fun y6 => (F_X9_keeperBow om x2 y6).bind fun y7 => (F_X9_rankOf om x1).bind fun y8 => (F_X9_keeperBow om x1 y8).bind fun y9 => (if y9 ≤ y7 then (some (x1, om)) else (some (x2, om))).bind fun zj10 => F_X9_stiffest_9  fu zj10.2 zj10.1 ((x2 + 1)))
def F_X9_stiffest (om : ob) : Option (Int32 × ob) := rx_le (upd om.1 0 ((0 : Int32)), om.2) fun o_m_1 => (F_X9_stiffest_9  100000 o_m_1 ((0 : Int32)) ((1 : Int32))).bind fun zl13 => some (zl13.1, zl13.2.2)
set_option maxRecDepth 100000 in
set_option maxHeartbeats 4000000 in
theorem w_X9_stiffest {m : Nat} {om : ob} {y : Int32 × ob} (hF : F_X9_stiffest om = some y) (b_m : bM k m om h) : Met l yX9_stiffest (rx_ws yX9_stiffest cX9_stiffest 3 (some .int)) (rx_rm 3 65) (va_Pc [.ref m] (rx_G G k h n)) (va_Qi (fun r u => y.1 = r ∧ u.2 = n ∧ bM k m y.2 u.1 ∧ rx_fr [(m, 9)] h u.1) (rx_B G k) (rx_A k)) 0 0 (rx_A k) := by
  refine rx_start [(0, .ref m)] rfl (Nat.le_of_ble_eq_true rfl) (by decide) rfl (fun P9 E9 S9 M9 A9 B9 me9 c9 C hname => ?_)
  unfold F_X9_stiffest at hF
  have fr : rx_fr [(m, 9)] h h := rx_fr0
  refine rx_aload_n C dX9_stiffest_0 0 rfl ?_
  refine rx_iconst C dX9_stiffest_1 (0 : Int32) (by decide) ?_
  replace hF := rx_leE hF; obtain ⟨o_m_1, e_o_m_1, hF⟩ := hF
  refine rx_pM0 C f_X9_1 dX9_stiffest_2 b_m e_o_m_1 (fun hh c_m ff => ?_)
  replace b_m := c_m
  replace fr := rx_frt fr ff (fun a ha => ⟨ha.1, trivial⟩)
  refine rx_iconst C dX9_stiffest_5 (0 : Int32) (by decide) ?_
  refine rx_istore_n C dX9_stiffest_6 (by decide) [(1, .int ((0 : Int32))), (0, .ref m)] rfl ?_
  refine rx_iconst C dX9_stiffest_7 (1 : Int32) (by decide) ?_
  refine rx_istore_n C dX9_stiffest_8 (by decide) [(2, .int ((1 : Int32))), (1, .int ((0 : Int32))), (0, .ref m)] rfl ?_
  have loop3 : ∀ (fu : Nat) (zz : Int32 × Int32 × ob) (om : ob) (x1 : Int32) (x2 : Int32) (hh : hp), F_X9_stiffest_9  fu om x1 x2 = some zz → bM k m om hh → rx_fr [(m, 9)] h hh → (∀ hh : hp, bM k m zz.2.2 hh → rx_fr [(m, 9)] h hh → rx_W P9 l E9 (rx_rm 3 65) S9 M9 A9 B9 me9 c9 (MQ B9 (va_Qi (fun r u => y.1 = r ∧ u.2 = n ∧ bM k m y.2 u.1 ∧ rx_fr [(m, 9)] h u.1) (rx_B G k) (rx_A k)) A9 S9 0 0 (rx_A k)) G k 3 0 0 hh n 51 [(0, .ref m), (1, .int zz.1), (2, .int zz.2.1)] []) → rx_W P9 l E9 (rx_rm 3 65) S9 M9 A9 B9 me9 c9 (MQ B9 (va_Qi (fun r u => y.1 = r ∧ u.2 = n ∧ bM k m y.2 u.1 ∧ rx_fr [(m, 9)] h u.1) (rx_B G k) (rx_A k)) A9 S9 0 0 (rx_A k)) G k 3 0 0 hh n 9 [(0, .ref m), (1, .int x1), (2, .int x2)] [] := by
    intro fu
    induction fu with
    | zero => intro zz om x1 x2 hh hF b_m fr KK; exact absurd hF (by simp [F_X9_stiffest_9])
    | succ fu ih_loop3 =>
      intro zz om x1 x2 hh hF b_m fr KK
      unfold F_X9_stiffest_9 at hF
      refine rx_iload_n C dX9_stiffest_9 2 rfl ?_
      refine rx_aload_n C dX9_stiffest_10 0 rfl ?_
      refine rx_getf C f_X9_13 dX9_stiffest_11 b_m.1 rfl ?_
      refine rx_bipush C dX9_stiffest_14 (8 : Int32) (by decide) ?_
      replace hF := rx_biE hF; obtain ⟨v4, e_v4, hF⟩ := hF
      refine rx_aldF C dX9_stiffest_16 b_m.2.1 e_v4 ?_
      refine rx_icmp_ge C dX9_stiffest_17 51 (by decide) (fun c5 => ?_) (fun c5 => ?_)
      · rw [if_pos c5] at hF
        obtain rfl := Option.some.inj hF
        refine rx_sub [0, 1, 2] rfl ?_
        exact KK _ b_m fr
      · rw [if_neg c5] at hF
        refine rx_aload_n C dX9_stiffest_20 0 rfl ?_
        refine rx_iload_n C dX9_stiffest_21 2 rfl ?_
        refine rx_aload_n C dX9_stiffest_22 0 rfl ?_
        refine rx_iload_n C dX9_stiffest_23 2 rfl ?_
        replace hF := rx_biE hF; obtain ⟨y6, e_y6, hF⟩ := hF
        refine rx_ci (rx_rV C (w_X9_rankOf e_y6 b_m) Y_X9_rankOf V_X9_rankOf m_X9_102 (Or.inl ⟨_, _, _, _, b_m.1, rfl⟩) ⟨⟨rfl, rfl⟩, ⟨(Nat.le_of_ble_eq_true rfl), (Nat.le_of_ble_eq_true rfl)⟩, ⟨(Nat.le_of_ble_eq_true rfl), (Nat.le_of_ble_eq_true rfl)⟩⟩ rfl rfl (Nat.le_of_ble_eq_true rfl) dX9_stiffest_24) (fun r hh n1 hpp => ?_)
        obtain ⟨rfl, hu⟩ := hpp
        cases hu
        replace hF := rx_biE hF; obtain ⟨y7, e_y7, hF⟩ := hF
        refine rx_ci (rx_rV C (w_X9_keeperBow e_y7 b_m) Y_X9_keeperBow V_X9_keeperBow m_X9_72 (Or.inl ⟨_, _, _, _, b_m.1, rfl⟩) ⟨⟨rfl, rfl⟩, ⟨(Nat.le_of_ble_eq_true rfl), (Nat.le_of_ble_eq_true rfl)⟩, ⟨(Nat.le_of_ble_eq_true rfl), (Nat.le_of_ble_eq_true rfl)⟩⟩ rfl rfl (Nat.le_of_ble_eq_true rfl) dX9_stiffest_27) (fun r hh n1 hpp => ?_)
        obtain ⟨rfl, hu⟩ := hpp
        cases hu
        refine rx_aload_n C dX9_stiffest_30 0 rfl ?_
        refine rx_iload_n C dX9_stiffest_31 1 rfl ?_
        refine rx_aload_n C dX9_stiffest_32 0 rfl ?_
        refine rx_iload_n C dX9_stiffest_33 1 rfl ?_
        replace hF := rx_biE hF; obtain ⟨y8, e_y8, hF⟩ := hF
        refine rx_ci (rx_rV C (w_X9_rankOf e_y8 b_m) Y_X9_rankOf V_X9_rankOf m_X9_102 (Or.inl ⟨_, _, _, _, b_m.1, rfl⟩) ⟨⟨rfl, rfl⟩, ⟨(Nat.le_of_ble_eq_true rfl), (Nat.le_of_ble_eq_true rfl)⟩, ⟨(Nat.le_of_ble_eq_true rfl), (Nat.le_of_ble_eq_true rfl)⟩⟩ rfl rfl (Nat.le_of_ble_eq_true rfl) dX9_stiffest_34) (fun r hh n1 hpp => ?_)
        obtain ⟨rfl, hu⟩ := hpp
        cases hu
        replace hF := rx_biE hF; obtain ⟨y9, e_y9, hF⟩ := hF
        refine rx_ci (rx_rV C (w_X9_keeperBow e_y9 b_m) Y_X9_keeperBow V_X9_keeperBow m_X9_72 (Or.inl ⟨_, _, _, _, b_m.1, rfl⟩) ⟨⟨rfl, rfl⟩, ⟨(Nat.le_of_ble_eq_true rfl), (Nat.le_of_ble_eq_true rfl)⟩, ⟨(Nat.le_of_ble_eq_true rfl), (Nat.le_of_ble_eq_true rfl)⟩⟩ rfl rfl (Nat.le_of_ble_eq_true rfl) dX9_stiffest_37) (fun r hh n1 hpp => ?_)
        obtain ⟨rfl, hu⟩ := hpp
        cases hu
        replace hF := rx_biE hF; obtain ⟨zj10, e_zj10, hF⟩ := hF
        have KJ11 : ∀ hh : hp, bM k m zj10.2 hh → rx_fr [(m, 9)] h hh → rx_W P9 l E9 (rx_rm 3 65) S9 M9 A9 B9 me9 c9 (MQ B9 (va_Qi (fun r u => y.1 = r ∧ u.2 = n ∧ bM k m y.2 u.1 ∧ rx_fr [(m, 9)] h u.1) (rx_B G k) (rx_A k)) A9 S9 0 0 (rx_A k)) G k 3 0 0 hh n 45 [(0, .ref m), (1, .int zj10.1), (2, .int x2)] [] := by
          intro hh b_m fr
          refine rx_iinc C dX9_stiffest_45 2 rfl (x2 + 1) rfl (by decide) [(2, .int ((x2 + 1))), (0, .ref m), (1, .int zj10.1)] rfl ?_
          refine rx_goto C dX9_stiffest_48 9 (by decide) ?_
          refine rx_sub [1, 2, 0] rfl ?_
          exact ih_loop3 _ _ _ _ _ hF b_m fr KK
        replace hF := e_zj10
        clear e_zj10
        refine rx_icmp_ge C dX9_stiffest_40 45 (by decide) (fun c12 => ?_) (fun c12 => ?_)
        · rw [if_pos c12] at hF
          obtain rfl := Option.some.inj hF
          refine rx_sub [0, 1, 2] rfl ?_
          exact KJ11 _ b_m fr
        · rw [if_neg c12] at hF
          refine rx_iload_n C dX9_stiffest_43 2 rfl ?_
          refine rx_istore_n C dX9_stiffest_44 (by decide) [(1, .int x2), (0, .ref m), (2, .int x2)] rfl ?_
          obtain rfl := Option.some.inj hF
          refine rx_sub [1, 0, 2] rfl ?_
          exact KJ11 _ b_m fr
  refine rx_sub [2, 1, 0] rfl ?_
  replace hF := rx_biE hF; obtain ⟨zl13, e_zl13, hF⟩ := hF
  refine loop3 _ zl13 _ _ _ _ e_zl13 b_m fr (fun hh b_m fr => ?_)
  refine rx_iload_n C dX9_stiffest_51 1 rfl ?_
  obtain rfl := Option.some.inj hF
  exact rx_iret C dX9_stiffest_52 (Nat.le_refl _) (Nat.le_refl _) ⟨rfl, rfl, b_m, fr⟩
def F_X9_cheapestRags_19 (x1 : Int32) : Nat → ob → Int32 → Int32 → Option (Int32 × Int32 × ob)
  | 0, _, _, _ => none
  | fu + 1, om, x2, x3 => (rx_ald 144 (om.2 1) ((8 : Int32))).bind fun v6 => if v6 ≤ x3 then (some (x2, x3, om)) else ((rx_ald 144 (om.2 1) (((92 : Int32) + x3))).bind fun v8 => (F_X9_tollWith om x1 v8).bind fun y9 => (rx_ald 144 (om.2 1) (((92 : Int32) + x2))).bind fun v10 => (F_X9_tollWith om x1 v10).bind fun y11 => (if y11 ≤ y9 then (some (x2, om)) else (some (x3, om))).bind fun zj12 => F_X9_cheapestRags_19 x1 fu zj12.2 zj12.1 ((x3 + 1)))
def F_X9_cheapestRags (om : ob) (x1 : Int32) : Option (Int32 × ob) := rx_le (upd om.1 0 ((0 : Int32)), om.2) fun o_m_1 => (F_X9_noOne o_m_1 x1).bind fun y2 => if y2.1 = (0 : Int32) then ((F_X9_cheapestRags_19 x1 100000 y2.2 ((0 : Int32)) ((1 : Int32))).bind fun zl15 => some (zl15.1, zl15.2.2)) else (some ((0 : Int32), y2.2))
set_option maxRecDepth 100000 in
set_option maxHeartbeats 4000000 in
theorem w_X9_cheapestRags {m : Nat} {om : ob} {x1 : Int32} {y : Int32 × ob} (hF : F_X9_cheapestRags om x1 = some y) (b_m : bM k m om h) : Met l yX9_cheapestRags (rx_ws yX9_cheapestRags cX9_cheapestRags 4 (some .int)) (rx_rm 5 109) (va_Pc [.ref m, .int x1] (rx_G G k h n)) (va_Qi (fun r u => y.1 = r ∧ u.2 = n ∧ bM k m y.2 u.1 ∧ rx_fr [(m, 9)] h u.1) (rx_B G k) (rx_A k)) 0 0 (rx_A k) := by
  refine rx_start [(0, .ref m), (1, .int x1)] rfl (Nat.le_of_ble_eq_true rfl) (by decide) rfl (fun P9 E9 S9 M9 A9 B9 me9 c9 C hname => ?_)
  unfold F_X9_cheapestRags at hF
  have fr : rx_fr [(m, 9)] h h := rx_fr0
  refine rx_aload_n C dX9_cheapestRags_0 0 rfl ?_
  refine rx_iconst C dX9_cheapestRags_1 (0 : Int32) (by decide) ?_
  replace hF := rx_leE hF; obtain ⟨o_m_1, e_o_m_1, hF⟩ := hF
  refine rx_pM0 C f_X9_1 dX9_cheapestRags_2 b_m e_o_m_1 (fun hh c_m ff => ?_)
  replace b_m := c_m
  replace fr := rx_frt fr ff (fun a ha => ⟨ha.1, trivial⟩)
  refine rx_aload_n C dX9_cheapestRags_5 0 rfl ?_
  refine rx_iload_n C dX9_cheapestRags_6 1 rfl ?_
  replace hF := rx_biE hF; obtain ⟨y2, e_y2, hF⟩ := hF
  refine rx_ci (rx_rV C (w_X9_noOne e_y2 b_m) Y_X9_noOne V_X9_noOne m_X9_263 (Or.inl ⟨_, _, _, _, b_m.1, rfl⟩) ⟨⟨rfl, rfl⟩, ⟨(Nat.le_of_ble_eq_true rfl), (Nat.le_of_ble_eq_true rfl)⟩, ⟨(Nat.le_of_ble_eq_true rfl), (Nat.le_of_ble_eq_true rfl)⟩⟩ rfl rfl (Nat.le_of_ble_eq_true rfl) dX9_cheapestRags_7) (fun r hh n1 hpp => ?_)
  obtain ⟨rfl, bo_y2, hn, c_m, ff⟩ := hpp
  replace hn : n = n1 := Eq.symm hn
  subst hn
  replace b_m : bM k m y2.2 hh := c_m
  clear c_m
  replace ff : rx_fr [(m, 9)] _ hh := ff
  replace fr := rx_frt fr ff (fun a ha => ⟨ha.1, trivial⟩)
  refine rx_if_eq C dX9_cheapestRags_10 15 (by decide) (fun c3 => ?_) (fun c3 => ?_)
  · rw [if_pos c3] at hF
    refine rx_iconst C dX9_cheapestRags_15 (0 : Int32) (by decide) ?_
    refine rx_istore_n C dX9_cheapestRags_16 (by decide) [(2, .int ((0 : Int32))), (0, .ref m), (1, .int x1)] rfl ?_
    refine rx_iconst C dX9_cheapestRags_17 (1 : Int32) (by decide) ?_
    refine rx_istore_n C dX9_cheapestRags_18 (by decide) [(3, .int ((1 : Int32))), (2, .int ((0 : Int32))), (0, .ref m), (1, .int x1)] rfl ?_
    have loop5 : ∀ (fu : Nat) (zz : Int32 × Int32 × ob) (om : ob) (x2 : Int32) (x3 : Int32) (hh : hp), F_X9_cheapestRags_19 x1 fu om x2 x3 = some zz → bM k m om hh → rx_fr [(m, 9)] h hh → (∀ hh : hp, bM k m zz.2.2 hh → rx_fr [(m, 9)] h hh → rx_W P9 l E9 (rx_rm 5 109) S9 M9 A9 B9 me9 c9 (MQ B9 (va_Qi (fun r u => y.1 = r ∧ u.2 = n ∧ bM k m y.2 u.1 ∧ rx_fr [(m, 9)] h u.1) (rx_B G k) (rx_A k)) A9 S9 0 0 (rx_A k)) G k 4 0 0 hh n 69 [(0, .ref m), (1, .int x1), (2, .int zz.1), (3, .int zz.2.1)] []) → rx_W P9 l E9 (rx_rm 5 109) S9 M9 A9 B9 me9 c9 (MQ B9 (va_Qi (fun r u => y.1 = r ∧ u.2 = n ∧ bM k m y.2 u.1 ∧ rx_fr [(m, 9)] h u.1) (rx_B G k) (rx_A k)) A9 S9 0 0 (rx_A k)) G k 4 0 0 hh n 19 [(0, .ref m), (1, .int x1), (2, .int x2), (3, .int x3)] [] := by
      intro fu
      induction fu with
      | zero => intro zz om x2 x3 hh hF b_m fr KK; exact absurd hF (by simp [F_X9_cheapestRags_19])
      | succ fu ih_loop5 =>
        intro zz om x2 x3 hh hF b_m fr KK
        unfold F_X9_cheapestRags_19 at hF
        refine rx_iload_n C dX9_cheapestRags_19 3 rfl ?_
        refine rx_aload_n C dX9_cheapestRags_20 0 rfl ?_
        refine rx_getf C f_X9_13 dX9_cheapestRags_21 b_m.1 rfl ?_
        refine rx_bipush C dX9_cheapestRags_24 (8 : Int32) (by decide) ?_
        replace hF := rx_biE hF; obtain ⟨v6, e_v6, hF⟩ := hF
        refine rx_aldF C dX9_cheapestRags_26 b_m.2.1 e_v6 ?_
        refine rx_icmp_ge C dX9_cheapestRags_27 69 (by decide) (fun c7 => ?_) (fun c7 => ?_)
        · rw [if_pos c7] at hF
          obtain rfl := Option.some.inj hF
          refine rx_sub [0, 1, 2, 3] rfl ?_
          exact KK _ b_m fr
        · rw [if_neg c7] at hF
          refine rx_aload_n C dX9_cheapestRags_30 0 rfl ?_
          refine rx_iload_n C dX9_cheapestRags_31 1 rfl ?_
          refine rx_aload_n C dX9_cheapestRags_32 0 rfl ?_
          refine rx_getf C f_X9_13 dX9_cheapestRags_33 b_m.1 rfl ?_
          refine rx_bipush C dX9_cheapestRags_36 (92 : Int32) (by decide) ?_
          refine rx_iload_n C dX9_cheapestRags_38 3 rfl ?_
          refine rx_iadd C dX9_cheapestRags_39 ?_
          replace hF := rx_biE hF; obtain ⟨v8, e_v8, hF⟩ := hF
          refine rx_aldF C dX9_cheapestRags_40 b_m.2.1 e_v8 ?_
          replace hF := rx_biE hF; obtain ⟨y9, e_y9, hF⟩ := hF
          refine rx_ci (rx_rV C (w_X9_tollWith e_y9 b_m) Y_X9_tollWith V_X9_tollWith m_X9_269 (Or.inl ⟨_, _, _, _, b_m.1, rfl⟩) ⟨⟨rfl, rfl⟩, ⟨(Nat.le_of_ble_eq_true rfl), (Nat.le_of_ble_eq_true rfl)⟩, ⟨(Nat.le_of_ble_eq_true rfl), (Nat.le_of_ble_eq_true rfl)⟩⟩ rfl rfl (Nat.le_of_ble_eq_true rfl) dX9_cheapestRags_41) (fun r hh n1 hpp => ?_)
          obtain ⟨rfl, hu⟩ := hpp
          cases hu
          refine rx_aload_n C dX9_cheapestRags_44 0 rfl ?_
          refine rx_iload_n C dX9_cheapestRags_45 1 rfl ?_
          refine rx_aload_n C dX9_cheapestRags_46 0 rfl ?_
          refine rx_getf C f_X9_13 dX9_cheapestRags_47 b_m.1 rfl ?_
          refine rx_bipush C dX9_cheapestRags_50 (92 : Int32) (by decide) ?_
          refine rx_iload_n C dX9_cheapestRags_52 2 rfl ?_
          refine rx_iadd C dX9_cheapestRags_53 ?_
          replace hF := rx_biE hF; obtain ⟨v10, e_v10, hF⟩ := hF
          refine rx_aldF C dX9_cheapestRags_54 b_m.2.1 e_v10 ?_
          replace hF := rx_biE hF; obtain ⟨y11, e_y11, hF⟩ := hF
          refine rx_ci (rx_rV C (w_X9_tollWith e_y11 b_m) Y_X9_tollWith V_X9_tollWith m_X9_269 (Or.inl ⟨_, _, _, _, b_m.1, rfl⟩) ⟨⟨rfl, rfl⟩, ⟨(Nat.le_of_ble_eq_true rfl), (Nat.le_of_ble_eq_true rfl)⟩, ⟨(Nat.le_of_ble_eq_true rfl), (Nat.le_of_ble_eq_true rfl)⟩⟩ rfl rfl (Nat.le_of_ble_eq_true rfl) dX9_cheapestRags_55) (fun r hh n1 hpp => ?_)
          obtain ⟨rfl, hu⟩ := hpp
          cases hu
          replace hF := rx_biE hF; obtain ⟨zj12, e_zj12, hF⟩ := hF
          have KJ13 : ∀ hh : hp, bM k m zj12.2 hh → rx_fr [(m, 9)] h hh → rx_W P9 l E9 (rx_rm 5 109) S9 M9 A9 B9 me9 c9 (MQ B9 (va_Qi (fun r u => y.1 = r ∧ u.2 = n ∧ bM k m y.2 u.1 ∧ rx_fr [(m, 9)] h u.1) (rx_B G k) (rx_A k)) A9 S9 0 0 (rx_A k)) G k 4 0 0 hh n 63 [(0, .ref m), (1, .int x1), (2, .int zj12.1), (3, .int x3)] [] := by
            intro hh b_m fr
            refine rx_iinc C dX9_cheapestRags_63 3 rfl (x3 + 1) rfl (by decide) [(3, .int ((x3 + 1))), (0, .ref m), (1, .int x1), (2, .int zj12.1)] rfl ?_
            refine rx_goto C dX9_cheapestRags_66 19 (by decide) ?_
            refine rx_sub [1, 2, 3, 0] rfl ?_
            exact ih_loop5 _ _ _ _ _ hF b_m fr KK
          replace hF := e_zj12
          clear e_zj12
          refine rx_icmp_ge C dX9_cheapestRags_58 63 (by decide) (fun c14 => ?_) (fun c14 => ?_)
          · rw [if_pos c14] at hF
            obtain rfl := Option.some.inj hF
            refine rx_sub [0, 1, 2, 3] rfl ?_
            exact KJ13 _ b_m fr
          · rw [if_neg c14] at hF
            refine rx_iload_n C dX9_cheapestRags_61 3 rfl ?_
            refine rx_istore_n C dX9_cheapestRags_62 (by decide) [(2, .int x3), (0, .ref m), (1, .int x1), (3, .int x3)] rfl ?_
            obtain rfl := Option.some.inj hF
            refine rx_sub [1, 2, 0, 3] rfl ?_
            exact KJ13 _ b_m fr
    refine rx_sub [2, 3, 1, 0] rfl ?_
    replace hF := rx_biE hF; obtain ⟨zl15, e_zl15, hF⟩ := hF
    refine loop5 _ zl15 _ _ _ _ e_zl15 b_m fr (fun hh b_m fr => ?_)
    refine rx_iload_n C dX9_cheapestRags_69 2 rfl ?_
    obtain rfl := Option.some.inj hF
    exact rx_iret C dX9_cheapestRags_70 (Nat.le_refl _) (Nat.le_refl _) ⟨rfl, rfl, b_m, fr⟩
  · rw [if_neg c3] at hF
    refine rx_iconst C dX9_cheapestRags_13 (0 : Int32) (by decide) ?_
    obtain rfl := Option.some.inj hF
    exact rx_iret C dX9_cheapestRags_14 (Nat.le_refl _) (Nat.le_refl _) ⟨rfl, rfl, b_m, fr⟩
def F_X9_meanBow_9 : Nat → ob → Int32 → Int32 → Option (Int32 × Int32 × ob)
  | 0, _, _, _ => none
  | fu + 1, om, x1, x2 => (rx_ald 144 (om.2 1) ((8 : Int32))).bind fun v4 => if v4 ≤ x2 then (some (x1, x2, om)) else ((F_X9_rankOf om x2).bind fun y6 => (F_X9_keeperBow om x2 y6).bind fun y7 => rx_le ((x1 + y7)) fun v8 => F_X9_meanBow_9  fu om v8 ((x2 + 1)))
def F_X9_meanBow (om : ob) : Option (UInt64 × ob) := rx_le (upd om.1 0 ((0 : Int32)), om.2) fun o_m_1 => (F_X9_meanBow_9  100000 o_m_1 ((0 : Int32)) ((0 : Int32))).bind fun zl9 => (rx_ald 144 (zl9.2.2.2 1) ((8 : Int32))).bind fun v10 => (rx_ddv ((FP.i2d zl9.1)) ((FP.i2d v10))).bind fun v11 => some (v11, zl9.2.2)
set_option maxRecDepth 100000 in
set_option maxHeartbeats 4000000 in
theorem w_X9_meanBow {m : Nat} {om : ob} {y : UInt64 × ob} (hF : F_X9_meanBow om = some y) (b_m : bM k m om h) : Met l yX9_meanBow (rx_ws yX9_meanBow cX9_meanBow 3 (some .double)) (rx_rm 3 65) (va_Pc [.ref m] (rx_G G k h n)) (va_Qd (fun r u => y.1 = r ∧ u.2 = n ∧ bM k m y.2 u.1 ∧ rx_fr [(m, 9)] h u.1) (rx_B G k) (rx_A k)) 0 0 (rx_A k) := by
  refine rx_start [(0, .ref m)] rfl (Nat.le_of_ble_eq_true rfl) (by decide) rfl (fun P9 E9 S9 M9 A9 B9 me9 c9 C hname => ?_)
  unfold F_X9_meanBow at hF
  have fr : rx_fr [(m, 9)] h h := rx_fr0
  refine rx_aload_n C dX9_meanBow_0 0 rfl ?_
  refine rx_iconst C dX9_meanBow_1 (0 : Int32) (by decide) ?_
  replace hF := rx_leE hF; obtain ⟨o_m_1, e_o_m_1, hF⟩ := hF
  refine rx_pM0 C f_X9_1 dX9_meanBow_2 b_m e_o_m_1 (fun hh c_m ff => ?_)
  replace b_m := c_m
  replace fr := rx_frt fr ff (fun a ha => ⟨ha.1, trivial⟩)
  refine rx_iconst C dX9_meanBow_5 (0 : Int32) (by decide) ?_
  refine rx_istore_n C dX9_meanBow_6 (by decide) [(1, .int ((0 : Int32))), (0, .ref m)] rfl ?_
  refine rx_iconst C dX9_meanBow_7 (0 : Int32) (by decide) ?_
  refine rx_istore_n C dX9_meanBow_8 (by decide) [(2, .int ((0 : Int32))), (1, .int ((0 : Int32))), (0, .ref m)] rfl ?_
  have loop3 : ∀ (fu : Nat) (zz : Int32 × Int32 × ob) (om : ob) (x1 : Int32) (x2 : Int32) (hh : hp), F_X9_meanBow_9  fu om x1 x2 = some zz → bM k m om hh → rx_fr [(m, 9)] h hh → (∀ hh : hp, bM k m zz.2.2 hh → rx_fr [(m, 9)] h hh → rx_W P9 l E9 (rx_rm 3 65) S9 M9 A9 B9 me9 c9 (MQ B9 (va_Qd (fun r u => y.1 = r ∧ u.2 = n ∧ bM k m y.2 u.1 ∧ rx_fr [(m, 9)] h u.1) (rx_B G k) (rx_A k)) A9 S9 0 0 (rx_A k)) G k 3 0 0 hh n 39 [(0, .ref m), (1, .int zz.1), (2, .int zz.2.1)] []) → rx_W P9 l E9 (rx_rm 3 65) S9 M9 A9 B9 me9 c9 (MQ B9 (va_Qd (fun r u => y.1 = r ∧ u.2 = n ∧ bM k m y.2 u.1 ∧ rx_fr [(m, 9)] h u.1) (rx_B G k) (rx_A k)) A9 S9 0 0 (rx_A k)) G k 3 0 0 hh n 9 [(0, .ref m), (1, .int x1), (2, .int x2)] [] := by
    intro fu
    induction fu with
    | zero => intro zz om x1 x2 hh hF b_m fr KK; exact absurd hF (by simp [F_X9_meanBow_9])
    | succ fu ih_loop3 =>
      intro zz om x1 x2 hh hF b_m fr KK
      unfold F_X9_meanBow_9 at hF
      refine rx_iload_n C dX9_meanBow_9 2 rfl ?_
      refine rx_aload_n C dX9_meanBow_10 0 rfl ?_
      refine rx_getf C f_X9_13 dX9_meanBow_11 b_m.1 rfl ?_
      refine rx_bipush C dX9_meanBow_14 (8 : Int32) (by decide) ?_
      replace hF := rx_biE hF; obtain ⟨v4, e_v4, hF⟩ := hF
      refine rx_aldF C dX9_meanBow_16 b_m.2.1 e_v4 ?_
      refine rx_icmp_ge C dX9_meanBow_17 39 (by decide) (fun c5 => ?_) (fun c5 => ?_)
      · rw [if_pos c5] at hF
        obtain rfl := Option.some.inj hF
        refine rx_sub [0, 1, 2] rfl ?_
        exact KK _ b_m fr
      · rw [if_neg c5] at hF
        refine rx_iload_n C dX9_meanBow_20 1 rfl ?_
        refine rx_aload_n C dX9_meanBow_21 0 rfl ?_
        refine rx_iload_n C dX9_meanBow_22 2 rfl ?_
        refine rx_aload_n C dX9_meanBow_23 0 rfl ?_
        refine rx_iload_n C dX9_meanBow_24 2 rfl ?_
        replace hF := rx_biE hF; obtain ⟨y6, e_y6, hF⟩ := hF
        refine rx_ci (rx_rV C (w_X9_rankOf e_y6 b_m) Y_X9_rankOf V_X9_rankOf m_X9_102 (Or.inl ⟨_, _, _, _, b_m.1, rfl⟩) ⟨⟨rfl, rfl⟩, ⟨(Nat.le_of_ble_eq_true rfl), (Nat.le_of_ble_eq_true rfl)⟩, ⟨(Nat.le_of_ble_eq_true rfl), (Nat.le_of_ble_eq_true rfl)⟩⟩ rfl rfl (Nat.le_of_ble_eq_true rfl) dX9_meanBow_25) (fun r hh n1 hpp => ?_)
        obtain ⟨rfl, hu⟩ := hpp
        cases hu
        replace hF := rx_biE hF; obtain ⟨y7, e_y7, hF⟩ := hF
        refine rx_ci (rx_rV C (w_X9_keeperBow e_y7 b_m) Y_X9_keeperBow V_X9_keeperBow m_X9_72 (Or.inl ⟨_, _, _, _, b_m.1, rfl⟩) ⟨⟨rfl, rfl⟩, ⟨(Nat.le_of_ble_eq_true rfl), (Nat.le_of_ble_eq_true rfl)⟩, ⟨(Nat.le_of_ble_eq_true rfl), (Nat.le_of_ble_eq_true rfl)⟩⟩ rfl rfl (Nat.le_of_ble_eq_true rfl) dX9_meanBow_28) (fun r hh n1 hpp => ?_)
        obtain ⟨rfl, hu⟩ := hpp
        cases hu
        refine rx_iadd C dX9_meanBow_31 ?_
        replace hF := rx_leE hF; obtain ⟨v8, e_v8, hF⟩ := hF
        rw [e_v8]
        refine rx_istore_n C dX9_meanBow_32 (by decide) [(1, .int v8), (0, .ref m), (2, .int x2)] rfl ?_
        refine rx_iinc C dX9_meanBow_33 2 rfl (x2 + 1) rfl (by decide) [(2, .int ((x2 + 1))), (1, .int v8), (0, .ref m)] rfl ?_
        refine rx_goto C dX9_meanBow_36 9 (by decide) ?_
        refine rx_sub [2, 1, 0] rfl ?_
        exact ih_loop3 _ _ _ _ _ hF b_m fr KK
  refine rx_sub [2, 1, 0] rfl ?_
  replace hF := rx_biE hF; obtain ⟨zl9, e_zl9, hF⟩ := hF
  refine loop3 _ zl9 _ _ _ _ e_zl9 b_m fr (fun hh b_m fr => ?_)
  refine rx_iload_n C dX9_meanBow_39 1 rfl ?_
  refine rx_i2d C dX9_meanBow_40 ?_
  refine rx_aload_n C dX9_meanBow_41 0 rfl ?_
  refine rx_getf C f_X9_13 dX9_meanBow_42 b_m.1 rfl ?_
  refine rx_bipush C dX9_meanBow_45 (8 : Int32) (by decide) ?_
  replace hF := rx_biE hF; obtain ⟨v10, e_v10, hF⟩ := hF
  refine rx_aldF C dX9_meanBow_47 b_m.2.1 e_v10 ?_
  refine rx_i2d C dX9_meanBow_48 ?_
  replace hF := rx_biE hF; obtain ⟨v11, e_v11, hF⟩ := hF
  refine rx_ddivF C dX9_meanBow_49 e_v11 ?_
  obtain rfl := Option.some.inj hF
  exact rx_dret C dX9_meanBow_50 (Nat.le_refl _) (Nat.le_refl _) ⟨rfl, rfl, b_m, fr⟩
def F_X9_noKing (om : ob) (x1 : Int32) : Option (Int32 × ob) := (F_X9_noOne om x1).bind fun y1 => if y1.1 = (0 : Int32) then ((F_X9_isKingNow y1.2 x1).bind fun y3 => (F_X9_fails y1.2 y3 ((2 : Int32))).bind fun y4 => if y4.1 = (0 : Int32) then (some ((0 : Int32), y4.2)) else (some ((1 : Int32), y4.2))) else (some ((1 : Int32), y1.2))
set_option maxRecDepth 100000 in
set_option maxHeartbeats 4000000 in
theorem w_X9_noKing {m : Nat} {om : ob} {x1 : Int32} {y : Int32 × ob} (hF : F_X9_noKing om x1 = some y) (b_m : bM k m om h) : Met l yX9_noKing (rx_ws yX9_noKing cX9_noKing 2 (some .boolean)) (rx_rm 2 43) (va_Pc [.ref m, .int x1] (rx_G G k h n)) (va_Qi (fun r u => y.1 = r ∧ (y.1 = 0 ∨ y.1 = 1) ∧ u.2 = n ∧ bM k m y.2 u.1 ∧ rx_fr [(m, 9)] h u.1) (rx_B G k) (rx_A k)) 0 0 (rx_A k) := by
  refine rx_start [(0, .ref m), (1, .int x1)] rfl (Nat.le_of_ble_eq_true rfl) (by decide) rfl (fun P9 E9 S9 M9 A9 B9 me9 c9 C hname => ?_)
  unfold F_X9_noKing at hF
  have fr : rx_fr [(m, 9)] h h := rx_fr0
  refine rx_aload_n C dX9_noKing_0 0 rfl ?_
  refine rx_iload_n C dX9_noKing_1 1 rfl ?_
  replace hF := rx_biE hF; obtain ⟨y1, e_y1, hF⟩ := hF
  refine rx_ci (rx_rV C (w_X9_noOne e_y1 b_m) Y_X9_noOne V_X9_noOne m_X9_263 (Or.inl ⟨_, _, _, _, b_m.1, rfl⟩) ⟨⟨rfl, rfl⟩, ⟨(Nat.le_of_ble_eq_true rfl), (Nat.le_of_ble_eq_true rfl)⟩, ⟨(Nat.le_of_ble_eq_true rfl), (Nat.le_of_ble_eq_true rfl)⟩⟩ rfl rfl (Nat.le_of_ble_eq_true rfl) dX9_noKing_2) (fun r hh n1 hpp => ?_)
  obtain ⟨rfl, bo_y1, hn, c_m, ff⟩ := hpp
  replace hn : n = n1 := Eq.symm hn
  subst hn
  replace b_m : bM k m y1.2 hh := c_m
  clear c_m
  replace ff : rx_fr [(m, 9)] _ hh := ff
  replace fr := rx_frt fr ff (fun a ha => ⟨ha.1, trivial⟩)
  refine rx_if_ne C dX9_noKing_5 21 (by decide) (fun c2 => ?_) (fun c2 => ?_)
  · rw [if_neg c2] at hF
    refine rx_iconst C dX9_noKing_21 (1 : Int32) (by decide) ?_
    refine rx_goto C dX9_noKing_22 26 (by decide) ?_
    obtain rfl := Option.some.inj hF
    exact rx_zret C (rx_nz (Or.inr rfl)) dX9_noKing_26 (Nat.le_refl _) (Nat.le_refl _) ⟨rfl, (Or.inr rfl), rfl, b_m, fr⟩
  · rw [if_pos c2] at hF
    refine rx_aload_n C dX9_noKing_8 0 rfl ?_
    refine rx_aload_n C dX9_noKing_9 0 rfl ?_
    refine rx_iload_n C dX9_noKing_10 1 rfl ?_
    replace hF := rx_biE hF; obtain ⟨y3, e_y3, hF⟩ := hF
    refine rx_ci (rx_rV C (w_X9_isKingNow e_y3 b_m) Y_X9_isKingNow V_X9_isKingNow m_X9_64 (Or.inl ⟨_, _, _, _, b_m.1, rfl⟩) ⟨⟨rfl, rfl⟩, ⟨(Nat.le_of_ble_eq_true rfl), (Nat.le_of_ble_eq_true rfl)⟩, ⟨(Nat.le_of_ble_eq_true rfl), (Nat.le_of_ble_eq_true rfl)⟩⟩ rfl rfl (Nat.le_of_ble_eq_true rfl) dX9_noKing_11) (fun r hh n1 hpp => ?_)
    obtain ⟨rfl, bo_y3, hu⟩ := hpp
    cases hu
    refine rx_iconst C dX9_noKing_14 (2 : Int32) (by decide) ?_
    replace hF := rx_biE hF; obtain ⟨y4, e_y4, hF⟩ := hF
    refine rx_ci (rx_rV C (w_X9_fails e_y4 b_m) Y_X9_fails V_X9_fails m_X9_239 (Or.inl ⟨_, _, _, _, b_m.1, rfl⟩) ⟨⟨rfl, rfl⟩, ⟨(Nat.le_of_ble_eq_true rfl), (Nat.le_of_ble_eq_true rfl)⟩, ⟨(Nat.le_of_ble_eq_true rfl), (Nat.le_of_ble_eq_true rfl)⟩⟩ rfl rfl (Nat.le_of_ble_eq_true rfl) dX9_noKing_15) (fun r hh n1 hpp => ?_)
    obtain ⟨rfl, bo_y4, hn, c_m, ff⟩ := hpp
    replace hn : n = n1 := Eq.symm hn
    subst hn
    replace b_m : bM k m y4.2 hh := c_m
    clear c_m
    replace ff : rx_fr [(m, 9)] _ hh := ff
    replace fr := rx_frt fr ff (fun a ha => ⟨ha.1, trivial⟩)
    refine rx_if_eq C dX9_noKing_18 25 (by decide) (fun c5 => ?_) (fun c5 => ?_)
    · rw [if_pos c5] at hF
      refine rx_iconst C dX9_noKing_25 (0 : Int32) (by decide) ?_
      obtain rfl := Option.some.inj hF
      exact rx_zret C (rx_nz (Or.inl rfl)) dX9_noKing_26 (Nat.le_refl _) (Nat.le_refl _) ⟨rfl, (Or.inl rfl), rfl, b_m, fr⟩
    · rw [if_neg c5] at hF
      refine rx_iconst C dX9_noKing_21 (1 : Int32) (by decide) ?_
      refine rx_goto C dX9_noKing_22 26 (by decide) ?_
      obtain rfl := Option.some.inj hF
      exact rx_zret C (rx_nz (Or.inr rfl)) dX9_noKing_26 (Nat.le_refl _) (Nat.le_refl _) ⟨rfl, (Or.inr rfl), rfl, b_m, fr⟩
def F_X9_royalHolder (om : ob) (x1 : Int32) : Option (Int32 × ob) := rx_le (upd om.1 0 ((0 : Int32)), om.2) fun o_m_1 => (F_X9_noKing o_m_1 x1).bind fun y2 => if y2.1 = (0 : Int32) then ((F_X9_ofRoyal y2.2 x1 ((0 : Int32))).bind fun y4 => some (y4, y2.2)) else (some ((0 : Int32), y2.2))
set_option maxRecDepth 100000 in
set_option maxHeartbeats 4000000 in
theorem w_X9_royalHolder {m : Nat} {om : ob} {x1 : Int32} {y : Int32 × ob} (hF : F_X9_royalHolder om x1 = some y) (b_m : bM k m om h) : Met l yX9_royalHolder (rx_ws yX9_royalHolder cX9_royalHolder 2 (some .int)) (rx_rm 3 64) (va_Pc [.ref m, .int x1] (rx_G G k h n)) (va_Qi (fun r u => y.1 = r ∧ u.2 = n ∧ bM k m y.2 u.1 ∧ rx_fr [(m, 9)] h u.1) (rx_B G k) (rx_A k)) 0 0 (rx_A k) := by
  refine rx_start [(0, .ref m), (1, .int x1)] rfl (Nat.le_of_ble_eq_true rfl) (by decide) rfl (fun P9 E9 S9 M9 A9 B9 me9 c9 C hname => ?_)
  unfold F_X9_royalHolder at hF
  have fr : rx_fr [(m, 9)] h h := rx_fr0
  refine rx_aload_n C dX9_royalHolder_0 0 rfl ?_
  refine rx_iconst C dX9_royalHolder_1 (0 : Int32) (by decide) ?_
  replace hF := rx_leE hF; obtain ⟨o_m_1, e_o_m_1, hF⟩ := hF
  refine rx_pM0 C f_X9_1 dX9_royalHolder_2 b_m e_o_m_1 (fun hh c_m ff => ?_)
  replace b_m := c_m
  replace fr := rx_frt fr ff (fun a ha => ⟨ha.1, trivial⟩)
  refine rx_aload_n C dX9_royalHolder_5 0 rfl ?_
  refine rx_iload_n C dX9_royalHolder_6 1 rfl ?_
  replace hF := rx_biE hF; obtain ⟨y2, e_y2, hF⟩ := hF
  refine rx_ci (rx_rV C (w_X9_noKing e_y2 b_m) Y_X9_noKing V_X9_noKing m_X9_272 (Or.inl ⟨_, _, _, _, b_m.1, rfl⟩) ⟨⟨rfl, rfl⟩, ⟨(Nat.le_of_ble_eq_true rfl), (Nat.le_of_ble_eq_true rfl)⟩, ⟨(Nat.le_of_ble_eq_true rfl), (Nat.le_of_ble_eq_true rfl)⟩⟩ rfl rfl (Nat.le_of_ble_eq_true rfl) dX9_royalHolder_7) (fun r hh n1 hpp => ?_)
  obtain ⟨rfl, bo_y2, hn, c_m, ff⟩ := hpp
  replace hn : n = n1 := Eq.symm hn
  subst hn
  replace b_m : bM k m y2.2 hh := c_m
  clear c_m
  replace ff : rx_fr [(m, 9)] _ hh := ff
  replace fr := rx_frt fr ff (fun a ha => ⟨ha.1, trivial⟩)
  refine rx_if_eq C dX9_royalHolder_10 17 (by decide) (fun c3 => ?_) (fun c3 => ?_)
  · rw [if_pos c3] at hF
    refine rx_aload_n C dX9_royalHolder_17 0 rfl ?_
    refine rx_iload_n C dX9_royalHolder_18 1 rfl ?_
    refine rx_iconst C dX9_royalHolder_19 (0 : Int32) (by decide) ?_
    replace hF := rx_biE hF; obtain ⟨y4, e_y4, hF⟩ := hF
    refine rx_ci (rx_rV C (w_X9_ofRoyal e_y4 b_m) Y_X9_ofRoyal V_X9_ofRoyal m_X9_95 (Or.inl ⟨_, _, _, _, b_m.1, rfl⟩) ⟨⟨rfl, rfl⟩, ⟨(Nat.le_of_ble_eq_true rfl), (Nat.le_of_ble_eq_true rfl)⟩, ⟨(Nat.le_of_ble_eq_true rfl), (Nat.le_of_ble_eq_true rfl)⟩⟩ rfl rfl (Nat.le_of_ble_eq_true rfl) dX9_royalHolder_20) (fun r hh n1 hpp => ?_)
    obtain ⟨rfl, hu⟩ := hpp
    cases hu
    obtain rfl := Option.some.inj hF
    exact rx_iret C dX9_royalHolder_23 (Nat.le_refl _) (Nat.le_refl _) ⟨rfl, rfl, b_m, fr⟩
  · rw [if_neg c3] at hF
    refine rx_iconst C dX9_royalHolder_13 (0 : Int32) (by decide) ?_
    refine rx_goto C dX9_royalHolder_14 23 (by decide) ?_
    obtain rfl := Option.some.inj hF
    exact rx_iret C dX9_royalHolder_23 (Nat.le_refl _) (Nat.le_refl _) ⟨rfl, rfl, b_m, fr⟩
def F_X9_isRoyalCoinEast (om : ob) (x1 : Int32) : Option (Int32 × ob) := rx_le (upd om.1 0 ((0 : Int32)), om.2) fun o_m_1 => (F_X9_noKing o_m_1 x1).bind fun y2 => if y2.1 = (0 : Int32) then ((F_X9_ofRoyal y2.2 x1 ((0 : Int32))).bind fun y4 => if y4 = (-1 : Int32) then ((F_X9_ofRoyal y2.2 x1 ((1 : Int32))).bind fun y8 => if y8 = (1 : Int32) then (some ((1 : Int32), y2.2)) else (some ((0 : Int32), y2.2))) else ((F_X9_of y2.2 y4 ((1 : Int32))).bind fun y6 => if y6 = (1 : Int32) then (some ((1 : Int32), y2.2)) else (some ((0 : Int32), y2.2)))) else (some ((0 : Int32), y2.2))
set_option maxRecDepth 100000 in
set_option maxHeartbeats 4000000 in
theorem w_X9_isRoyalCoinEast {m : Nat} {om : ob} {x1 : Int32} {y : Int32 × ob} (hF : F_X9_isRoyalCoinEast om x1 = some y) (b_m : bM k m om h) : Met l yX9_isRoyalCoinEast (rx_ws yX9_isRoyalCoinEast cX9_isRoyalCoinEast 3 (some .boolean)) (rx_rm 3 64) (va_Pc [.ref m, .int x1] (rx_G G k h n)) (va_Qi (fun r u => y.1 = r ∧ (y.1 = 0 ∨ y.1 = 1) ∧ u.2 = n ∧ bM k m y.2 u.1 ∧ rx_fr [(m, 9)] h u.1) (rx_B G k) (rx_A k)) 0 0 (rx_A k) := by
  refine rx_start [(0, .ref m), (1, .int x1)] rfl (Nat.le_of_ble_eq_true rfl) (by decide) rfl (fun P9 E9 S9 M9 A9 B9 me9 c9 C hname => ?_)
  unfold F_X9_isRoyalCoinEast at hF
  have fr : rx_fr [(m, 9)] h h := rx_fr0
  refine rx_aload_n C dX9_isRoyalCoinEast_0 0 rfl ?_
  refine rx_iconst C dX9_isRoyalCoinEast_1 (0 : Int32) (by decide) ?_
  replace hF := rx_leE hF; obtain ⟨o_m_1, e_o_m_1, hF⟩ := hF
  refine rx_pM0 C f_X9_1 dX9_isRoyalCoinEast_2 b_m e_o_m_1 (fun hh c_m ff => ?_)
  replace b_m := c_m
  replace fr := rx_frt fr ff (fun a ha => ⟨ha.1, trivial⟩)
  refine rx_aload_n C dX9_isRoyalCoinEast_5 0 rfl ?_
  refine rx_iload_n C dX9_isRoyalCoinEast_6 1 rfl ?_
  replace hF := rx_biE hF; obtain ⟨y2, e_y2, hF⟩ := hF
  refine rx_ci (rx_rV C (w_X9_noKing e_y2 b_m) Y_X9_noKing V_X9_noKing m_X9_272 (Or.inl ⟨_, _, _, _, b_m.1, rfl⟩) ⟨⟨rfl, rfl⟩, ⟨(Nat.le_of_ble_eq_true rfl), (Nat.le_of_ble_eq_true rfl)⟩, ⟨(Nat.le_of_ble_eq_true rfl), (Nat.le_of_ble_eq_true rfl)⟩⟩ rfl rfl (Nat.le_of_ble_eq_true rfl) dX9_isRoyalCoinEast_7) (fun r hh n1 hpp => ?_)
  obtain ⟨rfl, bo_y2, hn, c_m, ff⟩ := hpp
  replace hn : n = n1 := Eq.symm hn
  subst hn
  replace b_m : bM k m y2.2 hh := c_m
  clear c_m
  replace ff : rx_fr [(m, 9)] _ hh := ff
  replace fr := rx_frt fr ff (fun a ha => ⟨ha.1, trivial⟩)
  refine rx_if_eq C dX9_isRoyalCoinEast_10 15 (by decide) (fun c3 => ?_) (fun c3 => ?_)
  · rw [if_pos c3] at hF
    refine rx_aload_n C dX9_isRoyalCoinEast_15 0 rfl ?_
    refine rx_iload_n C dX9_isRoyalCoinEast_16 1 rfl ?_
    refine rx_iconst C dX9_isRoyalCoinEast_17 (0 : Int32) (by decide) ?_
    replace hF := rx_biE hF; obtain ⟨y4, e_y4, hF⟩ := hF
    refine rx_ci (rx_rV C (w_X9_ofRoyal e_y4 b_m) Y_X9_ofRoyal V_X9_ofRoyal m_X9_95 (Or.inl ⟨_, _, _, _, b_m.1, rfl⟩) ⟨⟨rfl, rfl⟩, ⟨(Nat.le_of_ble_eq_true rfl), (Nat.le_of_ble_eq_true rfl)⟩, ⟨(Nat.le_of_ble_eq_true rfl), (Nat.le_of_ble_eq_true rfl)⟩⟩ rfl rfl (Nat.le_of_ble_eq_true rfl) dX9_isRoyalCoinEast_18) (fun r hh n1 hpp => ?_)
    obtain ⟨rfl, hu⟩ := hpp
    cases hu
    refine rx_istore_n C dX9_isRoyalCoinEast_21 (by decide) [(2, .int y4), (0, .ref m), (1, .int x1)] rfl ?_
    refine rx_iload_n C dX9_isRoyalCoinEast_22 0 rfl ?_
    refine rx_iconst C dX9_isRoyalCoinEast_23 (-1 : Int32) (by decide) ?_
    refine rx_icmp_ne C dX9_isRoyalCoinEast_24 36 (by decide) (fun c5 => ?_) (fun c5 => ?_)
    · rw [if_neg c5] at hF
      refine rx_aload_n C dX9_isRoyalCoinEast_36 1 rfl ?_
      refine rx_iload_n C dX9_isRoyalCoinEast_37 0 rfl ?_
      refine rx_iconst C dX9_isRoyalCoinEast_38 (1 : Int32) (by decide) ?_
      replace hF := rx_biE hF; obtain ⟨y6, e_y6, hF⟩ := hF
      refine rx_ci (rx_rV C (w_X9_of e_y6 b_m) Y_X9_of V_X9_of m_X9_60 (Or.inl ⟨_, _, _, _, b_m.1, rfl⟩) ⟨⟨rfl, rfl⟩, ⟨(Nat.le_of_ble_eq_true rfl), (Nat.le_of_ble_eq_true rfl)⟩, ⟨(Nat.le_of_ble_eq_true rfl), (Nat.le_of_ble_eq_true rfl)⟩⟩ rfl rfl (Nat.le_of_ble_eq_true rfl) dX9_isRoyalCoinEast_39) (fun r hh n1 hpp => ?_)
      obtain ⟨rfl, hu⟩ := hpp
      cases hu
      refine rx_iconst C dX9_isRoyalCoinEast_42 (1 : Int32) (by decide) ?_
      refine rx_icmp_ne C dX9_isRoyalCoinEast_43 50 (by decide) (fun c7 => ?_) (fun c7 => ?_)
      · rw [if_neg c7] at hF
        refine rx_iconst C dX9_isRoyalCoinEast_50 (0 : Int32) (by decide) ?_
        obtain rfl := Option.some.inj hF
        exact rx_zret C (rx_nz (Or.inl rfl)) dX9_isRoyalCoinEast_51 (Nat.le_refl _) (Nat.le_refl _) ⟨rfl, (Or.inl rfl), rfl, b_m, fr⟩
      · rw [if_pos c7] at hF
        refine rx_iconst C dX9_isRoyalCoinEast_46 (1 : Int32) (by decide) ?_
        refine rx_goto C dX9_isRoyalCoinEast_47 51 (by decide) ?_
        obtain rfl := Option.some.inj hF
        exact rx_zret C (rx_nz (Or.inr rfl)) dX9_isRoyalCoinEast_51 (Nat.le_refl _) (Nat.le_refl _) ⟨rfl, (Or.inr rfl), rfl, b_m, fr⟩
    · rw [if_pos c5] at hF
      refine rx_aload_n C dX9_isRoyalCoinEast_27 1 rfl ?_
      refine rx_iload_n C dX9_isRoyalCoinEast_28 2 rfl ?_
      refine rx_iconst C dX9_isRoyalCoinEast_29 (1 : Int32) (by decide) ?_
      replace hF := rx_biE hF; obtain ⟨y8, e_y8, hF⟩ := hF
      refine rx_ci (rx_rV C (w_X9_ofRoyal e_y8 b_m) Y_X9_ofRoyal V_X9_ofRoyal m_X9_95 (Or.inl ⟨_, _, _, _, b_m.1, rfl⟩) ⟨⟨rfl, rfl⟩, ⟨(Nat.le_of_ble_eq_true rfl), (Nat.le_of_ble_eq_true rfl)⟩, ⟨(Nat.le_of_ble_eq_true rfl), (Nat.le_of_ble_eq_true rfl)⟩⟩ rfl rfl (Nat.le_of_ble_eq_true rfl) dX9_isRoyalCoinEast_30) (fun r hh n1 hpp => ?_)
      obtain ⟨rfl, hu⟩ := hpp
      cases hu
      refine rx_goto C dX9_isRoyalCoinEast_33 42 (by decide) ?_
      refine rx_iconst C dX9_isRoyalCoinEast_42 (1 : Int32) (by decide) ?_
      refine rx_icmp_ne C dX9_isRoyalCoinEast_43 50 (by decide) (fun c10 => ?_) (fun c10 => ?_)
      · rw [if_neg c10] at hF
        refine rx_iconst C dX9_isRoyalCoinEast_50 (0 : Int32) (by decide) ?_
        obtain rfl := Option.some.inj hF
        exact rx_zret C (rx_nz (Or.inl rfl)) dX9_isRoyalCoinEast_51 (Nat.le_refl _) (Nat.le_refl _) ⟨rfl, (Or.inl rfl), rfl, b_m, fr⟩
      · rw [if_pos c10] at hF
        refine rx_iconst C dX9_isRoyalCoinEast_46 (1 : Int32) (by decide) ?_
        refine rx_goto C dX9_isRoyalCoinEast_47 51 (by decide) ?_
        obtain rfl := Option.some.inj hF
        exact rx_zret C (rx_nz (Or.inr rfl)) dX9_isRoyalCoinEast_51 (Nat.le_refl _) (Nat.le_refl _) ⟨rfl, (Or.inr rfl), rfl, b_m, fr⟩
  · rw [if_neg c3] at hF
    refine rx_iconst C dX9_isRoyalCoinEast_13 (0 : Int32) (by decide) ?_
    obtain rfl := Option.some.inj hF
    exact rx_zret C (rx_nz (Or.inl rfl)) dX9_isRoyalCoinEast_14 (Nat.le_refl _) (Nat.le_refl _) ⟨rfl, (Or.inl rfl), rfl, b_m, fr⟩
def F_X9_isCounted (om : ob) (x1 : Int32) : Option (Int32 × ob) := rx_le (upd om.1 0 ((0 : Int32)), om.2) fun o_m_1 => (F_X9_noKing o_m_1 x1).bind fun y2 => if y2.1 = (0 : Int32) then ((F_X9_ofRoyal y2.2 x1 ((2 : Int32))).bind fun y4 => if y4 = (1 : Int32) then (some ((1 : Int32), y2.2)) else (some ((0 : Int32), y2.2))) else (some ((0 : Int32), y2.2))
set_option maxRecDepth 100000 in
set_option maxHeartbeats 4000000 in
theorem w_X9_isCounted {m : Nat} {om : ob} {x1 : Int32} {y : Int32 × ob} (hF : F_X9_isCounted om x1 = some y) (b_m : bM k m om h) : Met l yX9_isCounted (rx_ws yX9_isCounted cX9_isCounted 2 (some .boolean)) (rx_rm 3 64) (va_Pc [.ref m, .int x1] (rx_G G k h n)) (va_Qi (fun r u => y.1 = r ∧ (y.1 = 0 ∨ y.1 = 1) ∧ u.2 = n ∧ bM k m y.2 u.1 ∧ rx_fr [(m, 9)] h u.1) (rx_B G k) (rx_A k)) 0 0 (rx_A k) := by
  refine rx_start [(0, .ref m), (1, .int x1)] rfl (Nat.le_of_ble_eq_true rfl) (by decide) rfl (fun P9 E9 S9 M9 A9 B9 me9 c9 C hname => ?_)
  unfold F_X9_isCounted at hF
  have fr : rx_fr [(m, 9)] h h := rx_fr0
  refine rx_aload_n C dX9_isCounted_0 0 rfl ?_
  refine rx_iconst C dX9_isCounted_1 (0 : Int32) (by decide) ?_
  replace hF := rx_leE hF; obtain ⟨o_m_1, e_o_m_1, hF⟩ := hF
  refine rx_pM0 C f_X9_1 dX9_isCounted_2 b_m e_o_m_1 (fun hh c_m ff => ?_)
  replace b_m := c_m
  replace fr := rx_frt fr ff (fun a ha => ⟨ha.1, trivial⟩)
  refine rx_aload_n C dX9_isCounted_5 0 rfl ?_
  refine rx_iload_n C dX9_isCounted_6 1 rfl ?_
  replace hF := rx_biE hF; obtain ⟨y2, e_y2, hF⟩ := hF
  refine rx_ci (rx_rV C (w_X9_noKing e_y2 b_m) Y_X9_noKing V_X9_noKing m_X9_272 (Or.inl ⟨_, _, _, _, b_m.1, rfl⟩) ⟨⟨rfl, rfl⟩, ⟨(Nat.le_of_ble_eq_true rfl), (Nat.le_of_ble_eq_true rfl)⟩, ⟨(Nat.le_of_ble_eq_true rfl), (Nat.le_of_ble_eq_true rfl)⟩⟩ rfl rfl (Nat.le_of_ble_eq_true rfl) dX9_isCounted_7) (fun r hh n1 hpp => ?_)
  obtain ⟨rfl, bo_y2, hn, c_m, ff⟩ := hpp
  replace hn : n = n1 := Eq.symm hn
  subst hn
  replace b_m : bM k m y2.2 hh := c_m
  clear c_m
  replace ff : rx_fr [(m, 9)] _ hh := ff
  replace fr := rx_frt fr ff (fun a ha => ⟨ha.1, trivial⟩)
  refine rx_if_ne C dX9_isCounted_10 27 (by decide) (fun c3 => ?_) (fun c3 => ?_)
  · rw [if_neg c3] at hF
    refine rx_iconst C dX9_isCounted_27 (0 : Int32) (by decide) ?_
    obtain rfl := Option.some.inj hF
    exact rx_zret C (rx_nz (Or.inl rfl)) dX9_isCounted_28 (Nat.le_refl _) (Nat.le_refl _) ⟨rfl, (Or.inl rfl), rfl, b_m, fr⟩
  · rw [if_pos c3] at hF
    refine rx_aload_n C dX9_isCounted_13 0 rfl ?_
    refine rx_iload_n C dX9_isCounted_14 1 rfl ?_
    refine rx_iconst C dX9_isCounted_15 (2 : Int32) (by decide) ?_
    replace hF := rx_biE hF; obtain ⟨y4, e_y4, hF⟩ := hF
    refine rx_ci (rx_rV C (w_X9_ofRoyal e_y4 b_m) Y_X9_ofRoyal V_X9_ofRoyal m_X9_95 (Or.inl ⟨_, _, _, _, b_m.1, rfl⟩) ⟨⟨rfl, rfl⟩, ⟨(Nat.le_of_ble_eq_true rfl), (Nat.le_of_ble_eq_true rfl)⟩, ⟨(Nat.le_of_ble_eq_true rfl), (Nat.le_of_ble_eq_true rfl)⟩⟩ rfl rfl (Nat.le_of_ble_eq_true rfl) dX9_isCounted_16) (fun r hh n1 hpp => ?_)
    obtain ⟨rfl, hu⟩ := hpp
    cases hu
    refine rx_iconst C dX9_isCounted_19 (1 : Int32) (by decide) ?_
    refine rx_icmp_ne C dX9_isCounted_20 27 (by decide) (fun c5 => ?_) (fun c5 => ?_)
    · rw [if_neg c5] at hF
      refine rx_iconst C dX9_isCounted_27 (0 : Int32) (by decide) ?_
      obtain rfl := Option.some.inj hF
      exact rx_zret C (rx_nz (Or.inl rfl)) dX9_isCounted_28 (Nat.le_refl _) (Nat.le_refl _) ⟨rfl, (Or.inl rfl), rfl, b_m, fr⟩
    · rw [if_pos c5] at hF
      refine rx_iconst C dX9_isCounted_23 (1 : Int32) (by decide) ?_
      refine rx_goto C dX9_isCounted_24 28 (by decide) ?_
      obtain rfl := Option.some.inj hF
      exact rx_zret C (rx_nz (Or.inr rfl)) dX9_isCounted_28 (Nat.le_refl _) (Nat.le_refl _) ⟨rfl, (Or.inr rfl), rfl, b_m, fr⟩
def F_X9_royalCoins (om : ob) (x1 : Int32) : Option (Int32 × ob) := rx_le (upd om.1 0 ((0 : Int32)), om.2) fun o_m_1 => (F_X9_noOne o_m_1 x1).bind fun y2 => if y2.1 = (0 : Int32) then ((F_X9_royalsOf y2.2 x1).bind fun y4 => some (y4, y2.2)) else (some ((0 : Int32), y2.2))
set_option maxRecDepth 100000 in
set_option maxHeartbeats 4000000 in
theorem w_X9_royalCoins {m : Nat} {om : ob} {x1 : Int32} {y : Int32 × ob} (hF : F_X9_royalCoins om x1 = some y) (b_m : bM k m om h) : Met l yX9_royalCoins (rx_ws yX9_royalCoins cX9_royalCoins 2 (some .int)) (rx_rm 3 66) (va_Pc [.ref m, .int x1] (rx_G G k h n)) (va_Qi (fun r u => y.1 = r ∧ u.2 = n ∧ bM k m y.2 u.1 ∧ rx_fr [(m, 9)] h u.1) (rx_B G k) (rx_A k)) 0 0 (rx_A k) := by
  refine rx_start [(0, .ref m), (1, .int x1)] rfl (Nat.le_of_ble_eq_true rfl) (by decide) rfl (fun P9 E9 S9 M9 A9 B9 me9 c9 C hname => ?_)
  unfold F_X9_royalCoins at hF
  have fr : rx_fr [(m, 9)] h h := rx_fr0
  refine rx_aload_n C dX9_royalCoins_0 0 rfl ?_
  refine rx_iconst C dX9_royalCoins_1 (0 : Int32) (by decide) ?_
  replace hF := rx_leE hF; obtain ⟨o_m_1, e_o_m_1, hF⟩ := hF
  refine rx_pM0 C f_X9_1 dX9_royalCoins_2 b_m e_o_m_1 (fun hh c_m ff => ?_)
  replace b_m := c_m
  replace fr := rx_frt fr ff (fun a ha => ⟨ha.1, trivial⟩)
  refine rx_aload_n C dX9_royalCoins_5 0 rfl ?_
  refine rx_iload_n C dX9_royalCoins_6 1 rfl ?_
  replace hF := rx_biE hF; obtain ⟨y2, e_y2, hF⟩ := hF
  refine rx_ci (rx_rV C (w_X9_noOne e_y2 b_m) Y_X9_noOne V_X9_noOne m_X9_263 (Or.inl ⟨_, _, _, _, b_m.1, rfl⟩) ⟨⟨rfl, rfl⟩, ⟨(Nat.le_of_ble_eq_true rfl), (Nat.le_of_ble_eq_true rfl)⟩, ⟨(Nat.le_of_ble_eq_true rfl), (Nat.le_of_ble_eq_true rfl)⟩⟩ rfl rfl (Nat.le_of_ble_eq_true rfl) dX9_royalCoins_7) (fun r hh n1 hpp => ?_)
  obtain ⟨rfl, bo_y2, hn, c_m, ff⟩ := hpp
  replace hn : n = n1 := Eq.symm hn
  subst hn
  replace b_m : bM k m y2.2 hh := c_m
  clear c_m
  replace ff : rx_fr [(m, 9)] _ hh := ff
  replace fr := rx_frt fr ff (fun a ha => ⟨ha.1, trivial⟩)
  refine rx_if_eq C dX9_royalCoins_10 17 (by decide) (fun c3 => ?_) (fun c3 => ?_)
  · rw [if_pos c3] at hF
    refine rx_aload_n C dX9_royalCoins_17 0 rfl ?_
    refine rx_iload_n C dX9_royalCoins_18 1 rfl ?_
    replace hF := rx_biE hF; obtain ⟨y4, e_y4, hF⟩ := hF
    refine rx_ci (rx_rV C (w_X9_royalsOf e_y4 b_m) Y_X9_royalsOf V_X9_royalsOf m_X9_130 (Or.inl ⟨_, _, _, _, b_m.1, rfl⟩) ⟨⟨rfl, rfl⟩, ⟨(Nat.le_of_ble_eq_true rfl), (Nat.le_of_ble_eq_true rfl)⟩, ⟨(Nat.le_of_ble_eq_true rfl), (Nat.le_of_ble_eq_true rfl)⟩⟩ rfl rfl (Nat.le_of_ble_eq_true rfl) dX9_royalCoins_19) (fun r hh n1 hpp => ?_)
    obtain ⟨rfl, hu⟩ := hpp
    cases hu
    obtain rfl := Option.some.inj hF
    exact rx_iret C dX9_royalCoins_22 (Nat.le_refl _) (Nat.le_refl _) ⟨rfl, rfl, b_m, fr⟩
  · rw [if_neg c3] at hF
    refine rx_iconst C dX9_royalCoins_13 (0 : Int32) (by decide) ?_
    refine rx_goto C dX9_royalCoins_14 22 (by decide) ?_
    obtain rfl := Option.some.inj hF
    exact rx_iret C dX9_royalCoins_22 (Nat.le_refl _) (Nat.le_refl _) ⟨rfl, rfl, b_m, fr⟩
def F_X9_counted_4 (om : ob) : Nat → Int32 → Int32 → Option (Int32 × Int32)
  | 0, _, _ => none
  | fu + 1, x1, x2 => (rx_ald 144 (om.2 1) ((8 : Int32))).bind fun v3 => if v3 ≤ x2 then (some (x1, x2)) else ((F_X9_isKingNow om x2).bind fun y5 => if y5 = (0 : Int32) then (rx_le ((x1 + (0 : Int32))) fun v7 => F_X9_counted_4 om fu v7 ((x2 + 1))) else ((F_X9_ofRoyal om x2 ((2 : Int32))).bind fun y8 => rx_le ((x1 + y8)) fun v9 => F_X9_counted_4 om fu v9 ((x2 + 1))))
def F_X9_counted (om : ob) : Option (Int32) := (F_X9_counted_4 om 100000 ((0 : Int32)) ((0 : Int32))).bind fun zl10 => some zl10.1
set_option maxRecDepth 100000 in
set_option maxHeartbeats 4000000 in
theorem w_X9_counted {m : Nat} {om : ob} {y : Int32} (hF : F_X9_counted om = some y) (b_m : bM k m om h) : Met l yX9_counted (rx_ws yX9_counted cX9_counted 3 (some .int)) (rx_rm 2 43) (va_Pc [.ref m] (rx_G G k h n)) (va_Qi (fun r u => y = r ∧ u = (h, n)) (rx_B G k) (rx_A k)) 0 0 (rx_A k) := by
  refine rx_start [(0, .ref m)] rfl (Nat.le_of_ble_eq_true rfl) (by decide) rfl (fun P9 E9 S9 M9 A9 B9 me9 c9 C hname => ?_)
  unfold F_X9_counted at hF
  refine rx_iconst C dX9_counted_0 (0 : Int32) (by decide) ?_
  refine rx_istore_n C dX9_counted_1 (by decide) [(1, .int ((0 : Int32))), (0, .ref m)] rfl ?_
  refine rx_iconst C dX9_counted_2 (0 : Int32) (by decide) ?_
  refine rx_istore_n C dX9_counted_3 (by decide) [(2, .int ((0 : Int32))), (1, .int ((0 : Int32))), (0, .ref m)] rfl ?_
  have loop2 : ∀ (fu : Nat) (zz : Int32 × Int32)  (x1 : Int32) (x2 : Int32), F_X9_counted_4 om fu x1 x2 = some zz → bM k m om h → (rx_W P9 l E9 (rx_rm 2 43) S9 M9 A9 B9 me9 c9 (MQ B9 (va_Qi (fun r u => y = r ∧ u = (h, n)) (rx_B G k) (rx_A k)) A9 S9 0 0 (rx_A k)) G k 3 0 0 h n 42 [(0, .ref m), (1, .int zz.1), (2, .int zz.2)] []) → rx_W P9 l E9 (rx_rm 2 43) S9 M9 A9 B9 me9 c9 (MQ B9 (va_Qi (fun r u => y = r ∧ u = (h, n)) (rx_B G k) (rx_A k)) A9 S9 0 0 (rx_A k)) G k 3 0 0 h n 4 [(0, .ref m), (1, .int x1), (2, .int x2)] [] := by
    intro fu
    induction fu with
    | zero => intro zz x1 x2 hF b_m KK; exact absurd hF (by simp [F_X9_counted_4])
    | succ fu ih_loop2 =>
      intro zz x1 x2 hF b_m KK
      unfold F_X9_counted_4 at hF
      refine rx_iload_n C dX9_counted_4 2 rfl ?_
      refine rx_aload_n C dX9_counted_5 0 rfl ?_
      refine rx_getf C f_X9_13 dX9_counted_6 b_m.1 rfl ?_
      refine rx_bipush C dX9_counted_9 (8 : Int32) (by decide) ?_
      replace hF := rx_biE hF; obtain ⟨v3, e_v3, hF⟩ := hF
      refine rx_aldF C dX9_counted_11 b_m.2.1 e_v3 ?_
      refine rx_icmp_ge C dX9_counted_12 42 (by decide) (fun c4 => ?_) (fun c4 => ?_)
      · rw [if_pos c4] at hF
        obtain rfl := Option.some.inj hF
        refine rx_sub [0, 1, 2] rfl ?_
        exact KK
      · rw [if_neg c4] at hF
        refine rx_iload_n C dX9_counted_15 1 rfl ?_
        refine rx_aload_n C dX9_counted_16 0 rfl ?_
        refine rx_iload_n C dX9_counted_17 2 rfl ?_
        replace hF := rx_biE hF; obtain ⟨y5, e_y5, hF⟩ := hF
        refine rx_ci (rx_rV C (w_X9_isKingNow e_y5 b_m) Y_X9_isKingNow V_X9_isKingNow m_X9_64 (Or.inl ⟨_, _, _, _, b_m.1, rfl⟩) ⟨⟨rfl, rfl⟩, ⟨(Nat.le_of_ble_eq_true rfl), (Nat.le_of_ble_eq_true rfl)⟩, ⟨(Nat.le_of_ble_eq_true rfl), (Nat.le_of_ble_eq_true rfl)⟩⟩ rfl rfl (Nat.le_of_ble_eq_true rfl) dX9_counted_18) (fun r hh n1 hpp => ?_)
        obtain ⟨rfl, bo_y5, hu⟩ := hpp
        cases hu
        refine rx_if_eq C dX9_counted_21 33 (by decide) (fun c6 => ?_) (fun c6 => ?_)
        · rw [if_pos c6] at hF
          refine rx_iconst C dX9_counted_33 (0 : Int32) (by decide) ?_
          refine rx_iadd C dX9_counted_34 ?_
          replace hF := rx_leE hF; obtain ⟨v7, e_v7, hF⟩ := hF
          rw [e_v7]
          refine rx_istore_n C dX9_counted_35 (by decide) [(1, .int v7), (0, .ref m), (2, .int x2)] rfl ?_
          refine rx_iinc C dX9_counted_36 2 rfl (x2 + 1) rfl (by decide) [(2, .int ((x2 + 1))), (1, .int v7), (0, .ref m)] rfl ?_
          refine rx_goto C dX9_counted_39 4 (by decide) ?_
          refine rx_sub [2, 1, 0] rfl ?_
          exact ih_loop2 _ _ _ hF b_m KK
        · rw [if_neg c6] at hF
          refine rx_aload_n C dX9_counted_24 0 rfl ?_
          refine rx_iload_n C dX9_counted_25 2 rfl ?_
          refine rx_iconst C dX9_counted_26 (2 : Int32) (by decide) ?_
          replace hF := rx_biE hF; obtain ⟨y8, e_y8, hF⟩ := hF
          refine rx_ci (rx_rV C (w_X9_ofRoyal e_y8 b_m) Y_X9_ofRoyal V_X9_ofRoyal m_X9_95 (Or.inl ⟨_, _, _, _, b_m.1, rfl⟩) ⟨⟨rfl, rfl⟩, ⟨(Nat.le_of_ble_eq_true rfl), (Nat.le_of_ble_eq_true rfl)⟩, ⟨(Nat.le_of_ble_eq_true rfl), (Nat.le_of_ble_eq_true rfl)⟩⟩ rfl rfl (Nat.le_of_ble_eq_true rfl) dX9_counted_27) (fun r hh n1 hpp => ?_)
          obtain ⟨rfl, hu⟩ := hpp
          cases hu
          refine rx_goto C dX9_counted_30 34 (by decide) ?_
          refine rx_iadd C dX9_counted_34 ?_
          replace hF := rx_leE hF; obtain ⟨v9, e_v9, hF⟩ := hF
          rw [e_v9]
          refine rx_istore_n C dX9_counted_35 (by decide) [(1, .int v9), (0, .ref m), (2, .int x2)] rfl ?_
          refine rx_iinc C dX9_counted_36 2 rfl (x2 + 1) rfl (by decide) [(2, .int ((x2 + 1))), (1, .int v9), (0, .ref m)] rfl ?_
          refine rx_goto C dX9_counted_39 4 (by decide) ?_
          refine rx_sub [2, 1, 0] rfl ?_
          exact ih_loop2 _ _ _ hF b_m KK
  refine rx_sub [2, 1, 0] rfl ?_
  replace hF := rx_biE hF; obtain ⟨zl10, e_zl10, hF⟩ := hF
  refine loop2 _ zl10 _ _ e_zl10 b_m ?_
  refine rx_iload_n C dX9_counted_42 1 rfl ?_
  obtain rfl := Option.some.inj hF
  exact rx_iret C dX9_counted_43 (Nat.le_refl _) (Nat.le_refl _) ⟨rfl, rfl⟩
def F_X9_countedRoyalCoins (om : ob) : Option (Int32 × ob) := rx_le (upd om.1 0 ((0 : Int32)), om.2) fun o_m_1 => (F_X9_counted o_m_1).bind fun y2 => some (y2, o_m_1)
set_option maxRecDepth 100000 in
set_option maxHeartbeats 4000000 in
theorem w_X9_countedRoyalCoins {m : Nat} {om : ob} {y : Int32 × ob} (hF : F_X9_countedRoyalCoins om = some y) (b_m : bM k m om h) : Met l yX9_countedRoyalCoins (rx_ws yX9_countedRoyalCoins cX9_countedRoyalCoins 1 (some .int)) (rx_rm 3 65) (va_Pc [.ref m] (rx_G G k h n)) (va_Qi (fun r u => y.1 = r ∧ u.2 = n ∧ bM k m y.2 u.1 ∧ rx_fr [(m, 9)] h u.1) (rx_B G k) (rx_A k)) 0 0 (rx_A k) := by
  refine rx_start [(0, .ref m)] rfl (Nat.le_of_ble_eq_true rfl) (by decide) rfl (fun P9 E9 S9 M9 A9 B9 me9 c9 C hname => ?_)
  unfold F_X9_countedRoyalCoins at hF
  have fr : rx_fr [(m, 9)] h h := rx_fr0
  refine rx_aload_n C dX9_countedRoyalCoins_0 0 rfl ?_
  refine rx_iconst C dX9_countedRoyalCoins_1 (0 : Int32) (by decide) ?_
  replace hF := rx_leE hF; obtain ⟨o_m_1, e_o_m_1, hF⟩ := hF
  refine rx_pM0 C f_X9_1 dX9_countedRoyalCoins_2 b_m e_o_m_1 (fun hh c_m ff => ?_)
  replace b_m := c_m
  replace fr := rx_frt fr ff (fun a ha => ⟨ha.1, trivial⟩)
  refine rx_aload_n C dX9_countedRoyalCoins_5 0 rfl ?_
  replace hF := rx_biE hF; obtain ⟨y2, e_y2, hF⟩ := hF
  refine rx_ci (rx_rV C (w_X9_counted e_y2 b_m) Y_X9_counted V_X9_counted m_X9_275 (Or.inl ⟨_, _, _, _, b_m.1, rfl⟩) ⟨⟨rfl, rfl⟩, ⟨(Nat.le_of_ble_eq_true rfl), (Nat.le_of_ble_eq_true rfl)⟩, ⟨(Nat.le_of_ble_eq_true rfl), (Nat.le_of_ble_eq_true rfl)⟩⟩ rfl rfl (Nat.le_of_ble_eq_true rfl) dX9_countedRoyalCoins_6) (fun r hh n1 hpp => ?_)
  obtain ⟨rfl, hu⟩ := hpp
  cases hu
  obtain rfl := Option.some.inj hF
  exact rx_iret C dX9_countedRoyalCoins_9 (Nat.le_refl _) (Nat.le_refl _) ⟨rfl, rfl, b_m, fr⟩
def F_X9_countedShare (om : ob) : Option (UInt32 × ob) := rx_le (upd om.1 0 ((0 : Int32)), om.2) fun o_m_1 => (F_X9_kings o_m_1).bind fun y2 => if y2 = (0 : Int32) then (some (FP.fconst0, o_m_1)) else ((F_X9_counted o_m_1).bind fun y4 => (F_X9_kings o_m_1).bind fun y5 => (rx_fdv ((FP.i2f y4)) ((FP.i2f y5))).bind fun v6 => some (v6, o_m_1))
set_option maxRecDepth 100000 in
set_option maxHeartbeats 4000000 in
theorem w_X9_countedShare {m : Nat} {om : ob} {y : UInt32 × ob} (hF : F_X9_countedShare om = some y) (b_m : bM k m om h) : Met l yX9_countedShare (rx_ws yX9_countedShare cX9_countedShare 1 (some .float)) (rx_rm 3 65) (va_Pc [.ref m] (rx_G G k h n)) (va_Qf (fun r u => y.1 = r ∧ u.2 = n ∧ bM k m y.2 u.1 ∧ rx_fr [(m, 9)] h u.1) (rx_B G k) (rx_A k)) 0 0 (rx_A k) := by
  refine rx_start [(0, .ref m)] rfl (Nat.le_of_ble_eq_true rfl) (by decide) rfl (fun P9 E9 S9 M9 A9 B9 me9 c9 C hname => ?_)
  unfold F_X9_countedShare at hF
  have fr : rx_fr [(m, 9)] h h := rx_fr0
  refine rx_aload_n C dX9_countedShare_0 0 rfl ?_
  refine rx_iconst C dX9_countedShare_1 (0 : Int32) (by decide) ?_
  replace hF := rx_leE hF; obtain ⟨o_m_1, e_o_m_1, hF⟩ := hF
  refine rx_pM0 C f_X9_1 dX9_countedShare_2 b_m e_o_m_1 (fun hh c_m ff => ?_)
  replace b_m := c_m
  replace fr := rx_frt fr ff (fun a ha => ⟨ha.1, trivial⟩)
  refine rx_aload_n C dX9_countedShare_5 0 rfl ?_
  replace hF := rx_biE hF; obtain ⟨y2, e_y2, hF⟩ := hF
  refine rx_ci (rx_rV C (w_X9_kings e_y2 b_m) Y_X9_kings V_X9_kings m_X9_260 (Or.inl ⟨_, _, _, _, b_m.1, rfl⟩) ⟨⟨rfl, rfl⟩, ⟨(Nat.le_of_ble_eq_true rfl), (Nat.le_of_ble_eq_true rfl)⟩, ⟨(Nat.le_of_ble_eq_true rfl), (Nat.le_of_ble_eq_true rfl)⟩⟩ rfl rfl (Nat.le_of_ble_eq_true rfl) dX9_countedShare_6) (fun r hh n1 hpp => ?_)
  obtain ⟨rfl, hu⟩ := hpp
  cases hu
  refine rx_if_ne C dX9_countedShare_9 16 (by decide) (fun c3 => ?_) (fun c3 => ?_)
  · rw [if_neg c3] at hF
    refine rx_aload_n C dX9_countedShare_16 0 rfl ?_
    replace hF := rx_biE hF; obtain ⟨y4, e_y4, hF⟩ := hF
    refine rx_ci (rx_rV C (w_X9_counted e_y4 b_m) Y_X9_counted V_X9_counted m_X9_275 (Or.inl ⟨_, _, _, _, b_m.1, rfl⟩) ⟨⟨rfl, rfl⟩, ⟨(Nat.le_of_ble_eq_true rfl), (Nat.le_of_ble_eq_true rfl)⟩, ⟨(Nat.le_of_ble_eq_true rfl), (Nat.le_of_ble_eq_true rfl)⟩⟩ rfl rfl (Nat.le_of_ble_eq_true rfl) dX9_countedShare_17) (fun r hh n1 hpp => ?_)
    obtain ⟨rfl, hu⟩ := hpp
    cases hu
    refine rx_i2f C dX9_countedShare_20 ?_
    refine rx_aload_n C dX9_countedShare_21 0 rfl ?_
    replace hF := rx_biE hF; obtain ⟨y5, e_y5, hF⟩ := hF
    refine rx_ci (rx_rV C (w_X9_kings e_y5 b_m) Y_X9_kings V_X9_kings m_X9_260 (Or.inl ⟨_, _, _, _, b_m.1, rfl⟩) ⟨⟨rfl, rfl⟩, ⟨(Nat.le_of_ble_eq_true rfl), (Nat.le_of_ble_eq_true rfl)⟩, ⟨(Nat.le_of_ble_eq_true rfl), (Nat.le_of_ble_eq_true rfl)⟩⟩ rfl rfl (Nat.le_of_ble_eq_true rfl) dX9_countedShare_22) (fun r hh n1 hpp => ?_)
    obtain ⟨rfl, hu⟩ := hpp
    cases hu
    refine rx_i2f C dX9_countedShare_25 ?_
    replace hF := rx_biE hF; obtain ⟨v6, e_v6, hF⟩ := hF
    refine rx_fdivF C dX9_countedShare_26 e_v6 ?_
    obtain rfl := Option.some.inj hF
    exact rx_fret C dX9_countedShare_27 (Nat.le_refl _) (Nat.le_refl _) ⟨rfl, rfl, b_m, fr⟩
  · rw [if_pos c3] at hF
    refine rx_fconst0 C dX9_countedShare_12 ?_
    refine rx_goto C dX9_countedShare_13 27 (by decide) ?_
    obtain rfl := Option.some.inj hF
    exact rx_fret C dX9_countedShare_27 (Nat.le_refl _) (Nat.le_refl _) ⟨rfl, rfl, b_m, fr⟩
def F_X9_queueLength (om : ob) (x1 : Int32) : Option (Int32 × ob) := rx_le (upd om.1 0 ((0 : Int32)), om.2) fun o_m_1 => (F_X9_truth x1).bind fun y2 => (F_X9_lengthOf o_m_1 y2).bind fun y3 => some (y3, o_m_1)
set_option maxRecDepth 100000 in
set_option maxHeartbeats 4000000 in
theorem w_X9_queueLength {m : Nat} {om : ob} {x1 : Int32} {y : Int32 × ob} (hF : F_X9_queueLength om x1 = some y) (b_m : bM k m om h) : Met l yX9_queueLength (rx_ws yX9_queueLength cX9_queueLength 2 (some .int)) (rx_rm 3 66) (va_Pc [.ref m, .int x1] (rx_G G k h n)) (va_Qi (fun r u => y.1 = r ∧ u.2 = n ∧ bM k m y.2 u.1 ∧ rx_fr [(m, 9)] h u.1) (rx_B G k) (rx_A k)) 0 0 (rx_A k) := by
  refine rx_start [(0, .ref m), (1, .int x1)] rfl (Nat.le_of_ble_eq_true rfl) (by decide) rfl (fun P9 E9 S9 M9 A9 B9 me9 c9 C hname => ?_)
  unfold F_X9_queueLength at hF
  have fr : rx_fr [(m, 9)] h h := rx_fr0
  refine rx_aload_n C dX9_queueLength_0 0 rfl ?_
  refine rx_iconst C dX9_queueLength_1 (0 : Int32) (by decide) ?_
  replace hF := rx_leE hF; obtain ⟨o_m_1, e_o_m_1, hF⟩ := hF
  refine rx_pM0 C f_X9_1 dX9_queueLength_2 b_m e_o_m_1 (fun hh c_m ff => ?_)
  replace b_m := c_m
  replace fr := rx_frt fr ff (fun a ha => ⟨ha.1, trivial⟩)
  refine rx_aload_n C dX9_queueLength_5 0 rfl ?_
  refine rx_iload_n C dX9_queueLength_6 1 rfl ?_
  replace hF := rx_biE hF; obtain ⟨y2, e_y2, hF⟩ := hF
  refine rx_ci (rx_rS C (w_X9_truth e_y2 ) Y_X9_truth S_X9_truth m_X9_85 ⟨⟨rfl, rfl⟩, ⟨(Nat.le_of_ble_eq_true rfl), (Nat.le_of_ble_eq_true rfl)⟩, ⟨(Nat.le_of_ble_eq_true rfl), (Nat.le_of_ble_eq_true rfl)⟩⟩ rfl rfl (Nat.le_of_ble_eq_true rfl) dX9_queueLength_7) (fun r hh n1 hpp => ?_)
  obtain ⟨rfl, hu⟩ := hpp
  cases hu
  replace hF := rx_biE hF; obtain ⟨y3, e_y3, hF⟩ := hF
  refine rx_ci (rx_rV C (w_X9_lengthOf e_y3 b_m) Y_X9_lengthOf V_X9_lengthOf m_X9_278 (Or.inl ⟨_, _, _, _, b_m.1, rfl⟩) ⟨⟨rfl, rfl⟩, ⟨(Nat.le_of_ble_eq_true rfl), (Nat.le_of_ble_eq_true rfl)⟩, ⟨(Nat.le_of_ble_eq_true rfl), (Nat.le_of_ble_eq_true rfl)⟩⟩ rfl rfl (Nat.le_of_ble_eq_true rfl) dX9_queueLength_10) (fun r hh n1 hpp => ?_)
  obtain ⟨rfl, hu⟩ := hpp
  cases hu
  obtain rfl := Option.some.inj hF
  exact rx_iret C dX9_queueLength_13 (Nat.le_refl _) (Nat.le_refl _) ⟨rfl, rfl, b_m, fr⟩
def F_X9_queued (om : ob) (x1 : Int32) (x2 : Int32) : Option (Int32 × ob) := rx_le (upd om.1 0 ((0 : Int32)), om.2) fun o_m_1 => (F_X9_truth x1).bind fun y2 => (F_X9_at o_m_1 y2 x2).bind fun y3 => some (y3, o_m_1)
set_option maxRecDepth 100000 in
set_option maxHeartbeats 4000000 in
theorem w_X9_queued {m : Nat} {om : ob} {x1 : Int32} {x2 : Int32} {y : Int32 × ob} (hF : F_X9_queued om x1 x2 = some y) (b_m : bM k m om h) : Met l yX9_queued (rx_ws yX9_queued cX9_queued 3 (some .int)) (rx_rm 4 90) (va_Pc [.ref m, .int x1, .int x2] (rx_G G k h n)) (va_Qi (fun r u => y.1 = r ∧ u.2 = n ∧ bM k m y.2 u.1 ∧ rx_fr [(m, 9)] h u.1) (rx_B G k) (rx_A k)) 0 0 (rx_A k) := by
  refine rx_start [(0, .ref m), (1, .int x1), (2, .int x2)] rfl (Nat.le_of_ble_eq_true rfl) (by decide) rfl (fun P9 E9 S9 M9 A9 B9 me9 c9 C hname => ?_)
  unfold F_X9_queued at hF
  have fr : rx_fr [(m, 9)] h h := rx_fr0
  refine rx_aload_n C dX9_queued_0 0 rfl ?_
  refine rx_iconst C dX9_queued_1 (0 : Int32) (by decide) ?_
  replace hF := rx_leE hF; obtain ⟨o_m_1, e_o_m_1, hF⟩ := hF
  refine rx_pM0 C f_X9_1 dX9_queued_2 b_m e_o_m_1 (fun hh c_m ff => ?_)
  replace b_m := c_m
  replace fr := rx_frt fr ff (fun a ha => ⟨ha.1, trivial⟩)
  refine rx_aload_n C dX9_queued_5 0 rfl ?_
  refine rx_iload_n C dX9_queued_6 1 rfl ?_
  replace hF := rx_biE hF; obtain ⟨y2, e_y2, hF⟩ := hF
  refine rx_ci (rx_rS C (w_X9_truth e_y2 ) Y_X9_truth S_X9_truth m_X9_85 ⟨⟨rfl, rfl⟩, ⟨(Nat.le_of_ble_eq_true rfl), (Nat.le_of_ble_eq_true rfl)⟩, ⟨(Nat.le_of_ble_eq_true rfl), (Nat.le_of_ble_eq_true rfl)⟩⟩ rfl rfl (Nat.le_of_ble_eq_true rfl) dX9_queued_7) (fun r hh n1 hpp => ?_)
  obtain ⟨rfl, hu⟩ := hpp
  cases hu
  refine rx_iload_n C dX9_queued_10 2 rfl ?_
  replace hF := rx_biE hF; obtain ⟨y3, e_y3, hF⟩ := hF
  refine rx_ci (rx_rV C (w_X9_at e_y3 b_m) Y_X9_at V_X9_at m_X9_118 (Or.inl ⟨_, _, _, _, b_m.1, rfl⟩) ⟨⟨rfl, rfl⟩, ⟨(Nat.le_of_ble_eq_true rfl), (Nat.le_of_ble_eq_true rfl)⟩, ⟨(Nat.le_of_ble_eq_true rfl), (Nat.le_of_ble_eq_true rfl)⟩⟩ rfl rfl (Nat.le_of_ble_eq_true rfl) dX9_queued_11) (fun r hh n1 hpp => ?_)
  obtain ⟨rfl, hu⟩ := hpp
  cases hu
  obtain rfl := Option.some.inj hF
  exact rx_iret C dX9_queued_14 (Nat.le_refl _) (Nat.le_refl _) ⟨rfl, rfl, b_m, fr⟩
def F_X9_offer (om : ob) (x1 : Int32) : Option (Int32 × ob) := rx_le (upd om.1 0 ((0 : Int32)), om.2) fun o_m_1 => (F_X9_noOne o_m_1 x1).bind fun y2 => if y2.1 = (0 : Int32) then ((F_X9_of y2.2 x1 ((6 : Int32))).bind fun y4 => some ((y4 - (1 : Int32)), y2.2)) else (some ((0 : Int32), y2.2))
set_option maxRecDepth 100000 in
set_option maxHeartbeats 4000000 in
theorem w_X9_offer {m : Nat} {om : ob} {x1 : Int32} {y : Int32 × ob} (hF : F_X9_offer om x1 = some y) (b_m : bM k m om h) : Met l yX9_offer (rx_ws yX9_offer cX9_offer 2 (some .int)) (rx_rm 2 43) (va_Pc [.ref m, .int x1] (rx_G G k h n)) (va_Qi (fun r u => y.1 = r ∧ u.2 = n ∧ bM k m y.2 u.1 ∧ rx_fr [(m, 9)] h u.1) (rx_B G k) (rx_A k)) 0 0 (rx_A k) := by
  refine rx_start [(0, .ref m), (1, .int x1)] rfl (Nat.le_of_ble_eq_true rfl) (by decide) rfl (fun P9 E9 S9 M9 A9 B9 me9 c9 C hname => ?_)
  unfold F_X9_offer at hF
  have fr : rx_fr [(m, 9)] h h := rx_fr0
  refine rx_aload_n C dX9_offer_0 0 rfl ?_
  refine rx_iconst C dX9_offer_1 (0 : Int32) (by decide) ?_
  replace hF := rx_leE hF; obtain ⟨o_m_1, e_o_m_1, hF⟩ := hF
  refine rx_pM0 C f_X9_1 dX9_offer_2 b_m e_o_m_1 (fun hh c_m ff => ?_)
  replace b_m := c_m
  replace fr := rx_frt fr ff (fun a ha => ⟨ha.1, trivial⟩)
  refine rx_aload_n C dX9_offer_5 0 rfl ?_
  refine rx_iload_n C dX9_offer_6 1 rfl ?_
  replace hF := rx_biE hF; obtain ⟨y2, e_y2, hF⟩ := hF
  refine rx_ci (rx_rV C (w_X9_noOne e_y2 b_m) Y_X9_noOne V_X9_noOne m_X9_263 (Or.inl ⟨_, _, _, _, b_m.1, rfl⟩) ⟨⟨rfl, rfl⟩, ⟨(Nat.le_of_ble_eq_true rfl), (Nat.le_of_ble_eq_true rfl)⟩, ⟨(Nat.le_of_ble_eq_true rfl), (Nat.le_of_ble_eq_true rfl)⟩⟩ rfl rfl (Nat.le_of_ble_eq_true rfl) dX9_offer_7) (fun r hh n1 hpp => ?_)
  obtain ⟨rfl, bo_y2, hn, c_m, ff⟩ := hpp
  replace hn : n = n1 := Eq.symm hn
  subst hn
  replace b_m : bM k m y2.2 hh := c_m
  clear c_m
  replace ff : rx_fr [(m, 9)] _ hh := ff
  replace fr := rx_frt fr ff (fun a ha => ⟨ha.1, trivial⟩)
  refine rx_if_eq C dX9_offer_10 17 (by decide) (fun c3 => ?_) (fun c3 => ?_)
  · rw [if_pos c3] at hF
    refine rx_aload_n C dX9_offer_17 0 rfl ?_
    refine rx_iload_n C dX9_offer_18 1 rfl ?_
    refine rx_bipush C dX9_offer_19 (6 : Int32) (by decide) ?_
    replace hF := rx_biE hF; obtain ⟨y4, e_y4, hF⟩ := hF
    refine rx_ci (rx_rV C (w_X9_of e_y4 b_m) Y_X9_of V_X9_of m_X9_60 (Or.inl ⟨_, _, _, _, b_m.1, rfl⟩) ⟨⟨rfl, rfl⟩, ⟨(Nat.le_of_ble_eq_true rfl), (Nat.le_of_ble_eq_true rfl)⟩, ⟨(Nat.le_of_ble_eq_true rfl), (Nat.le_of_ble_eq_true rfl)⟩⟩ rfl rfl (Nat.le_of_ble_eq_true rfl) dX9_offer_21) (fun r hh n1 hpp => ?_)
    obtain ⟨rfl, hu⟩ := hpp
    cases hu
    refine rx_iconst C dX9_offer_24 (1 : Int32) (by decide) ?_
    refine rx_isub C dX9_offer_25 ?_
    obtain rfl := Option.some.inj hF
    exact rx_iret C dX9_offer_26 (Nat.le_refl _) (Nat.le_refl _) ⟨rfl, rfl, b_m, fr⟩
  · rw [if_neg c3] at hF
    refine rx_iconst C dX9_offer_13 (0 : Int32) (by decide) ?_
    refine rx_goto C dX9_offer_14 26 (by decide) ?_
    obtain rfl := Option.some.inj hF
    exact rx_iret C dX9_offer_26 (Nat.le_refl _) (Nat.le_refl _) ⟨rfl, rfl, b_m, fr⟩
def F_X9_bridgeCount (om : ob) : Option (Int32 × ob) := rx_le (upd om.1 0 ((0 : Int32)), om.2) fun o_m_1 => (rx_ald 144 (o_m_1.2 1) ((9 : Int32))).bind fun v2 => some (v2, o_m_1)
set_option maxRecDepth 100000 in
set_option maxHeartbeats 4000000 in
theorem w_X9_bridgeCount {m : Nat} {om : ob} {y : Int32 × ob} (hF : F_X9_bridgeCount om = some y) (b_m : bM k m om h) : Met l yX9_bridgeCount (rx_ws yX9_bridgeCount cX9_bridgeCount 1 (some .int)) (rx_rm 0 0) (va_Pc [.ref m] (rx_G G k h n)) (va_Qi (fun r u => y.1 = r ∧ u.2 = n ∧ bM k m y.2 u.1 ∧ rx_fr [(m, 9)] h u.1) (rx_B G k) (rx_A k)) 0 0 (rx_A k) := by
  refine rx_start [(0, .ref m)] rfl (Nat.le_of_ble_eq_true rfl) (by decide) rfl (fun P9 E9 S9 M9 A9 B9 me9 c9 C hname => ?_)
  unfold F_X9_bridgeCount at hF
  have fr : rx_fr [(m, 9)] h h := rx_fr0
  refine rx_aload_n C dX9_bridgeCount_0 0 rfl ?_
  refine rx_iconst C dX9_bridgeCount_1 (0 : Int32) (by decide) ?_
  replace hF := rx_leE hF; obtain ⟨o_m_1, e_o_m_1, hF⟩ := hF
  refine rx_pM0 C f_X9_1 dX9_bridgeCount_2 b_m e_o_m_1 (fun hh c_m ff => ?_)
  replace b_m := c_m
  replace fr := rx_frt fr ff (fun a ha => ⟨ha.1, trivial⟩)
  refine rx_aload_n C dX9_bridgeCount_5 0 rfl ?_
  refine rx_getf C f_X9_13 dX9_bridgeCount_6 b_m.1 rfl ?_
  refine rx_bipush C dX9_bridgeCount_9 (9 : Int32) (by decide) ?_
  replace hF := rx_biE hF; obtain ⟨v2, e_v2, hF⟩ := hF
  refine rx_aldF C dX9_bridgeCount_11 b_m.2.1 e_v2 ?_
  obtain rfl := Option.some.inj hF
  exact rx_iret C dX9_bridgeCount_12 (Nat.le_refl _) (Nat.le_refl _) ⟨rfl, rfl, b_m, fr⟩
def F_X9_isOpen (om : ob) (x1 : Int32) : Option (Int32 × ob) := rx_le (upd om.1 0 ((0 : Int32)), om.2) fun o_m_1 => (rx_ald 144 (o_m_1.2 1) ((9 : Int32))).bind fun v2 => (F_X9_in x1 ((0 : Int32)) ((v2 - (1 : Int32)))).bind fun y3 => (F_X9_fails o_m_1 y3 ((1 : Int32))).bind fun y4 => if y4.1 = (0 : Int32) then ((F_X9_isOpenNow y4.2 x1).bind fun y6 => if y6 = (0 : Int32) then (some ((0 : Int32), y4.2)) else (some ((1 : Int32), y4.2))) else (some ((0 : Int32), y4.2))
set_option maxRecDepth 100000 in
set_option maxHeartbeats 4000000 in
theorem w_X9_isOpen {m : Nat} {om : ob} {x1 : Int32} {y : Int32 × ob} (hF : F_X9_isOpen om x1 = some y) (b_m : bM k m om h) : Met l yX9_isOpen (rx_ws yX9_isOpen cX9_isOpen 2 (some .boolean)) (rx_rm 2 43) (va_Pc [.ref m, .int x1] (rx_G G k h n)) (va_Qi (fun r u => y.1 = r ∧ (y.1 = 0 ∨ y.1 = 1) ∧ u.2 = n ∧ bM k m y.2 u.1 ∧ rx_fr [(m, 9)] h u.1) (rx_B G k) (rx_A k)) 0 0 (rx_A k) := by
  refine rx_start [(0, .ref m), (1, .int x1)] rfl (Nat.le_of_ble_eq_true rfl) (by decide) rfl (fun P9 E9 S9 M9 A9 B9 me9 c9 C hname => ?_)
  unfold F_X9_isOpen at hF
  have fr : rx_fr [(m, 9)] h h := rx_fr0
  refine rx_aload_n C dX9_isOpen_0 0 rfl ?_
  refine rx_iconst C dX9_isOpen_1 (0 : Int32) (by decide) ?_
  replace hF := rx_leE hF; obtain ⟨o_m_1, e_o_m_1, hF⟩ := hF
  refine rx_pM0 C f_X9_1 dX9_isOpen_2 b_m e_o_m_1 (fun hh c_m ff => ?_)
  replace b_m := c_m
  replace fr := rx_frt fr ff (fun a ha => ⟨ha.1, trivial⟩)
  refine rx_aload_n C dX9_isOpen_5 0 rfl ?_
  refine rx_iload_n C dX9_isOpen_6 1 rfl ?_
  refine rx_iconst C dX9_isOpen_7 (0 : Int32) (by decide) ?_
  refine rx_aload_n C dX9_isOpen_8 0 rfl ?_
  refine rx_getf C f_X9_13 dX9_isOpen_9 b_m.1 rfl ?_
  refine rx_bipush C dX9_isOpen_12 (9 : Int32) (by decide) ?_
  replace hF := rx_biE hF; obtain ⟨v2, e_v2, hF⟩ := hF
  refine rx_aldF C dX9_isOpen_14 b_m.2.1 e_v2 ?_
  refine rx_iconst C dX9_isOpen_15 (1 : Int32) (by decide) ?_
  refine rx_isub C dX9_isOpen_16 ?_
  replace hF := rx_biE hF; obtain ⟨y3, e_y3, hF⟩ := hF
  refine rx_ci (rx_rS C (w_X9_in e_y3 ) Y_X9_in S_X9_in m_X9_200 ⟨⟨rfl, rfl⟩, ⟨(Nat.le_of_ble_eq_true rfl), (Nat.le_of_ble_eq_true rfl)⟩, ⟨(Nat.le_of_ble_eq_true rfl), (Nat.le_of_ble_eq_true rfl)⟩⟩ rfl rfl (Nat.le_of_ble_eq_true rfl) dX9_isOpen_17) (fun r hh n1 hpp => ?_)
  obtain ⟨rfl, bo_y3, hu⟩ := hpp
  cases hu
  refine rx_iconst C dX9_isOpen_20 (1 : Int32) (by decide) ?_
  replace hF := rx_biE hF; obtain ⟨y4, e_y4, hF⟩ := hF
  refine rx_ci (rx_rV C (w_X9_fails e_y4 b_m) Y_X9_fails V_X9_fails m_X9_239 (Or.inl ⟨_, _, _, _, b_m.1, rfl⟩) ⟨⟨rfl, rfl⟩, ⟨(Nat.le_of_ble_eq_true rfl), (Nat.le_of_ble_eq_true rfl)⟩, ⟨(Nat.le_of_ble_eq_true rfl), (Nat.le_of_ble_eq_true rfl)⟩⟩ rfl rfl (Nat.le_of_ble_eq_true rfl) dX9_isOpen_21) (fun r hh n1 hpp => ?_)
  obtain ⟨rfl, bo_y4, hn, c_m, ff⟩ := hpp
  replace hn : n = n1 := Eq.symm hn
  subst hn
  replace b_m : bM k m y4.2 hh := c_m
  clear c_m
  replace ff : rx_fr [(m, 9)] _ hh := ff
  replace fr := rx_frt fr ff (fun a ha => ⟨ha.1, trivial⟩)
  refine rx_if_ne C dX9_isOpen_24 39 (by decide) (fun c5 => ?_) (fun c5 => ?_)
  · rw [if_neg c5] at hF
    refine rx_iconst C dX9_isOpen_39 (0 : Int32) (by decide) ?_
    obtain rfl := Option.some.inj hF
    exact rx_zret C (rx_nz (Or.inl rfl)) dX9_isOpen_40 (Nat.le_refl _) (Nat.le_refl _) ⟨rfl, (Or.inl rfl), rfl, b_m, fr⟩
  · rw [if_pos c5] at hF
    refine rx_aload_n C dX9_isOpen_27 0 rfl ?_
    refine rx_iload_n C dX9_isOpen_28 1 rfl ?_
    replace hF := rx_biE hF; obtain ⟨y6, e_y6, hF⟩ := hF
    refine rx_ci (rx_rV C (w_X9_isOpenNow e_y6 b_m) Y_X9_isOpenNow V_X9_isOpenNow m_X9_115 (Or.inl ⟨_, _, _, _, b_m.1, rfl⟩) ⟨⟨rfl, rfl⟩, ⟨(Nat.le_of_ble_eq_true rfl), (Nat.le_of_ble_eq_true rfl)⟩, ⟨(Nat.le_of_ble_eq_true rfl), (Nat.le_of_ble_eq_true rfl)⟩⟩ rfl rfl (Nat.le_of_ble_eq_true rfl) dX9_isOpen_29) (fun r hh n1 hpp => ?_)
    obtain ⟨rfl, bo_y6, hu⟩ := hpp
    cases hu
    refine rx_if_eq C dX9_isOpen_32 39 (by decide) (fun c7 => ?_) (fun c7 => ?_)
    · rw [if_pos c7] at hF
      refine rx_iconst C dX9_isOpen_39 (0 : Int32) (by decide) ?_
      obtain rfl := Option.some.inj hF
      exact rx_zret C (rx_nz (Or.inl rfl)) dX9_isOpen_40 (Nat.le_refl _) (Nat.le_refl _) ⟨rfl, (Or.inl rfl), rfl, b_m, fr⟩
    · rw [if_neg c7] at hF
      refine rx_iconst C dX9_isOpen_35 (1 : Int32) (by decide) ?_
      refine rx_goto C dX9_isOpen_36 40 (by decide) ?_
      obtain rfl := Option.some.inj hF
      exact rx_zret C (rx_nz (Or.inr rfl)) dX9_isOpen_40 (Nat.le_refl _) (Nat.le_refl _) ⟨rfl, (Or.inr rfl), rfl, b_m, fr⟩
def F_X9_roomNow_4 (om : ob) : Nat → Int32 → Int32 → Option (Int32 × Int32)
  | 0, _, _ => none
  | fu + 1, x1, x2 => (rx_ald 144 (om.2 1) ((9 : Int32))).bind fun v3 => if v3 ≤ x2 then (some (x1, x2)) else ((F_X9_isOpenNow om x2).bind fun y5 => if y5 = (0 : Int32) then (rx_le ((x1 + (0 : Int32))) fun v7 => F_X9_roomNow_4 om fu v7 ((x2 + 1))) else ((F_X9_ofBridge om x2 ((2 : Int32))).bind fun y8 => rx_le ((x1 + y8)) fun v9 => F_X9_roomNow_4 om fu v9 ((x2 + 1))))
def F_X9_roomNow (om : ob) : Option (Int32) := (F_X9_roomNow_4 om 100000 ((0 : Int32)) ((0 : Int32))).bind fun zl10 => some zl10.1
set_option maxRecDepth 100000 in
set_option maxHeartbeats 4000000 in
theorem w_X9_roomNow {m : Nat} {om : ob} {y : Int32} (hF : F_X9_roomNow om = some y) (b_m : bM k m om h) : Met l yX9_roomNow (rx_ws yX9_roomNow cX9_roomNow 3 (some .int)) (rx_rm 2 43) (va_Pc [.ref m] (rx_G G k h n)) (va_Qi (fun r u => y = r ∧ u = (h, n)) (rx_B G k) (rx_A k)) 0 0 (rx_A k) := by
  refine rx_start [(0, .ref m)] rfl (Nat.le_of_ble_eq_true rfl) (by decide) rfl (fun P9 E9 S9 M9 A9 B9 me9 c9 C hname => ?_)
  unfold F_X9_roomNow at hF
  refine rx_iconst C dX9_roomNow_0 (0 : Int32) (by decide) ?_
  refine rx_istore_n C dX9_roomNow_1 (by decide) [(1, .int ((0 : Int32))), (0, .ref m)] rfl ?_
  refine rx_iconst C dX9_roomNow_2 (0 : Int32) (by decide) ?_
  refine rx_istore_n C dX9_roomNow_3 (by decide) [(2, .int ((0 : Int32))), (1, .int ((0 : Int32))), (0, .ref m)] rfl ?_
  have loop2 : ∀ (fu : Nat) (zz : Int32 × Int32)  (x1 : Int32) (x2 : Int32), F_X9_roomNow_4 om fu x1 x2 = some zz → bM k m om h → (rx_W P9 l E9 (rx_rm 2 43) S9 M9 A9 B9 me9 c9 (MQ B9 (va_Qi (fun r u => y = r ∧ u = (h, n)) (rx_B G k) (rx_A k)) A9 S9 0 0 (rx_A k)) G k 3 0 0 h n 42 [(0, .ref m), (1, .int zz.1), (2, .int zz.2)] []) → rx_W P9 l E9 (rx_rm 2 43) S9 M9 A9 B9 me9 c9 (MQ B9 (va_Qi (fun r u => y = r ∧ u = (h, n)) (rx_B G k) (rx_A k)) A9 S9 0 0 (rx_A k)) G k 3 0 0 h n 4 [(0, .ref m), (1, .int x1), (2, .int x2)] [] := by
    intro fu
    induction fu with
    | zero => intro zz x1 x2 hF b_m KK; exact absurd hF (by simp [F_X9_roomNow_4])
    | succ fu ih_loop2 =>
      intro zz x1 x2 hF b_m KK
      unfold F_X9_roomNow_4 at hF
      refine rx_iload_n C dX9_roomNow_4 2 rfl ?_
      refine rx_aload_n C dX9_roomNow_5 0 rfl ?_
      refine rx_getf C f_X9_13 dX9_roomNow_6 b_m.1 rfl ?_
      refine rx_bipush C dX9_roomNow_9 (9 : Int32) (by decide) ?_
      replace hF := rx_biE hF; obtain ⟨v3, e_v3, hF⟩ := hF
      refine rx_aldF C dX9_roomNow_11 b_m.2.1 e_v3 ?_
      refine rx_icmp_ge C dX9_roomNow_12 42 (by decide) (fun c4 => ?_) (fun c4 => ?_)
      · rw [if_pos c4] at hF
        obtain rfl := Option.some.inj hF
        refine rx_sub [0, 1, 2] rfl ?_
        exact KK
      · rw [if_neg c4] at hF
        refine rx_iload_n C dX9_roomNow_15 1 rfl ?_
        refine rx_aload_n C dX9_roomNow_16 0 rfl ?_
        refine rx_iload_n C dX9_roomNow_17 2 rfl ?_
        replace hF := rx_biE hF; obtain ⟨y5, e_y5, hF⟩ := hF
        refine rx_ci (rx_rV C (w_X9_isOpenNow e_y5 b_m) Y_X9_isOpenNow V_X9_isOpenNow m_X9_115 (Or.inl ⟨_, _, _, _, b_m.1, rfl⟩) ⟨⟨rfl, rfl⟩, ⟨(Nat.le_of_ble_eq_true rfl), (Nat.le_of_ble_eq_true rfl)⟩, ⟨(Nat.le_of_ble_eq_true rfl), (Nat.le_of_ble_eq_true rfl)⟩⟩ rfl rfl (Nat.le_of_ble_eq_true rfl) dX9_roomNow_18) (fun r hh n1 hpp => ?_)
        obtain ⟨rfl, bo_y5, hu⟩ := hpp
        cases hu
        refine rx_if_eq C dX9_roomNow_21 33 (by decide) (fun c6 => ?_) (fun c6 => ?_)
        · rw [if_pos c6] at hF
          refine rx_iconst C dX9_roomNow_33 (0 : Int32) (by decide) ?_
          refine rx_iadd C dX9_roomNow_34 ?_
          replace hF := rx_leE hF; obtain ⟨v7, e_v7, hF⟩ := hF
          rw [e_v7]
          refine rx_istore_n C dX9_roomNow_35 (by decide) [(1, .int v7), (0, .ref m), (2, .int x2)] rfl ?_
          refine rx_iinc C dX9_roomNow_36 2 rfl (x2 + 1) rfl (by decide) [(2, .int ((x2 + 1))), (1, .int v7), (0, .ref m)] rfl ?_
          refine rx_goto C dX9_roomNow_39 4 (by decide) ?_
          refine rx_sub [2, 1, 0] rfl ?_
          exact ih_loop2 _ _ _ hF b_m KK
        · rw [if_neg c6] at hF
          refine rx_aload_n C dX9_roomNow_24 0 rfl ?_
          refine rx_iload_n C dX9_roomNow_25 2 rfl ?_
          refine rx_iconst C dX9_roomNow_26 (2 : Int32) (by decide) ?_
          replace hF := rx_biE hF; obtain ⟨y8, e_y8, hF⟩ := hF
          refine rx_ci (rx_rV C (w_X9_ofBridge e_y8 b_m) Y_X9_ofBridge V_X9_ofBridge m_X9_92 (Or.inl ⟨_, _, _, _, b_m.1, rfl⟩) ⟨⟨rfl, rfl⟩, ⟨(Nat.le_of_ble_eq_true rfl), (Nat.le_of_ble_eq_true rfl)⟩, ⟨(Nat.le_of_ble_eq_true rfl), (Nat.le_of_ble_eq_true rfl)⟩⟩ rfl rfl (Nat.le_of_ble_eq_true rfl) dX9_roomNow_27) (fun r hh n1 hpp => ?_)
          obtain ⟨rfl, hu⟩ := hpp
          cases hu
          refine rx_goto C dX9_roomNow_30 34 (by decide) ?_
          refine rx_iadd C dX9_roomNow_34 ?_
          replace hF := rx_leE hF; obtain ⟨v9, e_v9, hF⟩ := hF
          rw [e_v9]
          refine rx_istore_n C dX9_roomNow_35 (by decide) [(1, .int v9), (0, .ref m), (2, .int x2)] rfl ?_
          refine rx_iinc C dX9_roomNow_36 2 rfl (x2 + 1) rfl (by decide) [(2, .int ((x2 + 1))), (1, .int v9), (0, .ref m)] rfl ?_
          refine rx_goto C dX9_roomNow_39 4 (by decide) ?_
          refine rx_sub [2, 1, 0] rfl ?_
          exact ih_loop2 _ _ _ hF b_m KK
  refine rx_sub [2, 1, 0] rfl ?_
  replace hF := rx_biE hF; obtain ⟨zl10, e_zl10, hF⟩ := hF
  refine loop2 _ zl10 _ _ e_zl10 b_m ?_
  refine rx_iload_n C dX9_roomNow_42 1 rfl ?_
  obtain rfl := Option.some.inj hF
  exact rx_iret C dX9_roomNow_43 (Nat.le_refl _) (Nat.le_refl _) ⟨rfl, rfl⟩
def F_X9_room (om : ob) : Option (Int32 × ob) := rx_le (upd om.1 0 ((0 : Int32)), om.2) fun o_m_1 => (F_X9_roomNow o_m_1).bind fun y2 => some (y2, o_m_1)
set_option maxRecDepth 100000 in
set_option maxHeartbeats 4000000 in
theorem w_X9_room {m : Nat} {om : ob} {y : Int32 × ob} (hF : F_X9_room om = some y) (b_m : bM k m om h) : Met l yX9_room (rx_ws yX9_room cX9_room 1 (some .int)) (rx_rm 3 65) (va_Pc [.ref m] (rx_G G k h n)) (va_Qi (fun r u => y.1 = r ∧ u.2 = n ∧ bM k m y.2 u.1 ∧ rx_fr [(m, 9)] h u.1) (rx_B G k) (rx_A k)) 0 0 (rx_A k) := by
  refine rx_start [(0, .ref m)] rfl (Nat.le_of_ble_eq_true rfl) (by decide) rfl (fun P9 E9 S9 M9 A9 B9 me9 c9 C hname => ?_)
  unfold F_X9_room at hF
  have fr : rx_fr [(m, 9)] h h := rx_fr0
  refine rx_aload_n C dX9_room_0 0 rfl ?_
  refine rx_iconst C dX9_room_1 (0 : Int32) (by decide) ?_
  replace hF := rx_leE hF; obtain ⟨o_m_1, e_o_m_1, hF⟩ := hF
  refine rx_pM0 C f_X9_1 dX9_room_2 b_m e_o_m_1 (fun hh c_m ff => ?_)
  replace b_m := c_m
  replace fr := rx_frt fr ff (fun a ha => ⟨ha.1, trivial⟩)
  refine rx_aload_n C dX9_room_5 0 rfl ?_
  replace hF := rx_biE hF; obtain ⟨y2, e_y2, hF⟩ := hF
  refine rx_ci (rx_rV C (w_X9_roomNow e_y2 b_m) Y_X9_roomNow V_X9_roomNow m_X9_281 (Or.inl ⟨_, _, _, _, b_m.1, rfl⟩) ⟨⟨rfl, rfl⟩, ⟨(Nat.le_of_ble_eq_true rfl), (Nat.le_of_ble_eq_true rfl)⟩, ⟨(Nat.le_of_ble_eq_true rfl), (Nat.le_of_ble_eq_true rfl)⟩⟩ rfl rfl (Nat.le_of_ble_eq_true rfl) dX9_room_6) (fun r hh n1 hpp => ?_)
  obtain ⟨rfl, hu⟩ := hpp
  cases hu
  obtain rfl := Option.some.inj hF
  exact rx_iret C dX9_room_9 (Nat.le_refl _) (Nat.le_refl _) ⟨rfl, rfl, b_m, fr⟩
end GEN
